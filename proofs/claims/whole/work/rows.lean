section
-- ===== PART A: goes FIRST, ahead of the names: the tables' words, and 'selects' of the private methods out of them =====
/-- a private method of a class that the tables say can be made, by its rows of tables_1 -/
def lw_okq (q : MethodName × Nat) : Prop := (q.1.cls ≠ "java/lang/invoke/MethodHandle" ∧ q.1.cls ≠ "java/lang/invoke/VarHandle") ∧ Cond.instantiable q.1.cls q.2 ∈ tables_1 ∧ Cond.privateMethod q.1 ∈ tables_1 ∧ Cond.instanceMethod q.1 ∈ tables_1
theorem lw_p0 : lw_okq (⟨"Assetmerge", "countThings", "()I"⟩, 6) := ⟨⟨by decide +kernel, by decide +kernel⟩, List.mem_of_getElem? (i := 17) (by decide +kernel), List.mem_of_getElem? (i := 145) (by decide +kernel), List.mem_of_getElem? (i := 146) (by decide +kernel)⟩
theorem lw_p1 : lw_okq (⟨"Assetmerge$Joining", "joinTwo", "(III)V"⟩, 2) := ⟨⟨by decide +kernel, by decide +kernel⟩, List.mem_of_getElem? (i := 74) (by decide +kernel), List.mem_of_getElem? (i := 178) (by decide +kernel), List.mem_of_getElem? (i := 179) (by decide +kernel)⟩
theorem lw_p2 : lw_okq (⟨"Assetmerge$Spreading", "spreadOnce", "(LAssetmerge$Inventory;I)Z"⟩, 2) := ⟨⟨by decide +kernel, by decide +kernel⟩, List.mem_of_getElem? (i := 99) (by decide +kernel), List.mem_of_getElem? (i := 191) (by decide +kernel), List.mem_of_getElem? (i := 192) (by decide +kernel)⟩
theorem lw_p3 : lw_okq (⟨"Assetmerge$Spreading", "areLinked", "(IILAssetmerge$Inventory;I)Z"⟩, 2) := ⟨⟨by decide +kernel, by decide +kernel⟩, List.mem_of_getElem? (i := 99) (by decide +kernel), List.mem_of_getElem? (i := 195) (by decide +kernel), List.mem_of_getElem? (i := 196) (by decide +kernel)⟩
theorem lw_p4 : lw_okq (⟨"Assetmerge$Inventory", "haveTwoKeys", "(II)Z"⟩, 10) := ⟨⟨by decide +kernel, by decide +kernel⟩, List.mem_of_getElem? (i := 25) (by decide +kernel), List.mem_of_getElem? (i := 217) (by decide +kernel), List.mem_of_getElem? (i := 218) (by decide +kernel)⟩
theorem lw_p5 : lw_okq (⟨"Assetmerge$Inventory", "haveForbiddenPair", "(I)Z"⟩, 10) := ⟨⟨by decide +kernel, by decide +kernel⟩, List.mem_of_getElem? (i := 25) (by decide +kernel), List.mem_of_getElem? (i := 221) (by decide +kernel), List.mem_of_getElem? (i := 222) (by decide +kernel)⟩
theorem lw_p6 : lw_okq (⟨"Assetmerge", "isThing", "(I)Z"⟩, 6) := ⟨⟨by decide +kernel, by decide +kernel⟩, List.mem_of_getElem? (i := 17) (by decide +kernel), List.mem_of_getElem? (i := 225) (by decide +kernel), List.mem_of_getElem? (i := 226) (by decide +kernel)⟩
theorem lw_p7 : lw_okq (⟨"Assetmerge", "isMember", "(II)Z"⟩, 6) := ⟨⟨by decide +kernel, by decide +kernel⟩, List.mem_of_getElem? (i := 17) (by decide +kernel), List.mem_of_getElem? (i := 229) (by decide +kernel), List.mem_of_getElem? (i := 230) (by decide +kernel)⟩
theorem lw_p8 : lw_okq (⟨"Assetmerge", "isGhostOn", "(II)Z"⟩, 6) := ⟨⟨by decide +kernel, by decide +kernel⟩, List.mem_of_getElem? (i := 17) (by decide +kernel), List.mem_of_getElem? (i := 238) (by decide +kernel), List.mem_of_getElem? (i := 239) (by decide +kernel)⟩
theorem lw_p9 : lw_okq (⟨"Assetmerge", "findLastSeen", "(I)I"⟩, 6) := ⟨⟨by decide +kernel, by decide +kernel⟩, List.mem_of_getElem? (i := 17) (by decide +kernel), List.mem_of_getElem? (i := 242) (by decide +kernel), List.mem_of_getElem? (i := 243) (by decide +kernel)⟩
theorem lw_p10 : lw_okq (⟨"Assetmerge", "becomesGhostOn", "(I)Z"⟩, 6) := ⟨⟨by decide +kernel, by decide +kernel⟩, List.mem_of_getElem? (i := 17) (by decide +kernel), List.mem_of_getElem? (i := 256) (by decide +kernel), List.mem_of_getElem? (i := 257) (by decide +kernel)⟩
theorem lw_p11 : lw_okq (⟨"Assetmerge", "countMembers", "(I)I"⟩, 6) := ⟨⟨by decide +kernel, by decide +kernel⟩, List.mem_of_getElem? (i := 17) (by decide +kernel), List.mem_of_getElem? (i := 268) (by decide +kernel), List.mem_of_getElem? (i := 269) (by decide +kernel)⟩
theorem lw_p12 : lw_okq (⟨"Assetmerge", "sumMembers", "(I)I"⟩, 6) := ⟨⟨by decide +kernel, by decide +kernel⟩, List.mem_of_getElem? (i := 17) (by decide +kernel), List.mem_of_getElem? (i := 272) (by decide +kernel), List.mem_of_getElem? (i := 273) (by decide +kernel)⟩
theorem lw_p13 : lw_okq (⟨"java/lang/Throwable", "fillInStackTrace", "(I)Ljava/lang/Throwable;"⟩, 6) := ⟨⟨by decide +kernel, by decide +kernel⟩, List.mem_of_getElem? (i := 327) (by decide +kernel), List.mem_of_getElem? (i := 325) (by decide +kernel), List.mem_of_getElem? (i := 326) (by decide +kernel)⟩
theorem lw_p14 : lw_okq (⟨"Assetmerge", "checkSource", "(I)V"⟩, 6) := ⟨⟨by decide +kernel, by decide +kernel⟩, List.mem_of_getElem? (i := 17) (by decide +kernel), List.mem_of_getElem? (i := 385) (by decide +kernel), List.mem_of_getElem? (i := 386) (by decide +kernel)⟩
theorem lw_p15 : lw_okq (⟨"Assetmerge", "checkRecord", "(I)V"⟩, 6) := ⟨⟨by decide +kernel, by decide +kernel⟩, List.mem_of_getElem? (i := 17) (by decide +kernel), List.mem_of_getElem? (i := 428) (by decide +kernel), List.mem_of_getElem? (i := 429) (by decide +kernel)⟩
def lw_privs_1 : List (MethodName × Nat) := [(⟨"Assetmerge", "countThings", "()I"⟩, 6), (⟨"Assetmerge$Joining", "joinTwo", "(III)V"⟩, 2), (⟨"Assetmerge$Spreading", "spreadOnce", "(LAssetmerge$Inventory;I)Z"⟩, 2), (⟨"Assetmerge$Spreading", "areLinked", "(IILAssetmerge$Inventory;I)Z"⟩, 2), (⟨"Assetmerge$Inventory", "haveTwoKeys", "(II)Z"⟩, 10), (⟨"Assetmerge$Inventory", "haveForbiddenPair", "(I)Z"⟩, 10), (⟨"Assetmerge", "isThing", "(I)Z"⟩, 6), (⟨"Assetmerge", "isMember", "(II)Z"⟩, 6), (⟨"Assetmerge", "isGhostOn", "(II)Z"⟩, 6), (⟨"Assetmerge", "findLastSeen", "(I)I"⟩, 6), (⟨"Assetmerge", "becomesGhostOn", "(I)Z"⟩, 6), (⟨"Assetmerge", "countMembers", "(I)I"⟩, 6), (⟨"Assetmerge", "sumMembers", "(I)I"⟩, 6), (⟨"java/lang/Throwable", "fillInStackTrace", "(I)Ljava/lang/Throwable;"⟩, 6), (⟨"Assetmerge", "checkSource", "(I)V"⟩, 6), (⟨"Assetmerge", "checkRecord", "(I)V"⟩, 6)]
theorem lw_r1 : ∀ q ∈ lw_privs_1, lw_okq q := List.forall_mem_cons.mpr ⟨lw_p0, List.forall_mem_cons.mpr ⟨lw_p1, List.forall_mem_cons.mpr ⟨lw_p2, List.forall_mem_cons.mpr ⟨lw_p3, List.forall_mem_cons.mpr ⟨lw_p4, List.forall_mem_cons.mpr ⟨lw_p5, List.forall_mem_cons.mpr ⟨lw_p6, List.forall_mem_cons.mpr ⟨lw_p7, List.forall_mem_cons.mpr ⟨lw_p8, List.forall_mem_cons.mpr ⟨lw_p9, List.forall_mem_cons.mpr ⟨lw_p10, List.forall_mem_cons.mpr ⟨lw_p11, List.forall_mem_cons.mpr ⟨lw_p12, List.forall_mem_cons.mpr ⟨lw_p13, List.forall_mem_cons.mpr ⟨lw_p14, List.forall_mem_cons.mpr ⟨lw_p15, fun _ h => absurd h List.not_mem_nil⟩⟩⟩⟩⟩⟩⟩⟩⟩⟩⟩⟩⟩⟩⟩⟩
theorem lw_p16 : lw_okq (⟨"Assetmerge", "checkForbidden", "(II)V"⟩, 6) := ⟨⟨by decide +kernel, by decide +kernel⟩, List.mem_of_getElem? (i := 17) (by decide +kernel), List.mem_of_getElem? (i := 499) (by decide +kernel), List.mem_of_getElem? (i := 500) (by decide +kernel)⟩
theorem lw_p17 : lw_okq (⟨"Assetmerge", "findThing", "(I)I"⟩, 6) := ⟨⟨by decide +kernel, by decide +kernel⟩, List.mem_of_getElem? (i := 17) (by decide +kernel), List.mem_of_getElem? (i := 544) (by decide +kernel), List.mem_of_getElem? (i := 545) (by decide +kernel)⟩
theorem lw_p18 : lw_okq (⟨"Assetmerge", "findMember", "(II)I"⟩, 6) := ⟨⟨by decide +kernel, by decide +kernel⟩, List.mem_of_getElem? (i := 17) (by decide +kernel), List.mem_of_getElem? (i := 572) (by decide +kernel), List.mem_of_getElem? (i := 573) (by decide +kernel)⟩
theorem lw_p19 : lw_okq (⟨"Assetmerge", "findStep", "(II)I"⟩, 6) := ⟨⟨by decide +kernel, by decide +kernel⟩, List.mem_of_getElem? (i := 17) (by decide +kernel), List.mem_of_getElem? (i := 591) (by decide +kernel), List.mem_of_getElem? (i := 592) (by decide +kernel)⟩
theorem lw_p20 : lw_okq (⟨"Assetmerge", "isKeyElsewhere", "(II)Z"⟩, 6) := ⟨⟨by decide +kernel, by decide +kernel⟩, List.mem_of_getElem? (i := 17) (by decide +kernel), List.mem_of_getElem? (i := 608) (by decide +kernel), List.mem_of_getElem? (i := 609) (by decide +kernel)⟩
theorem lw_p21 : lw_okq (⟨"Assetmerge", "findFirstByOrder", "(II)I"⟩, 6) := ⟨⟨by decide +kernel, by decide +kernel⟩, List.mem_of_getElem? (i := 17) (by decide +kernel), List.mem_of_getElem? (i := 653) (by decide +kernel), List.mem_of_getElem? (i := 654) (by decide +kernel)⟩
theorem lw_p22 : lw_okq (⟨"Assetmerge", "orderMembers", "(I)I"⟩, 6) := ⟨⟨by decide +kernel, by decide +kernel⟩, List.mem_of_getElem? (i := 17) (by decide +kernel), List.mem_of_getElem? (i := 657) (by decide +kernel), List.mem_of_getElem? (i := 658) (by decide +kernel)⟩
theorem lw_p23 : lw_okq (⟨"Assetmerge", "findFirstByPairs", "(II)I"⟩, 6) := ⟨⟨by decide +kernel, by decide +kernel⟩, List.mem_of_getElem? (i := 17) (by decide +kernel), List.mem_of_getElem? (i := 677) (by decide +kernel), List.mem_of_getElem? (i := 678) (by decide +kernel)⟩
theorem lw_p24 : lw_okq (⟨"Assetmerge", "tellsFact", "(III)Z"⟩, 6) := ⟨⟨by decide +kernel, by decide +kernel⟩, List.mem_of_getElem? (i := 17) (by decide +kernel), List.mem_of_getElem? (i := 681) (by decide +kernel), List.mem_of_getElem? (i := 682) (by decide +kernel)⟩
theorem lw_p25 : lw_okq (⟨"Assetmerge", "isBeaten", "(III)Z"⟩, 6) := ⟨⟨by decide +kernel, by decide +kernel⟩, List.mem_of_getElem? (i := 17) (by decide +kernel), List.mem_of_getElem? (i := 685) (by decide +kernel), List.mem_of_getElem? (i := 686) (by decide +kernel)⟩
theorem lw_p26 : lw_okq (⟨"AssetmergeModel", "isRecord", "(I)Z"⟩, 18) := ⟨⟨by decide +kernel, by decide +kernel⟩, List.mem_of_getElem? (i := 724) (by decide +kernel), List.mem_of_getElem? (i := 813) (by decide +kernel), List.mem_of_getElem? (i := 814) (by decide +kernel)⟩
theorem lw_p27 : lw_okq (⟨"AssetmergeModel", "lacks", "(I)Z"⟩, 18) := ⟨⟨by decide +kernel, by decide +kernel⟩, List.mem_of_getElem? (i := 724) (by decide +kernel), List.mem_of_getElem? (i := 825) (by decide +kernel), List.mem_of_getElem? (i := 826) (by decide +kernel)⟩
theorem lw_p28 : lw_okq (⟨"AssetmergeModel", "left", "()I"⟩, 18) := ⟨⟨by decide +kernel, by decide +kernel⟩, List.mem_of_getElem? (i := 724) (by decide +kernel), List.mem_of_getElem? (i := 833) (by decide +kernel), List.mem_of_getElem? (i := 834) (by decide +kernel)⟩
theorem lw_p29 : lw_okq (⟨"AssetmergeModel", "pair", "(II)I"⟩, 18) := ⟨⟨by decide +kernel, by decide +kernel⟩, List.mem_of_getElem? (i := 724) (by decide +kernel), List.mem_of_getElem? (i := 841) (by decide +kernel), List.mem_of_getElem? (i := 842) (by decide +kernel)⟩
theorem lw_p30 : lw_okq (⟨"AssetmergeModel", "countedPairs", "()I"⟩, 18) := ⟨⟨by decide +kernel, by decide +kernel⟩, List.mem_of_getElem? (i := 724) (by decide +kernel), List.mem_of_getElem? (i := 845) (by decide +kernel), List.mem_of_getElem? (i := 846) (by decide +kernel)⟩
theorem lw_p31 : lw_okq (⟨"AssetmergeModel", "raises", "(I)I"⟩, 18) := ⟨⟨by decide +kernel, by decide +kernel⟩, List.mem_of_getElem? (i := 724) (by decide +kernel), List.mem_of_getElem? (i := 853) (by decide +kernel), List.mem_of_getElem? (i := 854) (by decide +kernel)⟩
def lw_privs_2 : List (MethodName × Nat) := [(⟨"Assetmerge", "checkForbidden", "(II)V"⟩, 6), (⟨"Assetmerge", "findThing", "(I)I"⟩, 6), (⟨"Assetmerge", "findMember", "(II)I"⟩, 6), (⟨"Assetmerge", "findStep", "(II)I"⟩, 6), (⟨"Assetmerge", "isKeyElsewhere", "(II)Z"⟩, 6), (⟨"Assetmerge", "findFirstByOrder", "(II)I"⟩, 6), (⟨"Assetmerge", "orderMembers", "(I)I"⟩, 6), (⟨"Assetmerge", "findFirstByPairs", "(II)I"⟩, 6), (⟨"Assetmerge", "tellsFact", "(III)Z"⟩, 6), (⟨"Assetmerge", "isBeaten", "(III)Z"⟩, 6), (⟨"AssetmergeModel", "isRecord", "(I)Z"⟩, 18), (⟨"AssetmergeModel", "lacks", "(I)Z"⟩, 18), (⟨"AssetmergeModel", "left", "()I"⟩, 18), (⟨"AssetmergeModel", "pair", "(II)I"⟩, 18), (⟨"AssetmergeModel", "countedPairs", "()I"⟩, 18), (⟨"AssetmergeModel", "raises", "(I)I"⟩, 18)]
theorem lw_r2 : ∀ q ∈ lw_privs_2, lw_okq q := List.forall_mem_cons.mpr ⟨lw_p16, List.forall_mem_cons.mpr ⟨lw_p17, List.forall_mem_cons.mpr ⟨lw_p18, List.forall_mem_cons.mpr ⟨lw_p19, List.forall_mem_cons.mpr ⟨lw_p20, List.forall_mem_cons.mpr ⟨lw_p21, List.forall_mem_cons.mpr ⟨lw_p22, List.forall_mem_cons.mpr ⟨lw_p23, List.forall_mem_cons.mpr ⟨lw_p24, List.forall_mem_cons.mpr ⟨lw_p25, List.forall_mem_cons.mpr ⟨lw_p26, List.forall_mem_cons.mpr ⟨lw_p27, List.forall_mem_cons.mpr ⟨lw_p28, List.forall_mem_cons.mpr ⟨lw_p29, List.forall_mem_cons.mpr ⟨lw_p30, List.forall_mem_cons.mpr ⟨lw_p31, fun _ h => absurd h List.not_mem_nil⟩⟩⟩⟩⟩⟩⟩⟩⟩⟩⟩⟩⟩⟩⟩⟩
theorem lw_p32 : lw_okq (⟨"AssetmergeModel", "finds", "(I)V"⟩, 18) := ⟨⟨by decide +kernel, by decide +kernel⟩, List.mem_of_getElem? (i := 724) (by decide +kernel), List.mem_of_getElem? (i := 873) (by decide +kernel), List.mem_of_getElem? (i := 874) (by decide +kernel)⟩
theorem lw_p33 : lw_okq (⟨"AssetmergeModel", "joins", "(I)V"⟩, 18) := ⟨⟨by decide +kernel, by decide +kernel⟩, List.mem_of_getElem? (i := 724) (by decide +kernel), List.mem_of_getElem? (i := 877) (by decide +kernel), List.mem_of_getElem? (i := 878) (by decide +kernel)⟩
theorem lw_p34 : lw_okq (⟨"AssetmergeModel", "clusters", "(I)V"⟩, 18) := ⟨⟨by decide +kernel, by decide +kernel⟩, List.mem_of_getElem? (i := 724) (by decide +kernel), List.mem_of_getElem? (i := 881) (by decide +kernel), List.mem_of_getElem? (i := 882) (by decide +kernel)⟩
theorem lw_p35 : lw_okq (⟨"AssetmergeModel", "counts", "(I)Z"⟩, 18) := ⟨⟨by decide +kernel, by decide +kernel⟩, List.mem_of_getElem? (i := 724) (by decide +kernel), List.mem_of_getElem? (i := 885) (by decide +kernel), List.mem_of_getElem? (i := 886) (by decide +kernel)⟩
theorem lw_p36 : lw_okq (⟨"AssetmergeModel", "areLinked", "(III)Z"⟩, 18) := ⟨⟨by decide +kernel, by decide +kernel⟩, List.mem_of_getElem? (i := 724) (by decide +kernel), List.mem_of_getElem? (i := 889) (by decide +kernel), List.mem_of_getElem? (i := 890) (by decide +kernel)⟩
theorem lw_p37 : lw_okq (⟨"AssetmergeModel", "mayJoin", "(II)Z"⟩, 18) := ⟨⟨by decide +kernel, by decide +kernel⟩, List.mem_of_getElem? (i := 724) (by decide +kernel), List.mem_of_getElem? (i := 893) (by decide +kernel), List.mem_of_getElem? (i := 894) (by decide +kernel)⟩
theorem lw_p38 : lw_okq (⟨"AssetmergeModel", "thingMany", "()I"⟩, 18) := ⟨⟨by decide +kernel, by decide +kernel⟩, List.mem_of_getElem? (i := 724) (by decide +kernel), List.mem_of_getElem? (i := 906) (by decide +kernel), List.mem_of_getElem? (i := 907) (by decide +kernel)⟩
theorem lw_p39 : lw_okq (⟨"AssetmergeModel", "isOf", "(II)Z"⟩, 18) := ⟨⟨by decide +kernel, by decide +kernel⟩, List.mem_of_getElem? (i := 724) (by decide +kernel), List.mem_of_getElem? (i := 914) (by decide +kernel), List.mem_of_getElem? (i := 915) (by decide +kernel)⟩
theorem lw_p40 : lw_okq (⟨"AssetmergeModel", "isShared", "(II)Z"⟩, 18) := ⟨⟨by decide +kernel, by decide +kernel⟩, List.mem_of_getElem? (i := 724) (by decide +kernel), List.mem_of_getElem? (i := 934) (by decide +kernel), List.mem_of_getElem? (i := 935) (by decide +kernel)⟩
theorem lw_p41 : lw_okq (⟨"AssetmergeModel", "weightOf", "(I)I"⟩, 18) := ⟨⟨by decide +kernel, by decide +kernel⟩, List.mem_of_getElem? (i := 724) (by decide +kernel), List.mem_of_getElem? (i := 955) (by decide +kernel), List.mem_of_getElem? (i := 956) (by decide +kernel)⟩
theorem lw_p42 : lw_okq (⟨"AssetmergeModel", "teller", "(II)I"⟩, 18) := ⟨⟨by decide +kernel, by decide +kernel⟩, List.mem_of_getElem? (i := 724) (by decide +kernel), List.mem_of_getElem? (i := 963) (by decide +kernel), List.mem_of_getElem? (i := 964) (by decide +kernel)⟩
theorem lw_p43 : lw_okq (⟨"AssetmergeModel", "isAhead", "(II)Z"⟩, 18) := ⟨⟨by decide +kernel, by decide +kernel⟩, List.mem_of_getElem? (i := 724) (by decide +kernel), List.mem_of_getElem? (i := 967) (by decide +kernel), List.mem_of_getElem? (i := 968) (by decide +kernel)⟩
theorem lw_p44 : lw_okq (⟨"AssetmergeModel", "lastOf", "(I)I"⟩, 18) := ⟨⟨by decide +kernel, by decide +kernel⟩, List.mem_of_getElem? (i := 724) (by decide +kernel), List.mem_of_getElem? (i := 992) (by decide +kernel), List.mem_of_getElem? (i := 993) (by decide +kernel)⟩
def lw_privs_3 : List (MethodName × Nat) := [(⟨"AssetmergeModel", "finds", "(I)V"⟩, 18), (⟨"AssetmergeModel", "joins", "(I)V"⟩, 18), (⟨"AssetmergeModel", "clusters", "(I)V"⟩, 18), (⟨"AssetmergeModel", "counts", "(I)Z"⟩, 18), (⟨"AssetmergeModel", "areLinked", "(III)Z"⟩, 18), (⟨"AssetmergeModel", "mayJoin", "(II)Z"⟩, 18), (⟨"AssetmergeModel", "thingMany", "()I"⟩, 18), (⟨"AssetmergeModel", "isOf", "(II)Z"⟩, 18), (⟨"AssetmergeModel", "isShared", "(II)Z"⟩, 18), (⟨"AssetmergeModel", "weightOf", "(I)I"⟩, 18), (⟨"AssetmergeModel", "teller", "(II)I"⟩, 18), (⟨"AssetmergeModel", "isAhead", "(II)Z"⟩, 18), (⟨"AssetmergeModel", "lastOf", "(I)I"⟩, 18)]
theorem lw_r3 : ∀ q ∈ lw_privs_3, lw_okq q := List.forall_mem_cons.mpr ⟨lw_p32, List.forall_mem_cons.mpr ⟨lw_p33, List.forall_mem_cons.mpr ⟨lw_p34, List.forall_mem_cons.mpr ⟨lw_p35, List.forall_mem_cons.mpr ⟨lw_p36, List.forall_mem_cons.mpr ⟨lw_p37, List.forall_mem_cons.mpr ⟨lw_p38, List.forall_mem_cons.mpr ⟨lw_p39, List.forall_mem_cons.mpr ⟨lw_p40, List.forall_mem_cons.mpr ⟨lw_p41, List.forall_mem_cons.mpr ⟨lw_p42, List.forall_mem_cons.mpr ⟨lw_p43, List.forall_mem_cons.mpr ⟨lw_p44, fun _ h => absurd h List.not_mem_nil⟩⟩⟩⟩⟩⟩⟩⟩⟩⟩⟩⟩⟩
def lw_privs : List (MethodName × Nat) := lw_privs_1 ++ (lw_privs_2 ++ (lw_privs_3))
def lw_tbl : List Cond := k2_sels lw_privs ++ tables_1
theorem lw_privs_ok : ∀ q ∈ lw_privs, lw_okq q := by
  show ∀ q ∈ lw_privs_1 ++ (lw_privs_2 ++ (lw_privs_3)), lw_okq q
  exact List.forall_mem_append.mpr ⟨lw_r1, List.forall_mem_append.mpr ⟨lw_r2, lw_r3⟩⟩
/-- the streams that the claim lets the run draw from -/
abbrev lw_cs : List Choice := [Jvm.Choice.named "NaN.bits"]
theorem lw_bits : nanBits ∈ lw_cs := by first | decide | exact List.mem_cons_self | simp [lw_cs, nanBits]
end
section
/-! ===== BEGIN words of one list among another's, by their places ===== -/
theorem goodIn_r {big : List Cond} (ws : List Cond) (ps : List Nat) (hp : ws = ps.filterMap (fun i => big[i]?)) (h : ws.all goodWord = true) : GoodIn big ws := by
  intro w hw
  have h1 := List.all_eq_true.mp h w hw
  rw [hp] at hw
  obtain ⟨i, -, hi⟩ := List.mem_filterMap.mp hw
  have hm : w ∈ big := by first | exact List.mem_of_getElem? hi | exact List.getElem?_mem hi
  exact ⟨hm, good_of_word h1⟩
theorem goodIn_app {big a b : List Cond} (ha : GoodIn big a) (hb : GoodIn big b) : GoodIn big (a ++ b) := fun w h => (List.mem_append.mp h).elim (ha w) (hb w)
theorem goodIn_ca {big a b : List Cond} {c : Cond} (ha : GoodIn big (c :: a)) (hb : GoodIn big b) : GoodIn big (c :: (a ++ b)) := fun w h => (List.mem_cons.mp h).elim (fun e => ha w (List.mem_cons.mpr (Or.inl e))) (fun h => (List.mem_append.mp h).elim (fun h => ha w (List.mem_cons.mpr (Or.inr h))) (hb w))
theorem goodIn_sub {big ws : List Cond} (hm : ∀ w ∈ ws, w ∈ big) (h : ws.all goodWord = true) : GoodIn big ws := fun w hw => ⟨hm w hw, good_of_word (List.all_eq_true.mp h w hw)⟩
/-! ===== END ===== -/

/-! ===== BEGIN new T[n][m]: the outer array a place, the inner ones among the pooled ===== -/
/-- f, but v at every address of l -/
def vr_up {α : Type} (f : Nat → α) (l : List Nat) (v : α) : Nat → α := fun a => if a ∈ l then v else f a
theorem vr_up_in {α : Type} {f : Nat → α} {l : List Nat} {v : α} {a : Nat} (h : a ∈ l) : vr_up f l v a = v := if_pos h
theorem vr_up_ne {α : Type} {f : Nat → α} {l : List Nat} {v : α} {a : Nat} (h : a ∉ l) : vr_up f l v a = f a := if_neg h
theorem vr_rows {L l : List Nat} {f : Nat → va_E} {e : va_E} (h : ∀ a, a ∈ l → a ∉ L) : va_pl L f ++ l.map (fun a => (a, e)) = va_pl (L ++ l) (vr_up f l e) := by
  unfold va_pl
  rw [List.map_append]
  congr 1
  · apply List.map_congr_left
    intro a ha
    rw [vr_up_ne (fun q => h a q ha)]
  · apply List.map_congr_left
    intro a ha
    rw [vr_up_in ha]
theorem vr_lay {X rows : va_W} {x : Nat × va_E} {pl : va_W} {D : va_G} {cl : List vw_C} {H : Heap} (hP : va_P D cl (((X ++ pl) ++ [x]) ++ rows) H) : va_P D cl ((X ++ [x]) ++ (pl ++ rows)) H := by
  rw [List.append_assoc (X ++ pl)] at hP
  have h := va_P.swap hP
  rw [← List.append_assoc X] at h
  have h2 := va_P.swap h
  rw [List.append_assoc (X ++ [x])] at h2
  exact h2
theorem vr_layD {X rows : va_W} {x : Nat × va_E} {pl : va_W} {A : Nat → Prop} (hD : va_D A (((X ++ pl) ++ [x]) ++ rows)) : va_D A ((X ++ [x]) ++ (pl ++ rows)) := by
  rw [List.append_assoc (X ++ pl)] at hD
  have h := va_D.swap hD
  rw [← List.append_assoc X] at h
  have h2 := va_D.swap h
  rw [List.append_assoc (X ++ [x])] at h2
  exact h2
theorem vr_outer (c : ClassId) (N h0 : Nat) : ∀ i : Nat, Jvm.Free.Multi.outerC c N h0 i = arrV c N (fun j => va_rf (if j < i then some (h0 + 1 + j) else none))
  | 0 => by
    show ({ cls := c, slots := Array.replicate N .null, vm := .none } : Cell) = _
    rw [arrV_new]
    refine congrArg (arrV c N) (funext fun j => ?_)
    simp [va_rf]
  | i + 1 => by
    show (Jvm.Free.Multi.outerC c N h0 i).setSlot i (.ref (h0 + 1 + i)) = _
    rw [vr_outer c N h0 i, arrV_store]
    refine congrArg (arrV c N) (funext fun j => ?_)
    by_cases e : j = i
    · subst e
      simp [updV, va_rf]
    · by_cases h : j < i
      · simp [updV, e, h, Nat.lt_succ_of_lt h]
      · simp [updV, e, h, show ¬ j < i + 1 by omega]
def va_AOA (ty : FieldType) (U : State) : Prop := (Cond.arrayOver (.array ty)).before #[] U = true
theorem va_AOA.use {ty : FieldType} {A : Array Value} {U : State} (h : va_AOA ty U) : (Cond.arrayOver (.array ty)).before A U = true := h
section VGM
variable {p : Program} {l : Launch} {e : Env} {R : Room} {s : State} {m : MethodId} {args : Array Value} {below : List Frame} {meth : Method} {c : Code} {H : Heap} {locs : List Loc} {cells slots : Nat} {Q : State → Prop}
variable {cc : ByteArray} {pc : Nat} {ls : Array Slot} {rest : List Value} {D : va_G} {cl : List vw_C} {A : Nat → Prop} {a : Nat} {tys : List (ClassId × FieldType)} {ws : va_W} {H0 : Heap}
theorem va_mna {X : va_W} {L : List Nat} {f : Nat → va_E} {cc : ByteArray} (hexec : p.tables.exec = Jvm.exec) (hb : c.code = cc) {own : String} {index : Nat} {ty : FieldType} {cy : ClassId} (hown : s.vm.findClass own = some m.cls) (hclink : (Cond.classLink own index ("[" ++ (FieldType.array ty).toString)).before args s = true) (hover : va_AOA ty s) (harr : (Cond.arrayClass ty).before args s = true) (hcy : s.vm.findClass (FieldType.array ty).toString = some cy)
    (hK : va_K D cl tys s) (hP : va_P D cl (X ++ va_pl L f) H) (hD : va_D A (X ++ va_pl L f)) (hS : va_S A H0 H locs) (hA : ∀ q, H0.size ≤ q → A q) {n k : Int32} {N' K' : Nat} {z : vp_A} (hn : ¬ n < 0) (hk : ¬ k < 0) (hN : n.toNatClampNeg = N') (hM : k.toNatClampNeg = K')
    (hb1 : N' * 4 ≤ 536870912) (hb2 : K' * componentBytes ty ≤ 536870912) (hb3 : K' ≤ 536870912) (hdf : fits ty (defaultValue ty) = true) (hdd : (defaultValue ty).isDefault = true) (hcells : cells + (1 + N') ≤ R.cells) (hslots : slots + (N' + N' * K') ≤ R.slots) (hz : ∀ c : ClassId, Jvm.Free.Multi.innerC c K' (defaultValue ty) = vp_cell c z) (hdg : decode cc pc = .ok (.multianewarray index 2, 4))
    (kk : ∀ (q : Nat) (r : Nat → Nat) (cA : ClassId) (H1 : Heap), (∀ i j : Nat, i < N' → j < N' → r i = r j → i = j) → (∀ i : Nat, i < N' → r i ∉ L) → va_K D cl (tys ++ [(cA, .array ty)]) s →
      va_P D cl ((X ++ [(q, .inl (cA, N', .inr (.inr (.inr (.inr (fun i => if i < N' then some (r i) else none))))))]) ++ va_pl (L ++ (List.range N').map r) (vr_up f ((List.range N').map r) (.inl (cy, z)))) H1 → va_D A ((X ++ [(q, .inl (cA, N', .inr (.inr (.inr (.inr (fun i => if i < N' then some (r i) else none))))))]) ++ va_pl (L ++ (List.range N').map r) (vr_up f ((List.range N').map r) (.inl (cy, z)))) → va_S A H0 H1 locs →
      W p l e R s m args below meth c H1 locs (cells + 1 + N') (slots + N' + N' * K') Q (F0 m (pc + 4) ls (.ref q :: rest))) : W p l e R s m args below meth c H locs cells slots Q (F0 m pc ls (.int k :: .int n :: rest)) := by
  subst hN
  subst hM
  intro T hT Xs
  obtain ⟨vm₁, cA, comp, -, fA, fC, hO, -, X', step⟩ := Xs.multianewarray2F hexec hown hclink (va_AOA.use hover) harr (g := F0 m pc ls (.int k :: .int n :: rest)) rfl (by rw [hb]; exact hdg) rfl hn hk hb1 hb2 hb3 hdf hdd hcells hslots
  have ec : some cy = some comp := hcy.symm.trans fC
  cases ec
  generalize hF : Jvm.Free.Multi.fill (T.setVm vm₁) cA cy n.toNatClampNeg k.toNatClampNeg (defaultValue ty) n.toNatClampNeg = F at X' step
  have hTh : (T.setVm vm₁).heap = H := hT
  obtain ⟨f1, f2, -, -⟩ := Jvm.Free.Multi.fill_facts (T.setVm vm₁) cA cy n.toNatClampNeg k.toNatClampNeg (defaultValue ty) n.toNatClampNeg
  rw [hF, hTh] at f1 f2
  have hold : ∀ x : Nat, x < H.size → F.heap[x]? = H[x]? := fun x hx => by
    have := Jvm.Free.Multi.fill_old (T.setVm vm₁) cA cy n.toNatClampNeg k.toNatClampNeg (defaultValue ty) (a := x) (by rw [hTh]; exact hx) n.toNatClampNeg
    rw [hF, hTh] at this
    exact this
  have hrow : ∀ j : Nat, j < n.toNatClampNeg → F.heap[H.size + 1 + j]? = some (vp_cell cy z) := fun j hj => by
    have := Jvm.Free.Multi.fill_inner (T.setVm vm₁) cA cy n.toNatClampNeg k.toNatClampNeg (defaultValue ty) n.toNatClampNeg j hj
    rw [hF, hTh, hz] at this
    exact this
  have hout : Jvm.Free.Multi.outerC cA n.toNatClampNeg H.size n.toNatClampNeg = vp_cell cA (n.toNatClampNeg, .inr (.inr (.inr (.inr (fun i => if i < n.toNatClampNeg then some (H.size + 1 + i) else none))))) := by
    rw [vp_cell_q]
    exact vr_outer cA n.toNatClampNeg H.size n.toNatClampNeg
  rw [hout] at f2
  have hlt : ∀ a, a ∈ L → a < H.size := fun a ha => by
    obtain ⟨k9, hk9⟩ := va_pl_get (X := X) (f := f) ha
    exact (hP k9 _ hk9).lt
  have hnl : ∀ i : Nat, i < n.toNatClampNeg → H.size + 1 + i ∉ L := fun i _ h => by
    have := hlt _ h
    omega
  have hnm : ∀ a, a ∈ (List.range n.toNatClampNeg).map (fun i => H.size + 1 + i) → a ∉ L := fun a ha h => by
    obtain ⟨i, -, rfl⟩ := List.mem_map.mp ha
    have := hlt _ h
    omega
  have hP0 : va_P D cl (X ++ va_pl L f) F.heap := hP.kept (fun k9 x hx => hold x.1 ((hP k9 x hx).lt))
  have hP1 : va_P D cl ((X ++ va_pl L f) ++ [(H.size, .inl (cA, n.toNatClampNeg, .inr (.inr (.inr (.inr (fun i => if i < n.toNatClampNeg then some (H.size + 1 + i) else none))))))]) F.heap := hP0.app (fun k9 x hx => by
    have h0 : k9 < 1 := (List.getElem?_eq_some_iff.mp hx).1
    rw [show k9 = 0 by omega] at hx
    cases hx
    exact f2)
  have hP2 : va_P D cl (((X ++ va_pl L f) ++ [(H.size, .inl (cA, n.toNatClampNeg, .inr (.inr (.inr (.inr (fun i => if i < n.toNatClampNeg then some (H.size + 1 + i) else none))))))]) ++ ((List.range n.toNatClampNeg).map (fun i => H.size + 1 + i)).map (fun a => (a, .inl (cy, z)))) F.heap := hP1.app (fun k9 x hx => by
    obtain ⟨a, ha, rfl⟩ := List.mem_map.mp (List.mem_of_getElem? hx)
    obtain ⟨i, hi, rfl⟩ := List.mem_map.mp ha
    exact hrow i (List.mem_range.mp hi))
  have hD2 : va_D A (((X ++ va_pl L f) ++ [(H.size, .inl (cA, n.toNatClampNeg, .inr (.inr (.inr (.inr (fun i => if i < n.toNatClampNeg then some (H.size + 1 + i) else none))))))]) ++ ((List.range n.toNatClampNeg).map (fun i => H.size + 1 + i)).map (fun a => (a, .inl (cy, z)))) := by
    have hD1 := hD.push (e := .inl (cA, n.toNatClampNeg, .inr (.inr (.inr (.inr (fun i => if i < n.toNatClampNeg then some (H.size + 1 + i) else none)))))) hP rfl (hA _ hS.1)
    generalize hW1 : (X ++ va_pl L f) ++ [(H.size, .inl (cA, n.toNatClampNeg, .inr (.inr (.inr (.inr (fun i => if i < n.toNatClampNeg then some (H.size + 1 + i) else none))))))] = W1 at hD1 hP1 ⊢
    have hle : ∀ (k9 : Nat) (x : Nat × va_E), W1[k9]? = some x → x.1 ≤ H.size := fun k9 x hx => by
      rw [← hW1] at hx
      by_cases hl : k9 < (X ++ va_pl L f).length
      · rw [List.getElem?_append_left hl] at hx
        exact Nat.le_of_lt ((hP k9 x hx).lt)
      · rw [List.getElem?_append_right (by omega)] at hx
        have h0 : k9 - (X ++ va_pl L f).length < 1 := (List.getElem?_eq_some_iff.mp hx).1
        rw [show k9 - (X ++ va_pl L f).length = 0 by omega] at hx
        cases hx
        exact Nat.le_refl _
    have hr : ∀ (k9 : Nat) (x : Nat × va_E), (((List.range n.toNatClampNeg).map (fun i => H.size + 1 + i)).map (fun a => ((a, .inl (cy, z)) : Nat × va_E)))[k9]? = some x → x.1 = H.size + 1 + k9 := fun k9 x hx => by
      rw [List.getElem?_map, List.getElem?_map] at hx
      by_cases h9 : k9 < n.toNatClampNeg
      · rw [List.getElem?_range h9] at hx
        cases hx
        rfl
      · have hn0 : (List.range n.toNatClampNeg)[k9]? = none := List.getElem?_eq_none (by rw [List.length_range]; omega)
        rw [hn0] at hx
        cases hx
    refine ⟨fun i j x y hi hj hxy => ?_, fun k9 x hx => ?_⟩
    · by_cases h1 : i < W1.length <;> by_cases h2 : j < W1.length
      · rw [List.getElem?_append_left h1] at hi
        rw [List.getElem?_append_left h2] at hj
        exact hD1.1 i j x y hi hj hxy
      · rw [List.getElem?_append_left h1] at hi
        rw [List.getElem?_append_right (by omega)] at hj
        have := hle _ _ hi
        have := hr _ _ hj
        omega
      · rw [List.getElem?_append_right (by omega)] at hi
        rw [List.getElem?_append_left h2] at hj
        have := hle _ _ hj
        have := hr _ _ hi
        omega
      · rw [List.getElem?_append_right (by omega)] at hi hj
        have := hr _ _ hi
        have := hr _ _ hj
        omega
    · by_cases h1 : k9 < W1.length
      · rw [List.getElem?_append_left h1] at hx
        exact hD1.2 k9 x hx
      · rw [List.getElem?_append_right (by omega)] at hx
        have := hr _ _ hx
        exact hA _ (by have := hS.1; omega)
  have hAr : ArrOfT s cA (.array ty) := fun N9 z9 => by
    obtain ⟨-, k9, hk9, cm9, hkk9⟩ := (hO 0 0 0).1
    exact ⟨(fun q hq => by cases hq), k9, hk9, cm9, hkk9⟩
  have hK2 : va_K D cl (tys ++ [(cA, .array ty)]) s := ⟨hK.1, fun k9 x hx => by
    by_cases hl : k9 < tys.length
    · rw [List.getElem?_append_left hl] at hx
      exact hK.2 k9 x hx
    · rw [List.getElem?_append_right (by omega)] at hx
      have h0 : k9 - tys.length < 1 := (List.getElem?_eq_some_iff.mp hx).1
      rw [show k9 - tys.length = 0 by omega] at hx
      cases hx
      exact ⟨hAr, fA⟩⟩
  obtain ⟨t, a1, b1⟩ := kk H.size (fun i => H.size + 1 + i) cA F.heap (fun i j _ _ h => by have h9 : H.size + 1 + i = H.size + 1 + j := h; omega) hnl hK2 (by rw [← vr_rows hnm]; exact vr_lay hP2) (by rw [← vr_rows hnm]; exact vr_layD hD2) ⟨by rw [f1]; have := hS.1; omega, fun x h1 h2 => (hold x (Nat.lt_of_lt_of_le h1 hS.1)).trans (hS.2.1 x h1 h2), hS.2.2⟩ F rfl X'
  refine ⟨t, step t ?_, b1⟩
  have e : T.heap.size = H.size := by rw [hT]
  rw [e]
  exact a1
end VGM
/-! ===== END ===== -/

/-! ===== BEGIN exceptions that leave a method, and their catching by the caller (launches without stack traces) ===== -/
section VXA
/-! The laws vx_back, vx_callV, vx_callS, vx_callSW, vx_throw0, vx_throwS follow proofs of the library, with one case more: JvmDerived/Free/Laws.lean (Back.of_free), Shelf42/LK1.lean (callV, callS), Shelf/KitTraced.lean (throwNew0V, throwNewS). -/
/-- where a method has thrown q: the class by its name, the cell, what was written, the world -/
def vx_T (XC : String → State → State → Prop) (st : State) (q : Addr) (t : State) (mc ms : Nat) (free : Addr → Prop) : Prop :=
  ∃ (E : String) (ce : Cell) (L : List Loc), XC E st t ∧ t.heap[q]? = some ce ∧ ce.vm = .none ∧ st.vm.findClass E = some ce.cls ∧ st.WarmedH t.vm ∧ st.sameButNew ({ t with vm := st.vm } : State) L mc ms ∧ ∀ z ∈ L, free z.base
def vx_Q (Qc : Array Value → State → Outcome → State → Prop) (XC : String → State → State → Prop) (mc ms : Nat) (free : Addr → Prop) : Array Value → State → Outcome → State → Prop := fun a st o t =>
  (Qc a st o t ∧ ∃ L, FrameEnd st o t L mc ms ∧ ∀ q ∈ L, free q.base) ∨ ∃ q, o = .threw q ∧ vx_T XC st q t mc ms free
/-- a callee that returns or throws -/
def vx_Met (l : Launch) (y : MethodName) (ws : List Cond) (rm : Room) (Pc : Array Value → State → Prop) (Qc : Array Value → State → Outcome → State → Prop) (XC : String → State → State → Prop) (mc ms : Nat) (free : Addr → Prop) : Prop :=
  MetFree l y (headSpec ws rm) Pc (fun _ _ _ _ _ => True) (vx_Q Qc XC mc ms free)
def vx_Post (XC : String → State → State → Prop) (mc ms : Nat) (free : Addr → Prop) : Pt → Array Value → Addr → Pt → Prop := fun A a q B =>
  ∃ (g : JFrame) (mk : MethodId) (t : State) (L : List Loc) (E : String) (ce : Cell), B.U.heap = t.heap ∧ B.U.vm = t.vm ∧ XC E (A.U.calling g mk a) t ∧ t.heap[q]? = some ce ∧ ce.vm = .none ∧ A.U.vm.findClass E = some ce.cls ∧ B.locs = A.locs ++ L ∧ (∀ z ∈ L, free z.base) ∧ B.cells = A.cells + mc ∧ B.slots = A.slots + ms
def vx_Back (l : Launch) (R : Room) (p : Program) (e : Env) (below : List Frame) (s : State) (sargs : Array Value) (y : MethodName) (len W9 : Nat)
    (Pre : Pt → Array Value → Prop) (Post : Pt → Array Value → Option Value → Pt → Prop) (PostX : Pt → Array Value → Addr → Pt → Prop) : Prop :=
  ∀ (m : MethodId) (meth : Method) (c : Code) (A : Pt) (g : JFrame) (ig : Instr) (mk : MethodId) (a : Array Value),
    Stand p l e R s m sargs below meth c A.U A.locs A.cells A.slots → g.method = m → g.locals.size = c.maxLocals → decode c.code g.pc = .ok (ig, len) →
    2 * g.monitorRoom + (g.stack.map fun v => v.category).sum ≤ W9 → A.U.methodNamed? y = some mk → Pre A a →
    (∃ (v : Option Value) (B : Pt), Stand p l e R s m sargs below meth c B.U B.locs B.cells B.slots ∧ Post A a v B ∧
      Steps p.tables e below (doInvoke e (A.U.setTop g) [] mk a).1 (B.U.setTop { g with pc := g.pc + len, stack := v.toList ++ g.stack })) ∨
    (∃ (q : Addr) (B : Pt), Stand p l e R s m sargs below meth c B.U B.locs B.cells B.slots ∧ PostX A a q B ∧
      Steps p.tables e below (doInvoke e (A.U.setTop g) [] mk a).1 ((B.U.setTop g).pushFrame (.throwing q)))
section Payer
variable {l : Launch} {R : Room} {p : Program} {e : Env} {below : List Frame} {s : State} {sargs : Array Value} {y : MethodName} {len W9 : Nat}
theorem vx_back {ws : List Cond} {rm : Room} {Pc : Array Value → State → Prop} {Qc : Array Value → State → Outcome → State → Prop} {XC : String → State → State → Prop} {mc ms : Nat} {free : Addr → Prop} {bytes : ByteArray} {maxL : Nat} {ret : Option FieldType}
    (hM : vx_Met l y ws rm Pc Qc XC mc ms free) (hblind : FrameBlind Pc) (hrc : rm.cells = mc) (hrs : rm.slots = ms)
    (hframes : rm.frames + 1 ≤ R.frames) (hlocals : W9 + (maxL + 11) + rm.locals ≤ R.locals)
    (hws : ∀ w ∈ ws, ∀ a' U, s.WarmedH U.vm → w.before a' U = true) (hcode : Cond.code y bytes maxL ret ∈ ws) (hinit : ∀ a' U, s.WarmedH U.vm → (Cond.initialized y.cls).before a' U = true) :
    vx_Back l R p e below s sargs y len W9 (PreOf R mc ms Pc) (PostOf Qc mc ms free) (vx_Post XC mc ms free) := by
  intro m meth c A g ig mk a X hg hsize hdg hW hn hp
  have h1 : (headSpec ws rm).pre.before a A.U = true := atoms_intro fun w hw => hws w hw _ _ X.warmed
  have h2 : (Cond.code y bytes maxL ret).before a A.U = true := hws _ hcode _ _ X.warmed
  have h3 : (Cond.initialized y.cls).before a A.U = true := hinit _ _ X.warmed
  have h4 : A.cells + (headSpec ws rm).room.cells ≤ R.cells := by rw [show (headSpec ws rm).room.cells = mc from hrc]; exact hp.1
  have h5 : A.slots + (headSpec ws rm).room.slots ≤ R.slots := by rw [show (headSpec ws rm).room.slots = ms from hrs]; exact hp.2.1
  have hPc : Pc a (A.U.calling g mk a) := hblind _ _ _ _ hp.2.2
  obtain ⟨U, Ls, c0, s0⟩ := A
  dsimp only [Pt.U, Pt.locs, Pt.cells, Pt.slots] at h1 h2 h3 h4 h5 X hn hPc ⊢
  obtain ⟨methY, cY, hmY, hcY, -, hlY, -, -, -, -⟩ := Cond.code_spec hn h2
  obtain ⟨kY, hkY, -⟩ := className_of_methodNamed hn
  have hinitY : kY.init = .initialized := Cond.initialized_spec (findClass_of_methodNamed hn) hkY h3
  have h : At U g.method c below := by rw [hg]; exact X.here
  have hlocals9 : W9 + (maxL + 11) + (headSpec ws rm).room.locals ≤ R.locals := hlocals
  have happ : (headSpec ws rm).appliesLoose y e.platform (U.calling g mk a) = true :=
    Spec.appliesLoose_calling (g := g) h hdg hn hkY hinitY
      (X.room_calling (g := g) (R' := (headSpec ws rm).room) hsize hmY hcY hframes (by rw [hlY]; omega) h4 h5) h1
  obtain ⟨mid, hmid⟩ := h.above
  have hfr : (U.setTop g).frames = (.java g :: mid) ++ below := by rw [State.frames_setTop' g h.top, hmid]; rfl
  obtain ⟨o, s₂, hsteps, -, hend, hq⟩ := Steps.callFree hM p X.admits X.cas X.clock (acts := []) hfr happ hPc trivial
  have hq' : vx_Q Qc XC mc ms free a (U.calling g mk a) o s₂ := hq
  rw [State.frames_setTop' g h.top] at hend
  obtain ⟨g₀, hg0⟩ := Option.isSome_iff_exists.mp h.top
  obtain ⟨r, hr⟩ := State.topJava?_eq_some.mp hg0
  have hr' : (({ U with heap := s₂.heap, slotsUsed := s₂.slotsUsed } : State).setVm s₂.vm).frames = .java g₀ :: r := hr
  rcases hq' with ⟨hqc, L, hfe, hL⟩ | ⟨q, rfl, E, ce, L, hx, hce, hcv, hcl, hW₂, hsm, hL⟩
  · obtain ⟨⟨v, rfl⟩, hW₂, e2, q2, q3, q4, q5, q6⟩ := id hfe
    have e3 : s₂ = ({ (U.calling g mk a).setFrames s₂.frames with heap := s₂.heap, slotsUsed := s₂.slotsUsed } : State).setVm s₂.vm := by
      have : s₂ = ({ s₂ with vm := (U.calling g mk a).vm } : State).setVm s₂.vm := rfl
      rw [e2] at this
      exact this
    obtain ⟨c₂, i₂, len₂, hc₂, hd₂, hf₂⟩ := hend
    have hW' : U.WarmedH s₂.vm := hW₂
    have hcc : c₂ = c := by
      have h1 : s₂.code? g.method = U.code? g.method := by
        rw [State.code?_eq, State.code?_eq, hW'.alike.method?]
      exact Option.some.inj (hc₂.symm.trans (h1.trans h.code))
    subst hcc
    have hlen : len₂ = len := by rw [hdg] at hd₂; cases hd₂; rfl
    subst hlen
    have hs₂ : s₂ = (({ U with heap := s₂.heap, slotsUsed := s₂.slotsUsed } : State).setVm s₂.vm).setTop { g with pc := g.pc + len₂, stack := v.toList ++ g.stack } := by
      refine e3.trans ?_
      rw [hf₂, State.calling_eq h.top, State.setFrames_setFrames, State.setTop_of_frames _ hr', hr]
      rfl
    have hsame : U.sameButNew ({ U with heap := s₂.heap, slotsUsed := s₂.slotsUsed } : State) L mc ms := by
      refine ⟨?_, q2, q3, q4, q5, q6⟩
      obtain ⟨t, ht, -⟩ := State.frames_cons hr
      show ({ U with heap := s₂.heap, slotsUsed := s₂.slotsUsed } : State) = { U.setFrames U.frames with heap := s₂.heap, slotsUsed := s₂.slotsUsed }
      rw [State.setFrames_self ht]
    subst hg
    refine Or.inl ⟨v, ⟨(({ U with heap := s₂.heap, slotsUsed := s₂.slotsUsed } : State).setVm s₂.vm), Ls ++ L, c0 + mc, s0 + ms⟩,
      ⟨X.admits, X.cas, X.clock, X.frames, X.room, X.hears, X.method, X.code, (X.here.setHeapUsed s₂.heap s₂.slotsUsed).setVm hW'.alike, X.tail, State.WarmedH.trans X.warmed hW', X.limits, X.bytes, X.same.trans (hsame.setVm s.vm)⟩,
      ⟨g, mk, s₂, L, rfl, rfl, hqc, rfl, hL, rfl, rfl⟩, ?_⟩
    show Steps p.tables e below _ ((({ U with heap := s₂.heap, slotsUsed := s₂.slotsUsed } : State).setVm s₂.vm).setTop { g with pc := g.pc + len₂, stack := v.toList ++ g.stack })
    rw [← hs₂]
    exact hsteps
  · obtain ⟨e2, q2, q3, q4, q5, q6⟩ := id hsm
    have e3 : s₂ = ({ (U.calling g mk a).setFrames s₂.frames with heap := s₂.heap, slotsUsed := s₂.slotsUsed } : State).setVm s₂.vm := by
      have : s₂ = ({ s₂ with vm := (U.calling g mk a).vm } : State).setVm s₂.vm := rfl
      rw [e2] at this
      exact this
    have hf₂ : s₂.frames = .throwing q :: .java g :: U.frames.tail := hend
    have hW' : U.WarmedH s₂.vm := hW₂
    have hs₂ : s₂ = ((({ U with heap := s₂.heap, slotsUsed := s₂.slotsUsed } : State).setVm s₂.vm).setTop g).pushFrame (.throwing q) := by
      refine e3.trans ?_
      rw [hf₂, State.calling_eq h.top, State.setFrames_setFrames, State.pushFrame, State.frames_setTop _ hr', State.setTop_of_frames _ hr', State.setFrames_setFrames, hr]
      rfl
    have hsame : U.sameButNew ({ U with heap := s₂.heap, slotsUsed := s₂.slotsUsed } : State) L mc ms := by
      refine ⟨?_, q2, q3, q4, q5, q6⟩
      obtain ⟨t, ht, -⟩ := State.frames_cons hr
      show ({ U with heap := s₂.heap, slotsUsed := s₂.slotsUsed } : State) = { U.setFrames U.frames with heap := s₂.heap, slotsUsed := s₂.slotsUsed }
      rw [State.setFrames_self ht]
    subst hg
    refine Or.inr ⟨q, ⟨(({ U with heap := s₂.heap, slotsUsed := s₂.slotsUsed } : State).setVm s₂.vm), Ls ++ L, c0 + mc, s0 + ms⟩,
      ⟨X.admits, X.cas, X.clock, X.frames, X.room, X.hears, X.method, X.code, (X.here.setHeapUsed s₂.heap s₂.slotsUsed).setVm hW'.alike, X.tail, State.WarmedH.trans X.warmed hW', X.limits, X.bytes, X.same.trans (hsame.setVm s.vm)⟩,
      ⟨g, mk, s₂, L, E, ce, rfl, rfl, hx, hce, hcv, hcl, rfl, hL, rfl, rfl⟩, ?_⟩
    show Steps p.tables e below _ (((({ U with heap := s₂.heap, slotsUsed := s₂.slotsUsed } : State).setVm s₂.vm).setTop g).pushFrame (.throwing q))
    rw [← hs₂]
    exact hsteps
end Payer
section Calls
variable {p : Program} {l : Launch} {e : Env} {R : Room} {s : State} {m : MethodId} {args : Array Value} {below : List Frame} {meth : Method} {c : Code} {T : State} {locs : List Loc} {cells slots : Nat}
theorem vx_callV (X : Stand p l e R s m args below meth c T locs cells slots) (hexec : p.tables.exec = Jvm.exec) {own C : String} {index : Nat} {y : MethodName} {bytes : ByteArray} {maxL : Nat} {ret : Option FieldType}
    (hown : s.vm.findClass own = some m.cls) (hlink : (Cond.methodLink own index y).before args s = true) (hinst : (Cond.instanceMethod y).before args s = true) (hsel : (Cond.selects C y y).before args s = true)
    (hcode : (Cond.code y bytes maxL ret).before args s = true) (hy : y.cls ≠ "java/lang/invoke/MethodHandle" ∧ y.cls ≠ "java/lang/invoke/VarHandle")
    {W9 : Nat} {Pre : Pt → Array Value → Prop} {Post : Pt → Array Value → Option Value → Pt → Prop} {PostX : Pt → Array Value → Addr → Pt → Prop} (hK : vx_Back l R p e below s args y 3 W9 Pre Post PostX)
    {b : Addr} {cellB : Cell} (hcell : T.heap[b]? = some cellB) (hobj : cellB.vm.isStatics = false) (hcls : s.vm.findClass C = some cellB.cls)
    {g : JFrame} (hg : g.method = m) (hsize : g.locals.size = c.maxLocals) {argsL rest : List Value} (hlen : ∀ sig, parseMethodDescriptor y.desc = some sig → argsL.length = sig.parameters.length)
    (hstack : g.stack = argsL.reverse ++ .ref b :: rest) (hW : 2 * g.monitorRoom + (rest.map fun v => v.category).sum ≤ W9) (hdg : decode c.code g.pc = .ok (.invokevirtual index, 3))
    (hpre : ∀ vm₁, s.WarmedH vm₁ → Pre ⟨T.setVm vm₁, locs, cells, slots⟩ (Value.ref b :: argsL).toArray) :
    (∃ (v : Option Value) (vm₁ : Vm) (B : Pt), s.WarmedH vm₁ ∧ Stand p l e R s m args below meth c B.U B.locs B.cells B.slots ∧ Post ⟨T.setVm vm₁, locs, cells, slots⟩ (Value.ref b :: argsL).toArray v B ∧
      ∀ target, Steps p.tables e below (B.U.setTop { g with pc := g.pc + 3, stack := v.toList ++ rest }) target → Steps p.tables e below (T.setTop g) target) ∨
    (∃ (q : Addr) (vm₁ : Vm) (B : Pt), s.WarmedH vm₁ ∧ Stand p l e R s m args below meth c B.U B.locs B.cells B.slots ∧ PostX ⟨T.setVm vm₁, locs, cells, slots⟩ (Value.ref b :: argsL).toArray q B ∧
      Steps p.tables e below (T.setTop g) ((B.U.setTop { g with stack := rest }).pushFrame (.throwing q))) := by
  obtain ⟨mk, methM, hnamed, hmethM, hstM, habM⟩ := Cond.instanceMethod_spec hinst
  obtain ⟨methM', cM, hmethM', -, -, -, -, -, -, hsigM⟩ := Cond.code_spec hnamed hcode
  cases hmethM.symm.trans hmethM'
  obtain ⟨c2, r2, m2, q1, q2, q3, q4, kP, hkP, hkPi⟩ := Cond.selects_spec hsel
  cases hcls.symm.trans q1
  cases (State.methodFound?_of_named hnamed hy).symm.trans q2
  cases hnamed.symm.trans q3
  have hselP : selectMethod e.platform s.vm cellB.cls mk = .method mk := by rw [Launch.admits_selectMethod X.admits]; exact q4
  obtain ⟨vm₁, X₁, hstep₁⟩ := X.invokevirtual hexec hown hlink hnamed hmethM hstM hkP hkPi hy (a := b) (cell := cellB) hcell
    (fun z h => by rw [h] at hobj; cases hobj) hselP hmethM habM hkP hkPi (g := g) hg (argsL := argsL) (rest := rest) (hlen _ hsigM) hstack hdg
  rcases hK m meth c ⟨T.setVm vm₁, locs, cells, slots⟩ { g with stack := rest } (.invokevirtual index) mk (Value.ref b :: argsL).toArray X₁ hg hsize hdg hW (X₁.named hnamed) (hpre vm₁ X₁.warmed) with ⟨v, B, X', hpost, hsteps⟩ | ⟨q, B, X', hpost, hsteps⟩
  · exact Or.inl ⟨v, vm₁, B, X₁.warmed, X', hpost, fun target h => hstep₁ _ fun acts => by rw [doInvoke_state]; exact hsteps.trans h⟩
  · exact Or.inr ⟨q, vm₁, B, X₁.warmed, X', hpost, hstep₁ _ fun acts => by rw [doInvoke_state]; exact hsteps⟩
theorem vx_callS (X : Stand p l e R s m args below meth c T locs cells slots) (hexec : p.tables.exec = Jvm.exec) {own : String} {index : Nat} {y : MethodName} {bytes : ByteArray} {maxL : Nat} {ret : Option FieldType}
    (hown : s.vm.findClass own = some m.cls) (hlink : (Cond.methodLink own index y).before args s = true) (hstat : (Cond.static y).before args s = true) (hinit : (Cond.initialized y.cls).before args s = true)
    (hcode : (Cond.code y bytes maxL ret).before args s = true) (hy : y.cls ≠ "java/lang/invoke/MethodHandle" ∧ y.cls ≠ "java/lang/invoke/VarHandle")
    {W9 : Nat} {Pre : Pt → Array Value → Prop} {Post : Pt → Array Value → Option Value → Pt → Prop} {PostX : Pt → Array Value → Addr → Pt → Prop} (hK : vx_Back l R p e below s args y 3 W9 Pre Post PostX)
    {g : JFrame} (hg : g.method = m) (hsize : g.locals.size = c.maxLocals) {argsL rest : List Value} (hlen : ∀ sig, parseMethodDescriptor y.desc = some sig → argsL.length = sig.parameters.length)
    (hstack : g.stack = argsL.reverse ++ rest) (hW : 2 * g.monitorRoom + (rest.map fun v => v.category).sum ≤ W9) (hdg : decode c.code g.pc = .ok (.invokestatic index, 3))
    (hpre : ∀ vm₁, s.WarmedH vm₁ → Pre ⟨T.setVm vm₁, locs, cells, slots⟩ argsL.toArray) :
    (∃ (v : Option Value) (vm₁ : Vm) (B : Pt), s.WarmedH vm₁ ∧ Stand p l e R s m args below meth c B.U B.locs B.cells B.slots ∧ Post ⟨T.setVm vm₁, locs, cells, slots⟩ argsL.toArray v B ∧
      ∀ target, Steps p.tables e below (B.U.setTop { g with pc := g.pc + 3, stack := v.toList ++ rest }) target → Steps p.tables e below (T.setTop g) target) ∨
    (∃ (q : Addr) (vm₁ : Vm) (B : Pt), s.WarmedH vm₁ ∧ Stand p l e R s m args below meth c B.U B.locs B.cells B.slots ∧ PostX ⟨T.setVm vm₁, locs, cells, slots⟩ argsL.toArray q B ∧
      Steps p.tables e below (T.setTop g) ((B.U.setTop { g with stack := rest }).pushFrame (.throwing q))) := by
  obtain ⟨mk, hnamed⟩ := Cond.code_named hcode
  obtain ⟨methM, cM, hmethM, -, -, -, -, -, -, hsigM⟩ := Cond.code_spec hnamed hcode
  have hstatic : methM.isStatic = true := Cond.static_spec hnamed hmethM hstat
  obtain ⟨kP, hkP, -⟩ := className_of_methodNamed hnamed
  have hinitP : kP.init = .initialized := Cond.initialized_spec (findClass_of_methodNamed hnamed) hkP hinit
  obtain ⟨vm₁, X₁, hstep₁⟩ := X.invokestatic hexec hown hlink hnamed hmethM hstatic hkP hinitP hy (g := g) hg (argsL := argsL) (rest := rest) (hlen _ hsigM) hstack hdg
  rcases hK m meth c ⟨T.setVm vm₁, locs, cells, slots⟩ { g with stack := rest } (.invokestatic index) mk argsL.toArray X₁ hg hsize hdg hW (X₁.named hnamed) (hpre vm₁ X₁.warmed) with ⟨v, B, X', hpost, hsteps⟩ | ⟨q, B, X', hpost, hsteps⟩
  · exact Or.inl ⟨v, vm₁, B, X₁.warmed, X', hpost, fun target h => hstep₁ _ fun acts => by rw [doInvoke_state]; exact hsteps.trans h⟩
  · exact Or.inr ⟨q, vm₁, B, X₁.warmed, X', hpost, hstep₁ _ fun acts => by rw [doInvoke_state]; exact hsteps⟩
end Calls
theorem vx_cls {s : State} {T : State} {vm₁ : Vm} {E : String} {k : ClassId} (hW : s.WarmedH vm₁) (h : (T.setVm vm₁).vm.findClass E = some k) : s.vm.findClass E = some k := by
  have h1 : vm₁.findClass E = some k := h
  rw [hW.alike.findClass] at h1
  exact h1
/-- the method's frame g, with q thrown over it -/
def vx_W (p : Program) (l : Launch) (e : Env) (R : Room) (s : State) (m : MethodId) (args : Array Value) (below : List Frame) (meth : Method) (c : Code) (H : Heap) (locs : List Loc) (cells slots : Nat) (Q : State → Prop) (g : JFrame) (q : Addr) : Prop :=
  ∀ T : State, T.heap = H → Stand p l e R s m args below meth c T locs cells slots → ∃ t, Steps p.tables e below ((T.setTop g).pushFrame (.throwing q)) t ∧ Q t
def vx_Run (p : Program) (l : Launch) (e : Env) (R : Room) (s : State) (m : MethodId) (args : Array Value) (below : List Frame) (meth : Method) (c : Code) (H : Heap) (locs : List Loc) (cells slots mc ms : Nat) (g : JFrame) (rest : List Value) (Qa : State → Outcome → State → Prop) (XC : String → State → State → Prop) (free : Addr → Prop) : Prop :=
  ∀ T : State, T.heap = H → Stand p l e R s m args below meth c T locs cells slots →
    (∃ (v : Option Value) (st₀ t T' : State) (L : List Loc), st₀.heap = H ∧ Stand p l e R s m args below meth c T' (locs ++ L) (cells + mc) (slots + ms) ∧ (∀ q ∈ L, free q.base) ∧ T'.heap = t.heap ∧ T'.vm = t.vm ∧ Qa st₀ (.returned v) t ∧
      Goes p e below T g T' { g with pc := g.pc + 3, stack := v.toList ++ rest }) ∨
    (∃ (q : Addr) (st₀ t T' : State) (L : List Loc) (E : String) (ce : Cell), st₀.heap = H ∧ Stand p l e R s m args below meth c T' (locs ++ L) (cells + mc) (slots + ms) ∧ (∀ z ∈ L, free z.base) ∧ T'.heap = t.heap ∧ T'.vm = t.vm ∧ XC E st₀ t ∧ t.heap[q]? = some ce ∧ ce.vm = .none ∧ s.vm.findClass E = some ce.cls ∧
      Steps p.tables e below (T.setTop g) ((T'.setTop { g with stack := rest }).pushFrame (.throwing q)))
def vx_X {S : Type} (px : S → Prop) (B : String → S → State → Prop) (A : Nat → Prop) : String → State → State → Prop := fun E st t => ∃ u : S, px u ∧ B E u t ∧ va_F A st t
section Runs
variable {p : Program} {l : Launch} {e : Env} {R : Room} {s : State} {m : MethodId} {args : Array Value} {below : List Frame} {meth : Method} {c : Code} {H : Heap} {locs : List Loc} {cells slots : Nat}
variable {y : MethodName} {bytes cc : ByteArray} {maxL nL mc ms n index : Nat} {ret : Option FieldType} {ws : List Cond} {rm : Room} {Pc : Array Value → State → Prop} {Qc : Array Value → State → Outcome → State → Prop} {XC : String → State → State → Prop} {free : Addr → Prop} {Ts : List Cond} {own C : String} {b : Addr} {As rest : List Value} {g : JFrame}
theorem vx_callBack (cb : CallB R s args own index y bytes maxL ret ws rm mc ms n) (hM : vx_Met l y ws rm Pc Qc XC mc ms free) (hbl : FrameBlind Pc) : vx_Back l R p e below s args y 3 8 (PreOf R mc ms Pc) (PostOf Qc mc ms free) (vx_Post XC mc ms free) := by
  obtain ⟨hrc, hrs, hfr, hlo, hws, hcw, -, hini, -⟩ := cb
  exact vx_back (bytes := bytes) (maxL := maxL) (ret := ret) hM hbl hrc hrs hfr hlo hws hcw (fun a' U hW => word_at hW (Or.inl (by first | rfl | simp [Cond.onTables, Cond.keeps, Cond.steady])) hini)
theorem vx_runV (S : CallFix p m c cc nL s args Ts own) (hM : vx_Met l y ws rm Pc Qc XC mc ms free) (cw : CallW R s args own C index y bytes maxL ret ws rm mc ms n) (hp : PreV s H C b Pc As)
    (hg : g.method = m) (hn : As.length = n) (hsize : g.locals.size = nL) (hstack : g.stack = As.reverse ++ .ref b :: rest) (hW : 2 * g.monitorRoom + (rest.map fun v => v.category).sum ≤ 8) (hdg : decode cc g.pc = .ok (.invokevirtual index, 3)) (hf : cells + mc ≤ R.cells ∧ slots + ms ≤ R.slots) :
    vx_Run p l e R s m args below meth c H locs cells slots mc ms g rest (Qc (Value.ref b :: As).toArray) XC free := by
  have hK : vx_Back l R p e below s args y 3 8 (PreOf R mc ms Pc) (PostOf Qc mc ms free) (vx_Post XC mc ms free) := vx_callBack cw.1 hM hp.1
  obtain ⟨⟨-, -, -, -, -, -, hcode, -, hy, hlen, hl⟩, hin, hse⟩ := cw
  obtain ⟨hx, hb, hml, ho, -⟩ := S
  obtain ⟨-, ⟨cellB, hcB, hoB, hclB⟩, hPc⟩ := hp
  intro T hT X
  rcases vx_callV X hx (C := C) (bytes := bytes) (maxL := maxL) (ret := ret) ho hl hin hse hcode hy hK (by rw [hT]; exact hcB) hoB hclB hg (hsize.trans hml.symm) (argsL := As) (rest := rest) (fun sig h => hn.trans (hlen sig h)) hstack hW (by rw [hb]; exact hdg)
    (fun vm₁ hW₁ => ⟨hf.1, hf.2, hPc (T.setVm vm₁) hT hW₁⟩) with ⟨v, vm₁, ⟨U', l2, c2, s2⟩, hW₁, X', ⟨g', mk, t, L, e1, e2, hq, h1, hL, h2, h3⟩, st⟩ | ⟨q, vm₁, ⟨U', l2, c2, s2⟩, hW₁, X', ⟨g', mk, t, L, E, ce, e1, e2, hq, hce, hcv, hcl, h1, hL, h2, h3⟩, st⟩
  · dsimp only [Pt.U, Pt.locs, Pt.cells, Pt.slots] at X' e1 e2 h1 h2 h3 st
    subst h1; subst h2; subst h3
    exact Or.inl ⟨v, (T.setVm vm₁).calling g' mk (Value.ref b :: As).toArray, t, U', L, hT, X', hL, e1, e2, hq, st⟩
  · dsimp only [Pt.U, Pt.locs, Pt.cells, Pt.slots] at X' e1 e2 h1 h2 h3 st hcl
    subst h1; subst h2; subst h3
    exact Or.inr ⟨q, (T.setVm vm₁).calling g' mk (Value.ref b :: As).toArray, t, U', L, E, ce, hT, X', hL, e1, e2, hq, hce, hcv, vx_cls hW₁ hcl, st⟩
theorem vx_runS (S : CallFix p m c cc nL s args Ts own) (hM : vx_Met l y ws rm Pc Qc XC mc ms free) (cw : CallB R s args own index y bytes maxL ret ws rm mc ms n ∧ (Cond.static y).before args s = true) (hp : PreS s H Pc As)
    (hg : g.method = m) (hn : As.length = n) (hsize : g.locals.size = nL) (hstack : g.stack = As.reverse ++ rest) (hW : 2 * g.monitorRoom + (rest.map fun v => v.category).sum ≤ 8) (hdg : decode cc g.pc = .ok (.invokestatic index, 3)) (hf : cells + mc ≤ R.cells ∧ slots + ms ≤ R.slots) :
    vx_Run p l e R s m args below meth c H locs cells slots mc ms g rest (Qc As.toArray) XC free := by
  have hK : vx_Back l R p e below s args y 3 8 (PreOf R mc ms Pc) (PostOf Qc mc ms free) (vx_Post XC mc ms free) := vx_callBack cw.1 hM hp.1
  obtain ⟨⟨-, -, -, -, -, -, hcode, hini, hy, hlen, hl⟩, hstt⟩ := cw
  obtain ⟨hx, hb, hml, ho, -⟩ := S
  intro T hT X
  rcases vx_callS X hx (bytes := bytes) (maxL := maxL) (ret := ret) ho hl hstt hini hcode hy hK hg (hsize.trans hml.symm) (argsL := As) (rest := rest) (fun sig h => hn.trans (hlen sig h)) hstack hW (by rw [hb]; exact hdg)
    (fun vm₁ hW₁ => ⟨hf.1, hf.2, hp.2 (T.setVm vm₁) hT hW₁⟩) with ⟨v, vm₁, ⟨U', l2, c2, s2⟩, hW₁, X', ⟨g', mk, t, L, e1, e2, hq, h1, hL, h2, h3⟩, st⟩ | ⟨q, vm₁, ⟨U', l2, c2, s2⟩, hW₁, X', ⟨g', mk, t, L, E, ce, e1, e2, hq, hce, hcv, hcl, h1, hL, h2, h3⟩, st⟩
  · dsimp only [Pt.U, Pt.locs, Pt.cells, Pt.slots] at X' e1 e2 h1 h2 h3 st
    subst h1; subst h2; subst h3
    exact Or.inl ⟨v, (T.setVm vm₁).calling g' mk As.toArray, t, U', L, hT, X', hL, e1, e2, hq, st⟩
  · dsimp only [Pt.U, Pt.locs, Pt.cells, Pt.slots] at X' e1 e2 h1 h2 h3 st hcl
    subst h1; subst h2; subst h3
    exact Or.inr ⟨q, (T.setVm vm₁).calling g' mk As.toArray, t, U', L, E, ce, hT, X', hL, e1, e2, hq, hce, hcv, vx_cls hW₁ hcl, st⟩
end Runs
section Rows
variable {p : Program} {l : Launch} {e : Env} {R : Room} {s : State} {m : MethodId} {args : Array Value} {below : List Frame} {meth : Method} {c : Code} {H : Heap} {locs : List Loc} {cells slots : Nat} {Q : State → Prop}
variable {mc ms : Nat} {free : Addr → Prop} {A0 A1 : Nat → Prop} {H0 : Heap} {a : Array Value} {pc : Nat} {ls : Array Slot} {st0 rest : List Value}
theorem vx_keep {st₀ t T' : State} {L : List Loc} (h0 : st₀.heap = H) (e1 : T'.heap = t.heap) (hS : va_S A0 H0 H locs) (hA : ∀ q, q < H.size → A1 q → A0 q) (hf : ∀ q, free q → A0 q) (hL : ∀ q ∈ L, free q.base) (hF : va_F A1 st₀ t) :
    H.size ≤ T'.heap.size ∧ (∀ q : Nat, q < H.size → ¬ A1 q → T'.heap[q]? = H[q]?) ∧ va_S A0 H0 T'.heap (locs ++ L) := by
  obtain ⟨hz, hk⟩ := hF
  rw [h0] at hz hk
  exact ⟨by rw [e1]; exact hz, fun q h1 h2 => by rw [e1]; exact hk q h1 h2,
    ⟨Nat.le_trans hS.1 (by rw [e1]; exact hz), fun q h1 h2 => by rw [e1, hk q (Nat.lt_of_lt_of_le h1 hS.1) (fun z => h2 (hA q (Nat.lt_of_lt_of_le h1 hS.1) z))]; exact hS.2.1 q h1 h2, fun q hq => by
      rcases List.mem_append.mp hq with h | h
      · exact hS.2.2 q h
      · exact hf _ (hL q h)⟩⟩
theorem vx_calli {S SX : Type} {post : Int32 → S → Prop} {px : SX → Prop} {B : S → State → Prop} {BX : String → SX → State → Prop} {AX : Nat → Prop} (hr : vx_Run p l e R s m args below meth c H locs cells slots mc ms (F0 m pc ls st0) rest (va_Qi post B A1 a) (vx_X px BX AX) free) (hS : va_S A0 H0 H locs) (hA : ∀ q, q < H.size → A1 q → A0 q) (hf : ∀ q, free q → A0 q) (hAX : ∀ q, q < H.size → AX q → A0 q)
    (kx : ∀ (E : String) (ce : Cell) (q9 : Addr) (u : SX) (t : State) (H1 : Heap) (locs1 : List Loc), t.heap = H1 → s.vm.Alike t.vm → px u → BX E u t → H.size ≤ H1.size → (∀ q : Nat, q < H.size → ¬ AX q → H1[q]? = H[q]?) → va_S A0 H0 H1 locs1 → H1[q9]? = some ce → ce.vm = .none → s.vm.findClass E = some ce.cls → vx_W p l e R s m args below meth c H1 locs1 (cells + mc) (slots + ms) Q (F0 m pc ls rest) q9)
    (kk : ∀ (r : Int32) (u : S) (t : State) (H1 : Heap) (locs1 : List Loc), t.heap = H1 → s.vm.Alike t.vm → post r u → B u t → H.size ≤ H1.size → (∀ q : Nat, q < H.size → ¬ A1 q → H1[q]? = H[q]?) → va_S A0 H0 H1 locs1 → W p l e R s m args below meth c H1 locs1 (cells + mc) (slots + ms) Q (F0 m (pc + 3) ls (.int r :: rest))) : W p l e R s m args below meth c H locs cells slots Q (F0 m pc ls st0) := by
  intro T hT X
  rcases hr T hT X with ⟨v, st₀, t, T', L, h0, X', hL, e1, e2, ⟨⟨r, u, hv, hp, hb⟩, hF⟩, st⟩ | ⟨q, st₀, t, T', L, E, ce, h0, X', hL, e1, e2, ⟨u, hp, hb, hF⟩, hce, hcv, hcl, st⟩
  · cases hv
    obtain ⟨k1, k2, k3⟩ := vx_keep h0 e1 hS hA hf hL hF
    obtain ⟨t2, a1, b1⟩ := kk r u t T'.heap (locs ++ L) e1.symm (by rw [← e2]; exact X'.warmed.alike) hp hb k1 k2 k3 T' rfl X'
    exact ⟨t2, st t2 a1, b1⟩
  · obtain ⟨k1, k2, k3⟩ := vx_keep h0 e1 hS hAX hf hL hF
    obtain ⟨t2, a1, b1⟩ := kx E ce q u t T'.heap (locs ++ L) e1.symm (by rw [← e2]; exact X'.warmed.alike) hp hb k1 k2 k3 (by rw [e1]; exact hce) hcv hcl T' rfl X'
    exact ⟨t2, st.trans a1, b1⟩
theorem vx_calll {S SX : Type} {post : Int64 → S → Prop} {px : SX → Prop} {B : S → State → Prop} {BX : String → SX → State → Prop} {AX : Nat → Prop} (hr : vx_Run p l e R s m args below meth c H locs cells slots mc ms (F0 m pc ls st0) rest (va_Ql post B A1 a) (vx_X px BX AX) free) (hS : va_S A0 H0 H locs) (hA : ∀ q, q < H.size → A1 q → A0 q) (hf : ∀ q, free q → A0 q) (hAX : ∀ q, q < H.size → AX q → A0 q)
    (kx : ∀ (E : String) (ce : Cell) (q9 : Addr) (u : SX) (t : State) (H1 : Heap) (locs1 : List Loc), t.heap = H1 → s.vm.Alike t.vm → px u → BX E u t → H.size ≤ H1.size → (∀ q : Nat, q < H.size → ¬ AX q → H1[q]? = H[q]?) → va_S A0 H0 H1 locs1 → H1[q9]? = some ce → ce.vm = .none → s.vm.findClass E = some ce.cls → vx_W p l e R s m args below meth c H1 locs1 (cells + mc) (slots + ms) Q (F0 m pc ls rest) q9)
    (kk : ∀ (r : Int64) (u : S) (t : State) (H1 : Heap) (locs1 : List Loc), t.heap = H1 → s.vm.Alike t.vm → post r u → B u t → H.size ≤ H1.size → (∀ q : Nat, q < H.size → ¬ A1 q → H1[q]? = H[q]?) → va_S A0 H0 H1 locs1 → W p l e R s m args below meth c H1 locs1 (cells + mc) (slots + ms) Q (F0 m (pc + 3) ls (.long r :: rest))) : W p l e R s m args below meth c H locs cells slots Q (F0 m pc ls st0) := by
  intro T hT X
  rcases hr T hT X with ⟨v, st₀, t, T', L, h0, X', hL, e1, e2, ⟨⟨r, u, hv, hp, hb⟩, hF⟩, st⟩ | ⟨q, st₀, t, T', L, E, ce, h0, X', hL, e1, e2, ⟨u, hp, hb, hF⟩, hce, hcv, hcl, st⟩
  · cases hv
    obtain ⟨k1, k2, k3⟩ := vx_keep h0 e1 hS hA hf hL hF
    obtain ⟨t2, a1, b1⟩ := kk r u t T'.heap (locs ++ L) e1.symm (by rw [← e2]; exact X'.warmed.alike) hp hb k1 k2 k3 T' rfl X'
    exact ⟨t2, st t2 a1, b1⟩
  · obtain ⟨k1, k2, k3⟩ := vx_keep h0 e1 hS hAX hf hL hF
    obtain ⟨t2, a1, b1⟩ := kx E ce q u t T'.heap (locs ++ L) e1.symm (by rw [← e2]; exact X'.warmed.alike) hp hb k1 k2 k3 (by rw [e1]; exact hce) hcv hcl T' rfl X'
    exact ⟨t2, st.trans a1, b1⟩
theorem vx_callf {S SX : Type} {post : UInt32 → S → Prop} {px : SX → Prop} {B : S → State → Prop} {BX : String → SX → State → Prop} {AX : Nat → Prop} (hr : vx_Run p l e R s m args below meth c H locs cells slots mc ms (F0 m pc ls st0) rest (va_Qf post B A1 a) (vx_X px BX AX) free) (hS : va_S A0 H0 H locs) (hA : ∀ q, q < H.size → A1 q → A0 q) (hf : ∀ q, free q → A0 q) (hAX : ∀ q, q < H.size → AX q → A0 q)
    (kx : ∀ (E : String) (ce : Cell) (q9 : Addr) (u : SX) (t : State) (H1 : Heap) (locs1 : List Loc), t.heap = H1 → s.vm.Alike t.vm → px u → BX E u t → H.size ≤ H1.size → (∀ q : Nat, q < H.size → ¬ AX q → H1[q]? = H[q]?) → va_S A0 H0 H1 locs1 → H1[q9]? = some ce → ce.vm = .none → s.vm.findClass E = some ce.cls → vx_W p l e R s m args below meth c H1 locs1 (cells + mc) (slots + ms) Q (F0 m pc ls rest) q9)
    (kk : ∀ (r : UInt32) (u : S) (t : State) (H1 : Heap) (locs1 : List Loc), t.heap = H1 → s.vm.Alike t.vm → post r u → B u t → H.size ≤ H1.size → (∀ q : Nat, q < H.size → ¬ A1 q → H1[q]? = H[q]?) → va_S A0 H0 H1 locs1 → W p l e R s m args below meth c H1 locs1 (cells + mc) (slots + ms) Q (F0 m (pc + 3) ls (.float r :: rest))) : W p l e R s m args below meth c H locs cells slots Q (F0 m pc ls st0) := by
  intro T hT X
  rcases hr T hT X with ⟨v, st₀, t, T', L, h0, X', hL, e1, e2, ⟨⟨r, u, hv, hp, hb⟩, hF⟩, st⟩ | ⟨q, st₀, t, T', L, E, ce, h0, X', hL, e1, e2, ⟨u, hp, hb, hF⟩, hce, hcv, hcl, st⟩
  · cases hv
    obtain ⟨k1, k2, k3⟩ := vx_keep h0 e1 hS hA hf hL hF
    obtain ⟨t2, a1, b1⟩ := kk r u t T'.heap (locs ++ L) e1.symm (by rw [← e2]; exact X'.warmed.alike) hp hb k1 k2 k3 T' rfl X'
    exact ⟨t2, st t2 a1, b1⟩
  · obtain ⟨k1, k2, k3⟩ := vx_keep h0 e1 hS hAX hf hL hF
    obtain ⟨t2, a1, b1⟩ := kx E ce q u t T'.heap (locs ++ L) e1.symm (by rw [← e2]; exact X'.warmed.alike) hp hb k1 k2 k3 (by rw [e1]; exact hce) hcv hcl T' rfl X'
    exact ⟨t2, st.trans a1, b1⟩
theorem vx_calld {S SX : Type} {post : UInt64 → S → Prop} {px : SX → Prop} {B : S → State → Prop} {BX : String → SX → State → Prop} {AX : Nat → Prop} (hr : vx_Run p l e R s m args below meth c H locs cells slots mc ms (F0 m pc ls st0) rest (va_Qd post B A1 a) (vx_X px BX AX) free) (hS : va_S A0 H0 H locs) (hA : ∀ q, q < H.size → A1 q → A0 q) (hf : ∀ q, free q → A0 q) (hAX : ∀ q, q < H.size → AX q → A0 q)
    (kx : ∀ (E : String) (ce : Cell) (q9 : Addr) (u : SX) (t : State) (H1 : Heap) (locs1 : List Loc), t.heap = H1 → s.vm.Alike t.vm → px u → BX E u t → H.size ≤ H1.size → (∀ q : Nat, q < H.size → ¬ AX q → H1[q]? = H[q]?) → va_S A0 H0 H1 locs1 → H1[q9]? = some ce → ce.vm = .none → s.vm.findClass E = some ce.cls → vx_W p l e R s m args below meth c H1 locs1 (cells + mc) (slots + ms) Q (F0 m pc ls rest) q9)
    (kk : ∀ (r : UInt64) (u : S) (t : State) (H1 : Heap) (locs1 : List Loc), t.heap = H1 → s.vm.Alike t.vm → post r u → B u t → H.size ≤ H1.size → (∀ q : Nat, q < H.size → ¬ A1 q → H1[q]? = H[q]?) → va_S A0 H0 H1 locs1 → W p l e R s m args below meth c H1 locs1 (cells + mc) (slots + ms) Q (F0 m (pc + 3) ls (.double r :: rest))) : W p l e R s m args below meth c H locs cells slots Q (F0 m pc ls st0) := by
  intro T hT X
  rcases hr T hT X with ⟨v, st₀, t, T', L, h0, X', hL, e1, e2, ⟨⟨r, u, hv, hp, hb⟩, hF⟩, st⟩ | ⟨q, st₀, t, T', L, E, ce, h0, X', hL, e1, e2, ⟨u, hp, hb, hF⟩, hce, hcv, hcl, st⟩
  · cases hv
    obtain ⟨k1, k2, k3⟩ := vx_keep h0 e1 hS hA hf hL hF
    obtain ⟨t2, a1, b1⟩ := kk r u t T'.heap (locs ++ L) e1.symm (by rw [← e2]; exact X'.warmed.alike) hp hb k1 k2 k3 T' rfl X'
    exact ⟨t2, st t2 a1, b1⟩
  · obtain ⟨k1, k2, k3⟩ := vx_keep h0 e1 hS hAX hf hL hF
    obtain ⟨t2, a1, b1⟩ := kx E ce q u t T'.heap (locs ++ L) e1.symm (by rw [← e2]; exact X'.warmed.alike) hp hb k1 k2 k3 (by rw [e1]; exact hce) hcv hcl T' rfl X'
    exact ⟨t2, st.trans a1, b1⟩
theorem vx_callv {S SX : Type} {post : S → Prop} {px : SX → Prop} {B : S → State → Prop} {BX : String → SX → State → Prop} {AX : Nat → Prop} (hr : vx_Run p l e R s m args below meth c H locs cells slots mc ms (F0 m pc ls st0) rest (va_Qv post B A1 a) (vx_X px BX AX) free) (hS : va_S A0 H0 H locs) (hA : ∀ q, q < H.size → A1 q → A0 q) (hf : ∀ q, free q → A0 q) (hAX : ∀ q, q < H.size → AX q → A0 q)
    (kx : ∀ (E : String) (ce : Cell) (q9 : Addr) (u : SX) (t : State) (H1 : Heap) (locs1 : List Loc), t.heap = H1 → s.vm.Alike t.vm → px u → BX E u t → H.size ≤ H1.size → (∀ q : Nat, q < H.size → ¬ AX q → H1[q]? = H[q]?) → va_S A0 H0 H1 locs1 → H1[q9]? = some ce → ce.vm = .none → s.vm.findClass E = some ce.cls → vx_W p l e R s m args below meth c H1 locs1 (cells + mc) (slots + ms) Q (F0 m pc ls rest) q9)
    (kk : ∀ (u : S) (t : State) (H1 : Heap) (locs1 : List Loc), t.heap = H1 → s.vm.Alike t.vm → post u → B u t → H.size ≤ H1.size → (∀ q : Nat, q < H.size → ¬ A1 q → H1[q]? = H[q]?) → va_S A0 H0 H1 locs1 → W p l e R s m args below meth c H1 locs1 (cells + mc) (slots + ms) Q (F0 m (pc + 3) ls (rest))) : W p l e R s m args below meth c H locs cells slots Q (F0 m pc ls st0) := by
  intro T hT X
  rcases hr T hT X with ⟨v, st₀, t, T', L, h0, X', hL, e1, e2, ⟨⟨u, hv, hp, hb⟩, hF⟩, st⟩ | ⟨q, st₀, t, T', L, E, ce, h0, X', hL, e1, e2, ⟨u, hp, hb, hF⟩, hce, hcv, hcl, st⟩
  · cases hv
    obtain ⟨k1, k2, k3⟩ := vx_keep h0 e1 hS hA hf hL hF
    obtain ⟨t2, a1, b1⟩ := kk u t T'.heap (locs ++ L) e1.symm (by rw [← e2]; exact X'.warmed.alike) hp hb k1 k2 k3 T' rfl X'
    exact ⟨t2, st t2 a1, b1⟩
  · obtain ⟨k1, k2, k3⟩ := vx_keep h0 e1 hS hAX hf hL hF
    obtain ⟨t2, a1, b1⟩ := kx E ce q u t T'.heap (locs ++ L) e1.symm (by rw [← e2]; exact X'.warmed.alike) hp hb k1 k2 k3 (by rw [e1]; exact hce) hcv hcl T' rfl X'
    exact ⟨t2, st.trans a1, b1⟩
/-- caught by the row x of this method's table; the rows ahead don't take it -/
theorem vx_catch {own name : String} {E : String} {ce : Cell} {q : Addr} (hown : s.vm.findClass own = some m.cls) (pre : List ExceptionTableEntry) (x : ExceptionTableEntry) (suf : List ExceptionTableEntry) (hsplit : c.exceptionTable.toList = pre ++ x :: suf)
    (hpass : ∀ z ∈ pre, covers z pc = false ∨ (z.catchType ≠ 0 ∧ ∃ nm : String, (Cond.classLink own z.catchType nm).before args s = true ∧ va_Nc E nm s)) (hx : covers x pc = true) (h0 : x.catchType ≠ 0)
    (hlink : (Cond.classLink own x.catchType name).before args s = true) (hcast : (Cond.castable E name).before args s = true) (hcell : H[q]? = some ce) (hv : ce.vm = .none) (hcl : s.vm.findClass E = some ce.cls)
    (kk : W p l e R s m args below meth c H locs cells slots Q (F0 m x.handlerPc ls [.ref q])) : vx_W p l e R s m args below meth c H locs cells slots Q (F0 m pc ls rest) q := by
  intro T hT X
  have hpl : e.platform.magicAccessors = ({} : Platform).magicAccessors := by rw [X.admits.platform]
  obtain ⟨c3, c4, hc3, hc4, hasg⟩ := Cond.castable_spec hcast
  cases Option.some.inj (hc3.symm.trans hcl)
  obtain ⟨c5, hc5, hcl5⟩ := Cond.classLink_spec hown hlink e.platform hpl
  cases Option.some.inj (hc4.symm.trans hc5)
  obtain ⟨vm', X', st⟩ := X.thenCaughtThrough q (g := F0 m pc ls rest) rfl (Steps.refl _) (by rw [hT]; exact hcell) (by rw [hv]; rfl) (by obtain ⟨k9, h9, -⟩ := Vm.findClass_spec hcl; exact ⟨k9, h9⟩) pre x suf hsplit
    (fun z hz => by
      rcases hpass z hz with h | ⟨hz0, nm, hl1, hn1⟩
      · exact Or.inl h
      · obtain ⟨c6, hc6, hcl6⟩ := Cond.classLink_spec hown hl1 e.platform hpl
        obtain ⟨a8, b8, h1, h2, h3⟩ := hn1
        cases Option.some.inj (h1.symm.trans hcl)
        cases Option.some.inj (h2.symm.trans hc6)
        exact Or.inr ⟨hz0, _, hcl6, h3⟩) hx (Or.inr ⟨h0, c4, hcl5, hasg⟩)
  obtain ⟨t, a1, b1⟩ := kk (T.setVm vm') hT X'
  exact ⟨t, st.trans a1, b1⟩
end Rows
section Ends
variable {p : Program} {l : Launch} {e : Env} {R : Room} {s : State} {m : MethodId} {args : Array Value} {below : List Frame} {meth : Method} {c : Code} {H : Heap} {locs : List Loc} {cells slots : Nat} {Q : State → Prop}
variable {mc ms : Nat} {free : Addr → Prop} {A0 A1 : Nat → Prop} {H0 : Heap} {a : Array Value} {ls : Array Slot} {st0 rest : List Value}
variable {Qc : Array Value → State → Outcome → State → Prop} {XC : String → State → State → Prop}
/-- what a body that may throw owes at its end -/
def vx_MQ (below : List Frame) (Qc : Array Value → State → Outcome → State → Prop) (XC : String → State → State → Prop) (a : Array Value) (s : State) (mc ms : Nat) (free : Addr → Prop) : State → Prop := fun t =>
  ∃ o, t.status = .running ∧ Ended t below o ∧ vx_Q Qc XC mc ms free a s o t
theorem vx_ret {g : JFrame} {mc ms : Nat} (k : W p l e R s m args below meth c H locs cells slots (MQ below Qc args s mc ms free) g) : W p l e R s m args below meth c H locs cells slots (vx_MQ below Qc XC args s mc ms free) g := by
  intro T hT X
  obtain ⟨t, a1, o, b1, b2, b3, b4⟩ := k T hT X
  exact ⟨t, a1, o, b1, b2, Or.inl ⟨b3, b4⟩⟩
/-- not caught here: it goes on to the caller -/
theorem vx_widen {g : JFrame} {q : Addr} {k n : Nat} (h1 : cells ≤ k) (h2 : slots ≤ n) (kk : vx_W p l e R s m args below meth c H locs k n Q g q) : vx_W p l e R s m args below meth c H locs cells slots Q g q := fun T hT X => kk T hT (stand_widen X h1 h2)
theorem vx_out {pc : Nat} {E : String} {ce : Cell} {q : Addr} {mc ms : Nat} (hout : ∀ x ∈ c.exceptionTable.toList, covers x pc = false) (hlocks : meth.locks = false) (hcell : H[q]? = some ce) (hv : ce.vm = .none) (hcl : s.vm.findClass E = some ce.cls)
    (hx : ∀ t : State, t.heap = H → s.vm.Alike t.vm → XC E s t) (hf : ∀ z ∈ locs, free z.base) (hc : cells ≤ mc) (hs : slots ≤ ms) :
    vx_W p l e R s m args below meth c H locs cells slots (vx_MQ below Qc XC args s mc ms free) (F0 m pc ls rest) q := by
  intro T hT X
  obtain ⟨st1, hrun, hend, hW, hsm⟩ := X.leaveThrown q (g := F0 m pc ls rest) rfl rfl rfl hout hlocks
  have hcell9 : (T.setFrames (.throwing q :: below)).heap[q]? = some ce := by
    show T.heap[q]? = some ce
    rw [hT]; exact hcell
  exact ⟨_, st1, .threw q, hrun, hend, Or.inr ⟨q, rfl, E, ce, locs, hx _ hT hW.alike, hcell9, hv, hcl, hW, hsm.mono hc hs, hf⟩⟩
theorem vx_frame {U : State} {k n : Nat} (h : s.sameButNew ({ U with vm := s.vm } : State) locs k n) : s.heap.size ≤ U.heap.size ∧ ∀ q : Nat, q < s.heap.size → (∀ z ∈ locs, z.base ≠ q) → U.heap[q]? = s.heap[q]? := by
  obtain ⟨-, h2, -, -, -, h6⟩ := h
  refine ⟨h2, fun q hq hz => ?_⟩
  obtain ⟨c9, e1, e2, e3, e4⟩ := h6 q _ (Array.getElem?_eq_getElem hq)
  have hs : c9.slots = (s.heap[q]).slots := Array.ext_getElem? fun i => e4 i fun hm => hz _ hm rfl
  have h9 : c9 = s.heap[q] := by
    rw [hs] at e2
    exact e2
  have e5 : U.heap[q]? = some c9 := e1
  rw [e5, h9, Array.getElem?_eq_getElem hq]
/-- the words of a throw but the four that speak of the heap -/
def vx_no (w : Cond) : Bool := decide (w ≠ .isRef (.static Bundle.tN "UNASSIGNED_STACK" Bundle.steD)) && decide (w ≠ .isRef (.static Bundle.tN "SUPPRESSED_SENTINEL" Bundle.listD)) && decide (w ≠ .laysStatic Bundle.tN "UNASSIGNED_STACK" Bundle.steD) && decide (w ≠ .laysStatic Bundle.tN "SUPPRESSED_SENTINEL" Bundle.listD)
def vx_at0 (own : String) (ic : Nat) (X : String) (names : List String) : List Cond := (Bundle.ownAtoms0 own ic X names).filter vx_no
def vx_atS (own : String) (ic : Nat) (X : String) (names : List String) : List Cond := (Bundle.ownAtoms own ic X names).filter vx_no
/-- a word that the tables alone decide, or a good one -/
def vx_ot (w : Cond) : Bool := w.onTables || goodWord w
theorem vx_ot_at {args a' : Array Value} {s U : State} {w : Cond} (hW : s.WarmedH U.vm) (hvm : s.vm = U.vm) (hg : vx_ot w = true) (h : w.before args s = true) : w.before a' U = true := by
  simp only [vx_ot, Bool.or_eq_true] at hg
  rcases hg with hg | hg
  · exact va_tabs hg hvm h
  · exact word_at hW (good_of_word hg) h
/-- a list's words: the good ones out of the method's own list, the others by premises of their own -/
theorem vx_hat {args : Array Value} {s : State} {L B : List Cond} (h1 : ∀ w ∈ L.filter goodWord, w.before args s = true) (h2 : ∀ w ∈ L.filter (fun w => !goodWord w), w ∈ B) (h3 : ∀ w ∈ B, w.before args s = true) : ∀ w ∈ L, w.before args s = true := by
  intro w hw
  by_cases g : goodWord w = true
  · exact h1 w (List.mem_filter.mpr ⟨hw, g⟩)
  · refine h3 w (h2 w (List.mem_filter.mpr ⟨hw, ?_⟩))
    show (!goodWord w) = true
    cases hgw : goodWord w
    · rfl
    · exact absurd hgw g
theorem vx_c {args : Array Value} {s : State} {w : Cond} {B : List Cond} (h : w.before args s = true) (t : ∀ w ∈ B, w.before args s = true) : ∀ w' ∈ w :: B, w'.before args s = true := fun w' h' => (List.mem_cons.mp h').elim (fun e => by rw [e]; exact h) (t w')
theorem vx_n {args : Array Value} {s : State} : ∀ w ∈ ([] : List Cond), w.before args s = true := fun _ h => nomatch h
theorem vx_own {args : Array Value} {s : State} {L : List Cond} (h1 : ∀ w ∈ L.filter vx_no, w.before args s = true)
    (hU : (Cond.isRef (.static Bundle.tN "UNASSIGNED_STACK" Bundle.steD)).before args s = true) (hN : (Cond.isRef (.static Bundle.tN "SUPPRESSED_SENTINEL" Bundle.listD)).before args s = true)
    (lU : (Cond.laysStatic Bundle.tN "UNASSIGNED_STACK" Bundle.steD).before args s = true) (lN : (Cond.laysStatic Bundle.tN "SUPPRESSED_SENTINEL" Bundle.listD).before args s = true) : ∀ w ∈ L, w.before args s = true := by
  intro w hw
  by_cases e1 : w = .isRef (.static Bundle.tN "UNASSIGNED_STACK" Bundle.steD)
  · rw [e1]; exact hU
  · by_cases e2 : w = .isRef (.static Bundle.tN "SUPPRESSED_SENTINEL" Bundle.listD)
    · rw [e2]; exact hN
    · by_cases e3 : w = .laysStatic Bundle.tN "UNASSIGNED_STACK" Bundle.steD
      · rw [e3]; exact lU
      · by_cases e4 : w = .laysStatic Bundle.tN "SUPPRESSED_SENTINEL" Bundle.listD
        · rw [e4]; exact lN
        · exact h1 w (List.mem_filter.mpr ⟨hw, by unfold vx_no; rw [decide_eq_true e1, decide_eq_true e2, decide_eq_true e3, decide_eq_true e4]; rfl⟩)
/-- where a static field lies, its class's statics cell in H -/
def vx_L (C n d : String) (A : Nat → Prop) (U : State) (H : Heap) : Prop := ∃ (c : ClassId) (k : Class) (i : Nat) (f : Field) (a : Nat) (cell : Cell), U.vm.findClass C = some c ∧ U.fieldFound? C n d = some (c, k, i, f) ∧ f.isStatic = true ∧ k.statics = some a ∧ H[a]? = some cell ∧ cell.vm.isStatics = true ∧ cell.cls = c ∧ f.slot < cell.slots.size ∧ k.staticTypes[f.slot]? = some f.type ∧ ¬ A a
theorem vx_L.moved {C n d : String} {A : Nat → Prop} {u U : State} {H : Heap} (hvm : u.vm.Alike U.vm) (h : vx_L C n d A u H) : vx_L C n d A U H := by
  obtain ⟨c, k, i, f, a, cell, h1, h2, h3, h4, h5, h6, h7, h8, h9, h10⟩ := h
  obtain ⟨k', hi', he⟩ := State.fieldFound?_setVm hvm h2
  exact ⟨c, k', i, f, a, cell, by rw [hvm.findClass]; exact h1, hi', h3, by rw [he]; exact h4, h5, h6, h7, h8, by rw [he]; exact h9, h10⟩
theorem vx_L.kept {C n d : String} {A : Nat → Prop} {U : State} {H H1 : Heap} (h : vx_L C n d A U H) (hq : ∀ a : Nat, a < H.size → ¬ A a → H1[a]? = H[a]?) : vx_L C n d A U H1 := by
  obtain ⟨c, k, i, f, a, cell, h1, h2, h3, h4, h5, h6, h7, h8, h9, h10⟩ := h
  exact ⟨c, k, i, f, a, cell, h1, h2, h3, h4, by rw [hq a (Array.getElem?_eq_some_iff.mp h5).1 h10]; exact h5, h6, h7, h8, h9, h10⟩
theorem vx_L.narrow {C n d : String} {A B : Nat → Prop} {U : State} {H : Heap} (h : vx_L C n d A U H) (hAB : ∀ q, B q → A q) : vx_L C n d B U H := by
  obtain ⟨c, k, i, f, a, cell, h1, h2, h3, h4, h5, h6, h7, h8, h9, h10⟩ := h
  exact ⟨c, k, i, f, a, cell, h1, h2, h3, h4, h5, h6, h7, h8, h9, fun z => h10 (hAB _ z)⟩
theorem vx_L.word {C n d : String} {A : Nat → Prop} {s : State} {args : Array Value} (h : vx_L C n d A s s.heap) : (Cond.laysStatic C n d).before args s = true := by
  obtain ⟨c, k, i, f, a, cell, h1, h2, h3, h4, h5, h6, h7, h8, h9, -⟩ := h
  show (Cond.laysStatic C n d).holds args s none s [] = true
  exact Cond.laysStatic_of h1 h2 h3 h4 h5 h6 h7 h8 h9
/-- .. and what it holds: null or some reference -/
def vx_Zq (C n d : String) (A : Nat → Prop) (U : State) (H : Heap) : Prop := va_Zq C n d A U H ∧ vx_L C n d A U H
theorem vx_Zq.moved {C n d : String} {A : Nat → Prop} {u U : State} {H : Heap} (hvm : u.vm.Alike U.vm) (h : vx_Zq C n d A u H) : vx_Zq C n d A U H := ⟨va_Zq.moved hvm h.1, vx_L.moved hvm h.2⟩
theorem vx_Zq.kept {C n d : String} {A : Nat → Prop} {U : State} {H H1 : Heap} (h : vx_Zq C n d A U H) (hq : ∀ a : Nat, a < H.size → ¬ A a → H1[a]? = H[a]?) : vx_Zq C n d A U H1 := ⟨va_Zq.kept h.1 hq, vx_L.kept h.2 hq⟩
theorem vx_Zq.narrow {C n d : String} {A B : Nat → Prop} {U : State} {H : Heap} (h : vx_Zq C n d A U H) (hAB : ∀ q, B q → A q) : vx_Zq C n d B U H := ⟨va_Zq.narrow h.1 hAB, vx_L.narrow h.2 hAB⟩
theorem vx_Zqof {args : Array Value} {s : State} {C n d : String} {A : Nat → Prop} (hl : (Cond.laysStatic C n d).before args s = true) (hini : (Cond.initialized C).before args s = true) (h : (Cond.isRef (.static C n d)).before args s = true) (hA : ∀ a : Nat, a < s.heap.size → ¬ A a) : vx_Zq C n d A s s.heap := by
  refine ⟨va_Zqof hl hini h hA, ?_⟩
  obtain ⟨c, k, i, f, a, cell, h1, h2, h3, h4, h5, h6, h7, h8, h9⟩ := Cond.laysStatic_spec hl
  exact ⟨c, k, i, f, a, cell, h1, h2, h3, h4, h5, h6, h7, h8, h9, hA a (Array.getElem?_eq_some_iff.mp h5).1⟩
theorem vx_isRef {C n d : String} {v : Value} {A : Nat → Prop} {s : State} {args : Array Value} (h : va_Z C n d v A s s.heap) (hv : v.isRef = true) : (Cond.isRef (.static C n d)).before args s = true := by
  obtain ⟨cf, kf, fi, f, a, cell, h1, h2, h3, h4, h5, h6, h7, -⟩ := h
  have he : (Term.static C n d).eval args s none [] s = some v := by
    simp [Term.eval, State.fieldNamed?, h1, h2, h4, h5, h6, h7]
  simp only [Cond.before, Cond.holds, Cond.value, he]
  cases v <;> simp_all [Value.isRef]
theorem vx_isRefq {C n d : String} {A : Nat → Prop} {s : State} {args : Array Value} (h : va_Zq C n d A s s.heap) : (Cond.isRef (.static C n d)).before args s = true := by
  rcases h with h | ⟨t, h⟩
  · exact vx_isRef h rfl
  · exact vx_isRef h rfl
/-- the same frame, seen from here: as if the method were called anew in this heap -/
theorem vx_rebase {T : State} (X : Stand p l e R s m args below meth c T locs cells slots) {R' : Room} (hf : R'.frames ≤ R.frames) (hl : R'.locals ≤ R.locals) (hc : cells + R'.cells ≤ R.cells) (hs : slots + R'.slots ≤ R.slots) :
    Stand p l e R' ((T.setVm s.vm).setFrames (.invoking m args :: below)) m args below meth c T [] 0 0 := by
  have htop : (T.setVm s.vm).topJava?.isSome := X.here.top
  have hF : ((T.setVm s.vm).setFrames (.invoking m args :: below)).frames = .invoking m args :: below := State.frames_setFrames _ (State.cur_lt_of_top htop)
  obtain ⟨g₀, hg0⟩ := Option.isSome_iff_exists.mp htop
  obtain ⟨r, hr⟩ := State.topJava?_eq_some.mp hg0
  have hl9 : e.platform.stackLimits (T.setVm s.vm).me = e.platform.stackLimits s.me := X.limits
  have hb9 : (T.setVm s.vm).me.stackBytes = s.me.stackBytes := X.bytes
  refine ⟨X.admits, X.cas, X.clock, hF, ?_, X.hears, X.method, X.code, X.here, X.tail, X.warmed, ?_, ?_, ?_⟩
  · have h := X.room
    have hU : ((T.setVm s.vm).setFrames (.invoking m args :: below)).localsInUse = s.localsInUse := by
      rw [State.localsInUse_invoking hF (meth := meth) (c := c) X.method X.code, State.localsInUse_invoking X.frames X.method X.code]
    simp only [State.hasRoom, Bool.and_eq_true, decide_eq_true_eq] at h ⊢
    obtain ⟨⟨⟨⟨h1, h2, h3, h4, h5, h6⟩, h7⟩, h8⟩, h9⟩ := h
    rw [X.frames, List.length_cons] at h2 h3
    have q1 := X.heapSize
    have q2 := X.used
    simp only [hF, hU, List.length_cons, State.stackLimits_setFrames, State.stackBytes_setFrames, hl9, hb9]
    refine ⟨⟨⟨⟨by omega, by omega, by omega, by omega, by omega, h6⟩, ?_⟩, ?_⟩, X.book⟩
    · show T.heap.size + R'.cells ≤ e.platform.maxCells
      omega
    · show T.slotsUsed + R'.slots ≤ e.platform.maxSlots
      omega
  · rw [State.stackLimits_setFrames]; rfl
  · rw [State.stackBytes_setFrames]; rfl
  · refine ⟨?_, Nat.le_refl _, Nat.le_refl _, ?_, ?_, fun a c9 h9 => ⟨c9, h9, rfl, rfl, fun _ _ => rfl⟩⟩
    · obtain ⟨t, ht, -⟩ := State.frames_cons hr
      show T.setVm s.vm = { ((T.setVm s.vm).setFrames (.invoking m args :: below)).setFrames (T.setVm s.vm).frames with heap := T.heap, slotsUsed := T.slotsUsed }
      rw [State.setFrames_setFrames, State.setFrames_self ht]
      rfl
    · show T.slotsUsed = T.slotsUsed + ((T.heap.toList.drop T.heap.size).map (·.slots.size)).sum
      rw [List.drop_eq_nil_of_le (Nat.le_of_eq Array.length_toList)]
      rfl
    · show ((T.heap.toList.drop T.heap.size).map (·.slots.size)).sum ≤ 0
      rw [List.drop_eq_nil_of_le (Nat.le_of_eq Array.length_toList)]
      exact Nat.le_refl _
/-- 'throw new E()': new; dup; invokespecial; athrow -/
theorem vx_throw0 {cc : ByteArray} {pc : Nat} (hexec : p.tables.exec = Jvm.exec) (hb : c.code = cc) (hl : l.stackTraces = false) {own cls : String} {names : List String} {ik ic mc ms : Nat} {A : Nat → Prop}
    (hown : s.vm.findClass own = some m.cls) (hcls : Bundle.fit cls = true) (hnames : ∀ n ∈ names, Bundle.fit n = true)
    (hk : (Cond.classLink own ik cls).before args s = true) (hini : (Cond.initialized cls).before args s = true) (hat : ∀ w ∈ vx_at0 own ic cls names, w.before args s = true)
    (hgood : ∀ w ∈ Cond.classLink own ik cls :: Cond.initialized cls :: vx_at0 own ic cls names, vx_ot w = true)
    (hU : vx_Zq Bundle.tN "UNASSIGNED_STACK" Bundle.steD A s s.heap) (hN : vx_Zq Bundle.tN "SUPPRESSED_SENTINEL" Bundle.listD A s s.heap) (hS : va_S A s.heap H locs) (hsize : ls.size = c.maxLocals)
    (d0 : decode cc pc = .ok (.new ik, 3)) (d3 : decode cc (pc + 3) = .ok (.dup, 1)) (d4 : decode cc (pc + 4) = .ok (.invokespecial ic, 3)) (d7 : decode cc (pc + 7) = .ok (.athrow, 1))
    (hout : ∀ x ∈ c.exceptionTable.toList, covers x (pc + 7) = false)
    (hRframes : names.length + 3 < R.frames) (hRlocals : (rest.map fun v => v.category).sum + (13 * (names.length + 1) + 42) ≤ R.locals) (hRcells : cells + 1 ≤ R.cells) (hRslots : slots + 6 ≤ R.slots) (hlocks : meth.locks = false)
    (hx : ∀ t : State, s.vm.Alike t.vm → H.size ≤ t.heap.size → (∀ q : Nat, q < H.size → t.heap[q]? = H[q]?) → XC cls s t)
    (hf : ∀ z ∈ locs, free z.base) (hc : cells + 1 ≤ mc) (hs : slots + 6 ≤ ms) :
    W p l e R s m args below meth c H locs cells slots (vx_MQ below Qc XC args s mc ms free) (F0 m pc ls rest) := by
  intro T hT X
  have htr : e.platform.stackTraces = false := (show e.platform.stackTraces = l.stackTraces by rw [X.admits.platform]).trans hl
  have Y := vx_rebase X (R' := { frames := R.frames, locals := R.locals, cells := 1, slots := 6 }) (Nat.le_refl _) (Nat.le_refl _) hRcells hRslots
  obtain ⟨s', hA⟩ : ∃ z, z = (T.setVm s.vm).setFrames (.invoking m args :: below) := ⟨_, rfl⟩
  rw [← hA] at Y
  have hvm : s'.vm = s.vm := by rw [hA]; rfl
  have hhp : s'.heap = H := by rw [hA]; exact hT
  have hW0 : s.WarmedH s'.vm := by rw [hvm]; exact State.WarmedH.refl s
  have hat' : ∀ w ∈ vx_at0 own ic cls names, w.before args s' = true := fun w hw => vx_ot_at hW0 hvm.symm (hgood w (List.mem_cons_of_mem _ (List.mem_cons_of_mem _ hw))) (hat w hw)
  have hk' : (Cond.classLink own ik cls).before args s' = true := vx_ot_at hW0 hvm.symm (hgood _ List.mem_cons_self) hk
  have hini' : (Cond.initialized cls).before args s' = true := vx_ot_at hW0 hvm.symm (hgood _ (List.mem_cons_of_mem _ List.mem_cons_self)) hini
  have hU' : vx_Zq Bundle.tN "UNASSIGNED_STACK" Bundle.steD A s' s'.heap := by rw [hhp]; exact vx_Zq.moved hW0.alike (hU.kept hS.2.1)
  have hN' : vx_Zq Bundle.tN "SUPPRESSED_SENTINEL" Bundle.listD A s' s'.heap := by rw [hhp]; exact vx_Zq.moved hW0.alike (hN.kept hS.2.1)
  have h : ∀ w ∈ Bundle.ownAtoms0 own ic cls names, w.before args s' = true := vx_own hat' (vx_isRefq hU'.1) (vx_isRefq hN'.1) hU'.2.word hN'.2.word
  have hown' : s'.vm.findClass own = some m.cls := by rw [hvm]; exact hown
  have hins : (Cond.instantiable cls 6).before args s' = true := h _ (by simp [Bundle.ownAtoms0])
  obtain ⟨vm₁, cX, kX, hfX, hkX, -, -, X₁, st1⟩ := Y.newCold hexec (own := own) (C := cls) (index := ik) (n := 6) hown' hk' hins hini'
    (g := F0 m pc ls rest) rfl (by rw [hb]; exact d0) (Nat.le_refl _) (Nat.le_refl _)
  generalize hT1 : (T.setVm vm₁).pushCell { cls := cX, slots := kX.instanceTypes.map defaultValue, vm := .none } = T1 at X₁ st1
  have hcat : (Value.ref T.heap.size).category = 1 := rfl
  have hcellA : T1.heap[T.heap.size]? = some (freshCell cX kX) := by rw [← hT1]; exact State.heap_pushCell_size _ _
  have d3' : decode c.code (pc + 3) = .ok (.dup, 1) := by rw [hb]; exact d3
  obtain ⟨U, hsteps, hrun, hend, hW, hsame, ce, hce, hO⟩ := X₁.ctorThrow0 hexec htr (own := own) (cls := cls) (names := names) (ic := ic) hown' hcls hnames h (fun x hx => nomatch hx) hfX hkX hcellA (by rw [hhp, hT]; exact Nat.le_refl _)
    (g := { method := m, pc := pc + 4, locals := ls, stack := .ref T.heap.size :: .ref T.heap.size :: rest, locked := none }) rfl hsize rfl rfl (rest := rest) rfl
    (by rw [hb]; exact d4) (by rw [hb]; exact d7) hout hRframes (by simp only [List.map_cons, List.sum_cons, hcat]; omega) hlocks
  obtain ⟨f1, f2⟩ := vx_frame hsame
  rw [hhp] at f1 f2
  have hWs : s.WarmedH U.vm := State.WarmedH.trans hW0 hW
  have hcl : s.vm.findClass cls = some ce.cls := by
    have h9 := hO.cls
    rw [hvm] at h9
    exact h9
  have hall : s.sameButNew ({ U with vm := s.vm } : State) locs mc ms := by
    subst hA
    obtain ⟨e1, e2⟩ := hsame
    rw [State.setFrames_setFrames] at e1
    have h2 : (T.setVm s.vm).sameButNew ({ U with vm := s.vm } : State) [] (0 + 1) (0 + 6) := ⟨e1, e2⟩
    have h3 := X.same.trans h2
    rw [List.append_nil] at h3
    exact h3.mono hc hs
  refine ⟨U, ?_, .threw T.heap.size, hrun, hend, Or.inr ⟨T.heap.size, rfl, cls, ce, locs, hx U hWs.alike f1 (fun q hq => f2 q hq (fun z hz => nomatch hz)), hce, hO.vm, hcl, hWs, hall, hf⟩⟩
  refine st1 _ ?_
  show Steps p.tables e below (T1.setTop { method := m, pc := pc + 3, locals := ls, stack := .ref T.heap.size :: rest, locked := none }) _
  jvm_step X₁.here [X₁.here.top, hexec, d3', Value.category]
  exact hsteps
/-- 'throw new E("text")': new; dup; ldc; invokespecial; athrow -/
theorem vx_throwS {cc : ByteArray} {pc : Nat} (hexec : p.tables.exec = Jvm.exec) (hb : c.code = cc) (hl : l.stackTraces = false) {own cls text : String} {names : List String} {ik is ic mc ms sa : Nat} {A : Nat → Prop}
    (hown : s.vm.findClass own = some m.cls) (hcls : Bundle.fit cls = true) (hnames : ∀ n ∈ names, Bundle.fit n = true)
    (hk : (Cond.classLink own ik cls).before args s = true) (hini : (Cond.initialized cls).before args s = true) (hstr : vk_R own is text sa s) (hat : ∀ w ∈ vx_atS own ic cls names, w.before args s = true)
    (hgood : ∀ w ∈ Cond.classLink own ik cls :: Cond.initialized cls :: vx_atS own ic cls names, vx_ot w = true)
    (hU : vx_Zq Bundle.tN "UNASSIGNED_STACK" Bundle.steD A s s.heap) (hN : vx_Zq Bundle.tN "SUPPRESSED_SENTINEL" Bundle.listD A s s.heap) (hS : va_S A s.heap H locs) (hsize : ls.size = c.maxLocals)
    (d0 : decode cc pc = .ok (.new ik, 3)) (d3 : decode cc (pc + 3) = .ok (.dup, 1)) (d4 : decode cc (pc + 4) = .ok (.ldc is, 2)) (d6 : decode cc (pc + 6) = .ok (.invokespecial ic, 3)) (d9 : decode cc (pc + 9) = .ok (.athrow, 1))
    (hout : ∀ x ∈ c.exceptionTable.toList, covers x (pc + 9) = false)
    (hRframes : names.length + 3 < R.frames) (hRlocals : (rest.map fun v => v.category).sum + (13 * (names.length + 1) + 43) ≤ R.locals) (hRcells : cells + 1 ≤ R.cells) (hRslots : slots + 6 ≤ R.slots) (hlocks : meth.locks = false)
    (hx : ∀ t : State, s.vm.Alike t.vm → H.size ≤ t.heap.size → (∀ q : Nat, q < H.size → t.heap[q]? = H[q]?) → XC cls s t)
    (hf : ∀ z ∈ locs, free z.base) (hc : cells + 1 ≤ mc) (hs : slots + 6 ≤ ms) :
    W p l e R s m args below meth c H locs cells slots (vx_MQ below Qc XC args s mc ms free) (F0 m pc ls rest) := by
  intro T hT X
  have htr : e.platform.stackTraces = false := (show e.platform.stackTraces = l.stackTraces by rw [X.admits.platform]).trans hl
  have Y := vx_rebase X (R' := { frames := R.frames, locals := R.locals, cells := 1, slots := 6 }) (Nat.le_refl _) (Nat.le_refl _) hRcells hRslots
  obtain ⟨s', hA⟩ : ∃ z, z = (T.setVm s.vm).setFrames (.invoking m args :: below) := ⟨_, rfl⟩
  rw [← hA] at Y
  have hvm : s'.vm = s.vm := by rw [hA]; rfl
  have hhp : s'.heap = H := by rw [hA]; exact hT
  have hW0 : s.WarmedH s'.vm := by rw [hvm]; exact State.WarmedH.refl s
  have hat' : ∀ w ∈ vx_atS own ic cls names, w.before args s' = true := fun w hw => vx_ot_at hW0 hvm.symm (hgood w (List.mem_cons_of_mem _ (List.mem_cons_of_mem _ hw))) (hat w hw)
  have hk' : (Cond.classLink own ik cls).before args s' = true := vx_ot_at hW0 hvm.symm (hgood _ List.mem_cons_self) hk
  have hini' : (Cond.initialized cls).before args s' = true := vx_ot_at hW0 hvm.symm (hgood _ (List.mem_cons_of_mem _ List.mem_cons_self)) hini
  have hU' : vx_Zq Bundle.tN "UNASSIGNED_STACK" Bundle.steD A s' s'.heap := by rw [hhp]; exact vx_Zq.moved hW0.alike (hU.kept hS.2.1)
  have hN' : vx_Zq Bundle.tN "SUPPRESSED_SENTINEL" Bundle.listD A s' s'.heap := by rw [hhp]; exact vx_Zq.moved hW0.alike (hN.kept hS.2.1)
  have h : ∀ w ∈ Bundle.ownAtoms own ic cls names, w.before args s' = true := vx_own hat' (vx_isRefq hU'.1) (vx_isRefq hN'.1) hU'.2.word hN'.2.word
  have hown' : s'.vm.findClass own = some m.cls := by rw [hvm]; exact hown
  have hins : (Cond.instantiable cls 6).before args s' = true := h _ (by simp [Bundle.ownAtoms])
  obtain ⟨vm₁, cX, kX, hfX, hkX, -, -, X₁, st1⟩ := Y.newCold hexec (own := own) (C := cls) (index := ik) (n := 6) hown' hk' hins hini'
    (g := F0 m pc ls rest) rfl (by rw [hb]; exact d0) (Nat.le_refl _) (Nat.le_refl _)
  generalize hT1 : (T.setVm vm₁).pushCell { cls := cX, slots := kX.instanceTypes.map defaultValue, vm := .none } = T1 at X₁ st1
  have hcat : (Value.ref T.heap.size).category = 1 := rfl
  have hcellA : T1.heap[T.heap.size]? = some (freshCell cX kX) := by rw [← hT1]; exact State.heap_pushCell_size _ _
  have d3' : decode c.code (pc + 3) = .ok (.dup, 1) := by rw [hb]; exact d3
  have d4' : decode c.code (pc + 4) = .ok (.ldc is, 2) := by rw [hb]; exact d4
  have hstr' : vk_R own is text sa s' := vk_R.warm hW0 hstr
  obtain ⟨U, hsteps, hrun, hend, hW, hsame, ce, hce, hO⟩ := X₁.ctorThrowS hexec htr (own := own) (cls := cls) (names := names) (ic := ic) hown' hcls hnames h (fun x hx => nomatch hx) hfX hkX hcellA (by rw [hhp, hT]; exact Nat.le_refl _) (msg := .ref sa) rfl
    (g := { method := m, pc := pc + 6, locals := ls, stack := .ref sa :: .ref T.heap.size :: .ref T.heap.size :: rest, locked := none }) rfl hsize rfl rfl (rest := rest) rfl
    (by rw [hb]; exact d6) (by rw [hb]; exact d9) hout hRframes (by simp only [List.map_cons, List.sum_cons, hcat]; omega) hlocks
  obtain ⟨f1, f2⟩ := vx_frame hsame
  rw [hhp] at f1 f2
  have hWs : s.WarmedH U.vm := State.WarmedH.trans hW0 hW
  have hcl : s.vm.findClass cls = some ce.cls := by
    have h9 := hO.cls
    rw [hvm] at h9
    exact h9
  have hall : s.sameButNew ({ U with vm := s.vm } : State) locs mc ms := by
    subst hA
    obtain ⟨e1, e2⟩ := hsame
    rw [State.setFrames_setFrames] at e1
    have h2 : (T.setVm s.vm).sameButNew ({ U with vm := s.vm } : State) [] (0 + 1) (0 + 6) := ⟨e1, e2⟩
    have h3 := X.same.trans h2
    rw [List.append_nil] at h3
    exact h3.mono hc hs
  refine ⟨U, ?_, .threw T.heap.size, hrun, hend, Or.inr ⟨T.heap.size, rfl, cls, ce, locs, hx U hWs.alike f1 (fun q hq => f2 q hq (fun z hz => nomatch hz)), hce, hO.vm, hcl, hWs, hall, hf⟩⟩
  refine st1 _ ?_
  show Steps p.tables e below (T1.setTop { method := m, pc := pc + 3, locals := ls, stack := .ref T.heap.size :: rest, locked := none }) _
  jvm_step X₁.here [X₁.here.top, hexec, d3', Value.category]
  exact X₁.ldcString hexec (own := own) (text := text) (index := is) (a := sa) hown' hstr'.1 hstr'.2
    (g := { method := m, pc := pc + 4, locals := ls, stack := .ref T.heap.size :: .ref T.heap.size :: rest, locked := none }) rfl d4' _ hsteps
/-- 'throw new E("text")', the text by a wide index -/
theorem vx_throwSW {cc : ByteArray} {pc : Nat} (hexec : p.tables.exec = Jvm.exec) (hb : c.code = cc) (hl : l.stackTraces = false) {own cls text : String} {names : List String} {ik is ic mc ms sa : Nat} {A : Nat → Prop}
    (hown : s.vm.findClass own = some m.cls) (hcls : Bundle.fit cls = true) (hnames : ∀ n ∈ names, Bundle.fit n = true)
    (hk : (Cond.classLink own ik cls).before args s = true) (hini : (Cond.initialized cls).before args s = true) (hstr : vk_R own is text sa s) (hat : ∀ w ∈ vx_atS own ic cls names, w.before args s = true)
    (hgood : ∀ w ∈ Cond.classLink own ik cls :: Cond.initialized cls :: vx_atS own ic cls names, vx_ot w = true)
    (hU : vx_Zq Bundle.tN "UNASSIGNED_STACK" Bundle.steD A s s.heap) (hN : vx_Zq Bundle.tN "SUPPRESSED_SENTINEL" Bundle.listD A s s.heap) (hS : va_S A s.heap H locs) (hsize : ls.size = c.maxLocals)
    (d0 : decode cc pc = .ok (.new ik, 3)) (d3 : decode cc (pc + 3) = .ok (.dup, 1)) (d4 : decode cc (pc + 4) = .ok (.ldc_w is, 3)) (d7 : decode cc (pc + 7) = .ok (.invokespecial ic, 3)) (d10 : decode cc (pc + 10) = .ok (.athrow, 1))
    (hout : ∀ x ∈ c.exceptionTable.toList, covers x (pc + 10) = false)
    (hRframes : names.length + 3 < R.frames) (hRlocals : (rest.map fun v => v.category).sum + (13 * (names.length + 1) + 43) ≤ R.locals) (hRcells : cells + 1 ≤ R.cells) (hRslots : slots + 6 ≤ R.slots) (hlocks : meth.locks = false)
    (hx : ∀ t : State, s.vm.Alike t.vm → H.size ≤ t.heap.size → (∀ q : Nat, q < H.size → t.heap[q]? = H[q]?) → XC cls s t)
    (hf : ∀ z ∈ locs, free z.base) (hc : cells + 1 ≤ mc) (hs : slots + 6 ≤ ms) :
    W p l e R s m args below meth c H locs cells slots (vx_MQ below Qc XC args s mc ms free) (F0 m pc ls rest) := by
  intro T hT X
  have htr : e.platform.stackTraces = false := (show e.platform.stackTraces = l.stackTraces by rw [X.admits.platform]).trans hl
  have Y := vx_rebase X (R' := { frames := R.frames, locals := R.locals, cells := 1, slots := 6 }) (Nat.le_refl _) (Nat.le_refl _) hRcells hRslots
  obtain ⟨s', hA⟩ : ∃ z, z = (T.setVm s.vm).setFrames (.invoking m args :: below) := ⟨_, rfl⟩
  rw [← hA] at Y
  have hvm : s'.vm = s.vm := by rw [hA]; rfl
  have hhp : s'.heap = H := by rw [hA]; exact hT
  have hW0 : s.WarmedH s'.vm := by rw [hvm]; exact State.WarmedH.refl s
  have hat' : ∀ w ∈ vx_atS own ic cls names, w.before args s' = true := fun w hw => vx_ot_at hW0 hvm.symm (hgood w (List.mem_cons_of_mem _ (List.mem_cons_of_mem _ hw))) (hat w hw)
  have hk' : (Cond.classLink own ik cls).before args s' = true := vx_ot_at hW0 hvm.symm (hgood _ List.mem_cons_self) hk
  have hini' : (Cond.initialized cls).before args s' = true := vx_ot_at hW0 hvm.symm (hgood _ (List.mem_cons_of_mem _ List.mem_cons_self)) hini
  have hU' : vx_Zq Bundle.tN "UNASSIGNED_STACK" Bundle.steD A s' s'.heap := by rw [hhp]; exact vx_Zq.moved hW0.alike (hU.kept hS.2.1)
  have hN' : vx_Zq Bundle.tN "SUPPRESSED_SENTINEL" Bundle.listD A s' s'.heap := by rw [hhp]; exact vx_Zq.moved hW0.alike (hN.kept hS.2.1)
  have h : ∀ w ∈ Bundle.ownAtoms own ic cls names, w.before args s' = true := vx_own hat' (vx_isRefq hU'.1) (vx_isRefq hN'.1) hU'.2.word hN'.2.word
  have hown' : s'.vm.findClass own = some m.cls := by rw [hvm]; exact hown
  have hins : (Cond.instantiable cls 6).before args s' = true := h _ (by simp [Bundle.ownAtoms])
  obtain ⟨vm₁, cX, kX, hfX, hkX, -, -, X₁, st1⟩ := Y.newCold hexec (own := own) (C := cls) (index := ik) (n := 6) hown' hk' hins hini'
    (g := F0 m pc ls rest) rfl (by rw [hb]; exact d0) (Nat.le_refl _) (Nat.le_refl _)
  generalize hT1 : (T.setVm vm₁).pushCell { cls := cX, slots := kX.instanceTypes.map defaultValue, vm := .none } = T1 at X₁ st1
  have hcat : (Value.ref T.heap.size).category = 1 := rfl
  have hcellA : T1.heap[T.heap.size]? = some (freshCell cX kX) := by rw [← hT1]; exact State.heap_pushCell_size _ _
  have d3' : decode c.code (pc + 3) = .ok (.dup, 1) := by rw [hb]; exact d3
  have d4' : decode c.code (pc + 4) = .ok (.ldc_w is, 3) := by rw [hb]; exact d4
  have hstr' : vk_R own is text sa s' := vk_R.warm hW0 hstr
  obtain ⟨U, hsteps, hrun, hend, hW, hsame, ce, hce, hO⟩ := X₁.ctorThrowS hexec htr (own := own) (cls := cls) (names := names) (ic := ic) hown' hcls hnames h (fun x hx => nomatch hx) hfX hkX hcellA (by rw [hhp, hT]; exact Nat.le_refl _) (msg := .ref sa) rfl
    (g := { method := m, pc := pc + 7, locals := ls, stack := .ref sa :: .ref T.heap.size :: .ref T.heap.size :: rest, locked := none }) rfl hsize rfl rfl (rest := rest) rfl
    (by rw [hb]; exact d7) (by rw [hb]; exact d10) hout hRframes (by simp only [List.map_cons, List.sum_cons, hcat]; omega) hlocks
  obtain ⟨f1, f2⟩ := vx_frame hsame
  rw [hhp] at f1 f2
  have hWs : s.WarmedH U.vm := State.WarmedH.trans hW0 hW
  have hcl : s.vm.findClass cls = some ce.cls := by
    have h9 := hO.cls
    rw [hvm] at h9
    exact h9
  have hall : s.sameButNew ({ U with vm := s.vm } : State) locs mc ms := by
    subst hA
    obtain ⟨e1, e2⟩ := hsame
    rw [State.setFrames_setFrames] at e1
    have h2 : (T.setVm s.vm).sameButNew ({ U with vm := s.vm } : State) [] (0 + 1) (0 + 6) := ⟨e1, e2⟩
    have h3 := X.same.trans h2
    rw [List.append_nil] at h3
    exact h3.mono hc hs
  refine ⟨U, ?_, .threw T.heap.size, hrun, hend, Or.inr ⟨T.heap.size, rfl, cls, ce, locs, hx U hWs.alike f1 (fun q hq => f2 q hq (fun z hz => nomatch hz)), hce, hO.vm, hcl, hWs, hall, hf⟩⟩
  refine st1 _ ?_
  show Steps p.tables e below (T1.setTop { method := m, pc := pc + 3, locals := ls, stack := .ref T.heap.size :: rest, locked := none }) _
  jvm_step X₁.here [X₁.here.top, hexec, d3', Value.category]
  exact X₁.ldcStringW hexec (own := own) (text := text) (index := is) (a := sa) hown' hstr'.1 hstr'.2
    (g := { method := m, pc := pc + 4, locals := ls, stack := .ref T.heap.size :: .ref T.heap.size :: rest, locked := none }) rfl d4' _ hsteps
end Ends
section Bodies
variable {l : Launch}
theorem vx_ofW {y : MethodName} {ws ws' : List Cond} {rm : Room} {Pc : Array Value → State → Prop} {Qc : Array Value → State → Outcome → State → Prop} {XC : String → State → State → Prop} {mc ms : Nat} {free : Addr → Prop} {cc : ByteArray} {maxL : Nat} {ret : Option FieldType}
    (hy : plainName y.cls = true) (hw : ws = Cond.code y cc maxL ret :: ws')
    (body : ∀ p e s m args below meth c s₁, BodyLoose p l y (headSpec ws rm) cc maxL ret e s m args below meth c s₁ → c.maxLocals = maxL → (∀ x ∈ c.exceptionTable.toList, False) → Pc args s →
      W p l e (headSpec ws rm).room s m args below meth c s.heap [] 0 0 (vx_MQ below Qc XC args s mc ms free) (entryFrame m args maxL)) : vx_Met l y ws rm Pc Qc XC mc ms free := by
  refine MetFree.of_bodyS (code := cc) (maxLocals := maxL) (ret := ret) hy ?_ ?_
  · intro args s m h hn
    obtain ⟨meth, c, h1, h2, h3, h4, h5, h6, -, -⟩ := Cond.code_spec hn (atoms_spec (ws := ws) h _ (by rw [hw]; exact List.mem_cons_self))
    exact ⟨meth, c, h1, h2, h3, h4, h5, h6⟩
  · intro p e s m args below meth c s₁ B hml hP _
    have hh0 : s₁.heap = s.heap := by rw [B.state]; rfl
    have ht : ∀ x ∈ c.exceptionTable.toList, False := by
      obtain ⟨meth9, c9, h1, h2, -, -, -, -, h7, -⟩ := Cond.code_spec B.named (atoms_spec (ws := ws) B.pre _ (by rw [hw]; exact List.mem_cons_self))
      cases Option.some.inj (h1.symm.trans B.method)
      cases Option.some.inj (h2.symm.trans (Stand.of_body B).code)
      intro x hx
      rw [Array.isEmpty_iff.mp h7] at hx
      cases hx
    obtain ⟨t, a1, o, b1, b2, b3⟩ := body p e s m args below meth c s₁ B hml ht hP s₁ hh0 (Stand.of_body B)
    exact ⟨t, o, a1, b1, b2, b3⟩
/-- the table of a body with handlers -/
theorem vx_table {p : Program} {x y : MethodName} {S : Spec} {cc bytes : ByteArray} {maxL maxL' : Nat} {ret ret' : Option FieldType} {e : Env} {s s₁ : State} {m : MethodId} {args : Array Value} {below : List Frame} {meth : Method} {c : Code} {hh : List (Nat × Nat × Nat × Nat)}
    (B : BodyLoose p l y S cc maxL ret e s m args below meth c s₁) (h : (Cond.codeWith y bytes maxL' ret' hh).before args s = true) : c.exceptionTable.toList = tableOf hh := by
  obtain ⟨m9, meth9, c9, hn9, h1, h2, -, -, h6, -⟩ := Cond.codeWith_spec h
  cases Option.some.inj (hn9.symm.trans B.named)
  cases Option.some.inj (h1.symm.trans B.method)
  cases Option.some.inj (h2.symm.trans (Stand.of_body B).code)
  rw [← h6, table_eq]
end Bodies
end VXA
/-! ===== END ===== -/
/-! ===== BEGIN a static call of a method with an exception table ===== -/
section VXS
variable {p : Program} {l : Launch} {e : Env} {R : Room} {s : State} {m : MethodId} {args : Array Value} {below : List Frame} {meth : Method} {c : Code} {T : State} {H : Heap} {locs : List Loc} {cells slots : Nat}
abbrev vx_CSW (R : Room) (s : State) (args : Array Value) (own : String) (index : Nat) (y : MethodName) (bytes : ByteArray) (maxL : Nat) (ret : Option FieldType) (hh : List (Nat × Nat × Nat × Nat)) (ws : List Cond) (rm : Room) (mc ms n : Nat) : Prop :=
  (rm.cells = mc ∧ rm.slots = ms ∧ rm.frames + 1 ≤ R.frames ∧ 8 + (maxL + 11) + rm.locals ≤ R.locals ∧ (∀ w ∈ ws, ∀ (a' : Array Value) (U : State), s.WarmedH U.vm → w.before a' U = true) ∧ Cond.codeWith y bytes maxL ret hh ∈ ws) ∧
  (Cond.codeWith y bytes maxL ret hh).before args s = true ∧ (Cond.initialized y.cls).before args s = true ∧ (y.cls ≠ "java/lang/invoke/MethodHandle" ∧ y.cls ≠ "java/lang/invoke/VarHandle") ∧
  (∀ sig, parseMethodDescriptor y.desc = some sig → n = sig.parameters.length) ∧ (Cond.methodLink own index y).before args s = true ∧ (Cond.static y).before args s = true
theorem vx_cwSW {own : String} {index maxL mc ms : Nat} {y : MethodName} {bytes : ByteArray} {ret : Option FieldType} {hh : List (Nat × Nat × Nat × Nat)} {Ts ws ws' : List Cond} {rm : Room} (n : Nat) (ht : ∀ w ∈ Ts, w.before args s = true) (hT : GoodIn Ts (va_wsS own index y ws)) (hw : ws = Cond.codeWith y bytes maxL ret hh :: ws') (hrc : rm.cells = mc) (hrs : rm.slots = ms)
    (hd : y.cls ≠ "java/lang/invoke/MethodHandle" ∧ y.cls ≠ "java/lang/invoke/VarHandle" ∧ (parseMethodDescriptor y.desc).map (fun d => d.parameters.length) = some n) (hR : rm.frames + 1 ≤ R.frames ∧ 8 + (maxL + 11) + rm.locals ≤ R.locals) :
    vx_CSW R s args own index y bytes maxL ret hh ws rm mc ms n := by
  have ok : ∀ w ∈ va_wsS own index y ws, w.before args s = true := fun w h => ht w (hT w h).1
  have hG : GoodIn Ts ws := fun w h => hT w (by unfold va_wsS; exact List.mem_append_right _ h)
  have hc : Cond.codeWith y bytes maxL ret hh ∈ ws := by rw [hw]; exact List.mem_cons_self
  refine ⟨⟨hrc, hrs, hR.1, hR.2, pay_in ht hG, hc⟩, ht _ (hG _ hc).1, ok _ (by simp [va_wsS]), ⟨hd.1, hd.2.1⟩, fun sig h => ?_, ok _ (by simp [va_wsS]), ok _ (by simp [va_wsS])⟩
  have h2 := hd.2.2
  rw [h] at h2
  exact (Option.some.inj h2).symm
theorem vx_callSW (X : Stand p l e R s m args below meth c T locs cells slots) (hexec : p.tables.exec = Jvm.exec) {own : String} {index : Nat} {y : MethodName} {bytes : ByteArray} {maxL : Nat} {ret : Option FieldType} {hh : List (Nat × Nat × Nat × Nat)}
    (hown : s.vm.findClass own = some m.cls) (hlink : (Cond.methodLink own index y).before args s = true) (hstat : (Cond.static y).before args s = true) (hinit : (Cond.initialized y.cls).before args s = true)
    (hcode : (Cond.codeWith y bytes maxL ret hh).before args s = true) (hy : y.cls ≠ "java/lang/invoke/MethodHandle" ∧ y.cls ≠ "java/lang/invoke/VarHandle")
    {W9 : Nat} {Pre : Pt → Array Value → Prop} {Post : Pt → Array Value → Option Value → Pt → Prop} (hK : Back l R p e below s args y 3 W9 Pre Post)
    {g : JFrame} (hg : g.method = m) (hsize : g.locals.size = c.maxLocals) {argsL rest : List Value} (hlen : ∀ sig, parseMethodDescriptor y.desc = some sig → argsL.length = sig.parameters.length)
    (hstack : g.stack = argsL.reverse ++ rest) (hW : 2 * g.monitorRoom + (rest.map fun v => v.category).sum ≤ W9) (hdg : decode c.code g.pc = .ok (.invokestatic index, 3))
    (hpre : ∀ vm₁, s.WarmedH vm₁ → Pre ⟨T.setVm vm₁, locs, cells, slots⟩ argsL.toArray) :
    ∃ (v : Option Value) (vm₁ : Vm) (B : Pt), s.WarmedH vm₁ ∧ Stand p l e R s m args below meth c B.U B.locs B.cells B.slots ∧ Post ⟨T.setVm vm₁, locs, cells, slots⟩ argsL.toArray v B ∧
      ∀ target, Steps p.tables e below (B.U.setTop { g with pc := g.pc + 3, stack := v.toList ++ rest }) target → Steps p.tables e below (T.setTop g) target := by
  obtain ⟨mk, methM, cM, hnamed, hmethM, -, -, -, -, -, -, hsigM⟩ := Cond.codeWith_spec hcode
  have hstatic : methM.isStatic = true := Cond.static_spec hnamed hmethM hstat
  obtain ⟨kP, hkP, -⟩ := className_of_methodNamed hnamed
  have hinitP : kP.init = .initialized := Cond.initialized_spec (findClass_of_methodNamed hnamed) hkP hinit
  obtain ⟨vm₁, X₁, hstep₁⟩ := X.invokestatic hexec hown hlink hnamed hmethM hstatic hkP hinitP hy (g := g) hg (argsL := argsL) (rest := rest) (hlen _ hsigM) hstack hdg
  obtain ⟨v, B, X', hpost, hsteps⟩ := hK m meth c ⟨T.setVm vm₁, locs, cells, slots⟩ { g with stack := rest } (.invokestatic index) mk argsL.toArray X₁ hg hsize hdg hW (X₁.named hnamed) (hpre vm₁ X₁.warmed)
  exact ⟨v, vm₁, B, X₁.warmed, X', hpost, fun target h => hstep₁ _ fun acts => by rw [doInvoke_state]; exact hsteps.trans h⟩
theorem vx_runSW {y : MethodName} {bytes cc : ByteArray} {maxL nL mc ms n index : Nat} {ret : Option FieldType} {hh : List (Nat × Nat × Nat × Nat)} {ws : List Cond} {rm : Room} {Pc : Array Value → State → Prop} {Qc : Array Value → State → Outcome → State → Prop} {free : Addr → Prop} {Ts : List Cond} {own : String} {As rest : List Value} {g : JFrame}
    (S : CallFix p m c cc nL s args Ts own) (hM : Met l y ws rm Pc Qc mc ms free) (cw : vx_CSW R s args own index y bytes maxL ret hh ws rm mc ms n) (hp : PreS s H Pc As)
    (hg : g.method = m) (hn : As.length = n) (hsize : g.locals.size = nL) (hstack : g.stack = As.reverse ++ rest) (hW : 2 * g.monitorRoom + (rest.map fun v => v.category).sum ≤ 8) (hdg : decode cc g.pc = .ok (.invokestatic index, 3)) (hf : cells + mc ≤ R.cells ∧ slots + ms ≤ R.slots) :
    va_Run p l e R s m args below meth c H locs cells slots mc ms g rest (Qc As.toArray) (free) := by
  obtain ⟨⟨hrc, hrs, hfr, hlo, hws, hcw⟩, hcode, hini, hy, hlen, hl, hstt⟩ := cw
  have hK : Back l R p e below s args y 3 8 (PreOf R mc ms Pc) (PostOf Qc mc ms free) := va_backW (hh := hh) (bytes := bytes) (maxL := maxL) (ret := ret) hM hp.1 hrc hrs hfr hlo hws hcw (fun a' U hW => word_at hW (Or.inl (by first | rfl | simp [Cond.onTables, Cond.keeps, Cond.steady])) hini)
  obtain ⟨hx, hb, hml, ho, -⟩ := S
  intro T hT X
  obtain ⟨v, vm₁, ⟨U', l2, c2, s2⟩, hW₁, X', ⟨g', mk, t, L, e1, e2, hq, h1, hL, h2, h3⟩, st⟩ := vx_callSW X hx (hh := hh) (bytes := bytes) (maxL := maxL) (ret := ret) ho hl hstt hini hcode hy hK hg (hsize.trans hml.symm) (argsL := As) (rest := rest) (fun sig h => hn.trans (hlen sig h)) hstack hW (by rw [hb]; exact hdg)
    (fun vm₁ hW₁ => ⟨hf.1, hf.2, hp.2 (T.setVm vm₁) hT hW₁⟩)
  dsimp only [Pt.U, Pt.locs, Pt.cells, Pt.slots] at X' e1 e2 h1 h2 h3 st
  subst h1; subst h2; subst h3
  exact ⟨v, (T.setVm vm₁).calling g' mk As.toArray, t, U', L, hT, X', hL, e1, e2, hq, st⟩
/-- not caught here, past rows that name other classes: it goes on to the caller -/
theorem vx_outP {p : Program} {l : Launch} {e : Env} {R : Room} {s : State} {m : MethodId} {args : Array Value} {below : List Frame} {meth : Method} {c : Code} {H : Heap} {locs : List Loc} {cells slots : Nat} {free : Addr → Prop} {ls : Array Slot} {rest : List Value} {Qc : Array Value → State → Outcome → State → Prop} {XC : String → State → State → Prop}
    {pc : Nat} {own E : String} {ce : Cell} {q : Addr} {mc ms : Nat} (hown : s.vm.findClass own = some m.cls) (hlocks : meth.locks = false)
    (hpass : ∀ z ∈ c.exceptionTable.toList, covers z pc = false ∨ (z.catchType ≠ 0 ∧ ∃ nm : String, (Cond.classLink own z.catchType nm).before args s = true ∧ va_Nc E nm s)) (hcell : H[q]? = some ce) (hv : ce.vm = .none) (hcl : s.vm.findClass E = some ce.cls)
    (hx : ∀ t : State, t.heap = H → s.vm.Alike t.vm → XC E s t) (hf : ∀ z ∈ locs, free z.base) (hc : cells ≤ mc) (hs : slots ≤ ms) :
    vx_W p l e R s m args below meth c H locs cells slots (vx_MQ below Qc XC args s mc ms free) (F0 m pc ls rest) q := by
  intro T hT X
  have hpl : e.platform.magicAccessors = ({} : Platform).magicAccessors := by rw [X.admits.platform]
  obtain ⟨vm', hW', X', st⟩ := X.outThrough hlocks q (g := F0 m pc ls rest) rfl rfl rfl (cell := ce) (by rw [hT]; exact hcell) (by rw [hv]; rfl)
    (by obtain ⟨k9, h9, -⟩ := Vm.findClass_spec hcl; exact ⟨k9, h9⟩) (fun z hz => by
      rcases hpass z hz with h | ⟨hz0, nm, hl1, hn1⟩
      · exact Or.inl h
      · obtain ⟨c6, hc6, hcl6⟩ := Cond.classLink_spec hown hl1 e.platform hpl
        obtain ⟨a8, b8, h1, h2, h3⟩ := hn1
        cases Option.some.inj (h1.symm.trans hcl)
        cases Option.some.inj (h2.symm.trans hc6)
        exact Or.inr ⟨hz0, _, hcl6, h3⟩)
  obtain ⟨g₀, hfr⟩ := X'.frames_eq
  have hcell9 : ((T.setVm vm').setFrames (.throwing q :: below)).heap[q]? = some ce := by
    show T.heap[q]? = some ce
    rw [hT]; exact hcell
  have hend : Ended ((T.setVm vm').setFrames (.throwing q :: below)) below (.threw q) := State.frames_setFrames _ (State.cur_lt_of_frames hfr)
  refine ⟨(T.setVm vm').setFrames (.throwing q :: below), ?_, .threw q, X'.here.running, hend, Or.inr ⟨q, rfl, E, ce, locs, hx _ hT (X'.ends _).1.alike, hcell9, hv, hcl, (X'.ends _).1, (X'.ends _).2.mono hc hs, hf⟩⟩
  rw [X.pushThrowing_eq]
  exact st
/-- a thing of a world lies in the heap -/
theorem vx_lt {D : va_G} {cl : List vw_C} {ws : va_W} {H1 : Heap} (h : va_P D cl ws H1) {k : Nat} {q : Nat × va_E} (hk : ws[k]? = some q) : q.1 < H1.size := (h k q hk).lt
end VXS
/-! ===== END ===== -/
/-! ===== BEGIN methods with a table of their own: called by a name, returning or throwing ===== -/
section VXH
/-! vx_backW, vx_callVX, vx_callSX, vx_callVW, vx_runVW, vx_runVX, vx_runSX, vx_ofWH follow the same proofs as their sisters above (Free/Laws.lean, Shelf42/LK1.lean); vx_outP calls Shelf42/NT130.lean (outThrough). -/
section
variable {l : Launch} {R : Room} {p : Program} {e : Env} {below : List Frame} {s : State} {sargs : Array Value} {y : MethodName} {len W9 : Nat}
theorem vx_backW {ws : List Cond} {rm : Room} {Pc : Array Value → State → Prop} {Qc : Array Value → State → Outcome → State → Prop} {XC : String → State → State → Prop} {mc ms : Nat} {free : Addr → Prop} {bytes : ByteArray} {maxL : Nat} {ret : Option FieldType} {hh : List (Nat × Nat × Nat × Nat)}
    (hM : vx_Met l y ws rm Pc Qc XC mc ms free) (hblind : FrameBlind Pc) (hrc : rm.cells = mc) (hrs : rm.slots = ms)
    (hframes : rm.frames + 1 ≤ R.frames) (hlocals : W9 + (maxL + 11) + rm.locals ≤ R.locals)
    (hws : ∀ w ∈ ws, ∀ a' U, s.WarmedH U.vm → w.before a' U = true) (hcode : Cond.codeWith y bytes maxL ret hh ∈ ws) (hinit : ∀ a' U, s.WarmedH U.vm → (Cond.initialized y.cls).before a' U = true) :
    vx_Back l R p e below s sargs y len W9 (PreOf R mc ms Pc) (PostOf Qc mc ms free) (vx_Post XC mc ms free) := by
  intro m meth c A g ig mk a X hg hsize hdg hW hn hp
  have h1 : (headSpec ws rm).pre.before a A.U = true := atoms_intro fun w hw => hws w hw _ _ X.warmed
  have h2 : (Cond.codeWith y bytes maxL ret hh).before a A.U = true := hws _ hcode _ _ X.warmed
  have h3 : (Cond.initialized y.cls).before a A.U = true := hinit _ _ X.warmed
  have h4 : A.cells + (headSpec ws rm).room.cells ≤ R.cells := by rw [show (headSpec ws rm).room.cells = mc from hrc]; exact hp.1
  have h5 : A.slots + (headSpec ws rm).room.slots ≤ R.slots := by rw [show (headSpec ws rm).room.slots = ms from hrs]; exact hp.2.1
  have hPc : Pc a (A.U.calling g mk a) := hblind _ _ _ _ hp.2.2
  obtain ⟨U, Ls, c0, s0⟩ := A
  dsimp only [Pt.U, Pt.locs, Pt.cells, Pt.slots] at h1 h2 h3 h4 h5 X hn hPc ⊢
  obtain ⟨m9, methY, cY, hn9, hmY, hcY, -, hlY, -⟩ := Cond.codeWith_spec h2
  cases Option.some.inj (hn9.symm.trans hn)
  obtain ⟨kY, hkY, -⟩ := className_of_methodNamed hn
  have hinitY : kY.init = .initialized := Cond.initialized_spec (findClass_of_methodNamed hn) hkY h3
  have h : At U g.method c below := by rw [hg]; exact X.here
  have hlocals9 : W9 + (maxL + 11) + (headSpec ws rm).room.locals ≤ R.locals := hlocals
  have happ : (headSpec ws rm).appliesLoose y e.platform (U.calling g mk a) = true :=
    Spec.appliesLoose_calling (g := g) h hdg hn hkY hinitY
      (X.room_calling (g := g) (R' := (headSpec ws rm).room) hsize hmY hcY hframes (by rw [hlY]; omega) h4 h5) h1
  obtain ⟨mid, hmid⟩ := h.above
  have hfr : (U.setTop g).frames = (.java g :: mid) ++ below := by rw [State.frames_setTop' g h.top, hmid]; rfl
  obtain ⟨o, s₂, hsteps, -, hend, hq⟩ := Steps.callFree hM p X.admits X.cas X.clock (acts := []) hfr happ hPc trivial
  have hq' : vx_Q Qc XC mc ms free a (U.calling g mk a) o s₂ := hq
  rw [State.frames_setTop' g h.top] at hend
  obtain ⟨g₀, hg0⟩ := Option.isSome_iff_exists.mp h.top
  obtain ⟨r, hr⟩ := State.topJava?_eq_some.mp hg0
  have hr' : (({ U with heap := s₂.heap, slotsUsed := s₂.slotsUsed } : State).setVm s₂.vm).frames = .java g₀ :: r := hr
  rcases hq' with ⟨hqc, L, hfe, hL⟩ | ⟨q, rfl, E, ce, L, hx, hce, hcv, hcl, hW₂, hsm, hL⟩
  · obtain ⟨⟨v, rfl⟩, hW₂, e2, q2, q3, q4, q5, q6⟩ := id hfe
    have e3 : s₂ = ({ (U.calling g mk a).setFrames s₂.frames with heap := s₂.heap, slotsUsed := s₂.slotsUsed } : State).setVm s₂.vm := by
      have : s₂ = ({ s₂ with vm := (U.calling g mk a).vm } : State).setVm s₂.vm := rfl
      rw [e2] at this
      exact this
    obtain ⟨c₂, i₂, len₂, hc₂, hd₂, hf₂⟩ := hend
    have hW' : U.WarmedH s₂.vm := hW₂
    have hcc : c₂ = c := by
      have h1 : s₂.code? g.method = U.code? g.method := by
        rw [State.code?_eq, State.code?_eq, hW'.alike.method?]
      exact Option.some.inj (hc₂.symm.trans (h1.trans h.code))
    subst hcc
    have hlen : len₂ = len := by rw [hdg] at hd₂; cases hd₂; rfl
    subst hlen
    have hs₂ : s₂ = (({ U with heap := s₂.heap, slotsUsed := s₂.slotsUsed } : State).setVm s₂.vm).setTop { g with pc := g.pc + len₂, stack := v.toList ++ g.stack } := by
      refine e3.trans ?_
      rw [hf₂, State.calling_eq h.top, State.setFrames_setFrames, State.setTop_of_frames _ hr', hr]
      rfl
    have hsame : U.sameButNew ({ U with heap := s₂.heap, slotsUsed := s₂.slotsUsed } : State) L mc ms := by
      refine ⟨?_, q2, q3, q4, q5, q6⟩
      obtain ⟨t, ht, -⟩ := State.frames_cons hr
      show ({ U with heap := s₂.heap, slotsUsed := s₂.slotsUsed } : State) = { U.setFrames U.frames with heap := s₂.heap, slotsUsed := s₂.slotsUsed }
      rw [State.setFrames_self ht]
    subst hg
    refine Or.inl ⟨v, ⟨(({ U with heap := s₂.heap, slotsUsed := s₂.slotsUsed } : State).setVm s₂.vm), Ls ++ L, c0 + mc, s0 + ms⟩,
      ⟨X.admits, X.cas, X.clock, X.frames, X.room, X.hears, X.method, X.code, (X.here.setHeapUsed s₂.heap s₂.slotsUsed).setVm hW'.alike, X.tail, State.WarmedH.trans X.warmed hW', X.limits, X.bytes, X.same.trans (hsame.setVm s.vm)⟩,
      ⟨g, mk, s₂, L, rfl, rfl, hqc, rfl, hL, rfl, rfl⟩, ?_⟩
    show Steps p.tables e below _ ((({ U with heap := s₂.heap, slotsUsed := s₂.slotsUsed } : State).setVm s₂.vm).setTop { g with pc := g.pc + len₂, stack := v.toList ++ g.stack })
    rw [← hs₂]
    exact hsteps
  · obtain ⟨e2, q2, q3, q4, q5, q6⟩ := id hsm
    have e3 : s₂ = ({ (U.calling g mk a).setFrames s₂.frames with heap := s₂.heap, slotsUsed := s₂.slotsUsed } : State).setVm s₂.vm := by
      have : s₂ = ({ s₂ with vm := (U.calling g mk a).vm } : State).setVm s₂.vm := rfl
      rw [e2] at this
      exact this
    have hf₂ : s₂.frames = .throwing q :: .java g :: U.frames.tail := hend
    have hW' : U.WarmedH s₂.vm := hW₂
    have hs₂ : s₂ = ((({ U with heap := s₂.heap, slotsUsed := s₂.slotsUsed } : State).setVm s₂.vm).setTop g).pushFrame (.throwing q) := by
      refine e3.trans ?_
      rw [hf₂, State.calling_eq h.top, State.setFrames_setFrames, State.pushFrame, State.frames_setTop _ hr', State.setTop_of_frames _ hr', State.setFrames_setFrames, hr]
      rfl
    have hsame : U.sameButNew ({ U with heap := s₂.heap, slotsUsed := s₂.slotsUsed } : State) L mc ms := by
      refine ⟨?_, q2, q3, q4, q5, q6⟩
      obtain ⟨t, ht, -⟩ := State.frames_cons hr
      show ({ U with heap := s₂.heap, slotsUsed := s₂.slotsUsed } : State) = { U.setFrames U.frames with heap := s₂.heap, slotsUsed := s₂.slotsUsed }
      rw [State.setFrames_self ht]
    subst hg
    refine Or.inr ⟨q, ⟨(({ U with heap := s₂.heap, slotsUsed := s₂.slotsUsed } : State).setVm s₂.vm), Ls ++ L, c0 + mc, s0 + ms⟩,
      ⟨X.admits, X.cas, X.clock, X.frames, X.room, X.hears, X.method, X.code, (X.here.setHeapUsed s₂.heap s₂.slotsUsed).setVm hW'.alike, X.tail, State.WarmedH.trans X.warmed hW', X.limits, X.bytes, X.same.trans (hsame.setVm s.vm)⟩,
      ⟨g, mk, s₂, L, E, ce, rfl, rfl, hx, hce, hcv, hcl, rfl, hL, rfl, rfl⟩, ?_⟩
    show Steps p.tables e below _ (((({ U with heap := s₂.heap, slotsUsed := s₂.slotsUsed } : State).setVm s₂.vm).setTop g).pushFrame (.throwing q))
    rw [← hs₂]
    exact hsteps
end
variable {p : Program} {l : Launch} {e : Env} {R : Room} {s : State} {m : MethodId} {args : Array Value} {below : List Frame} {meth : Method} {c : Code} {T : State} {H : Heap} {locs : List Loc} {cells slots : Nat}
theorem vx_callVX (X : Stand p l e R s m args below meth c T locs cells slots) (hexec : p.tables.exec = Jvm.exec) {own C : String} {index : Nat} {y : MethodName} {bytes : ByteArray} {maxL : Nat} {ret : Option FieldType} {hh : List (Nat × Nat × Nat × Nat)}
    (hown : s.vm.findClass own = some m.cls) (hlink : (Cond.methodLink own index y).before args s = true) (hinst : (Cond.instanceMethod y).before args s = true) (hsel : (Cond.selects C y y).before args s = true)
    (hcode : (Cond.codeWith y bytes maxL ret hh).before args s = true) (hy : y.cls ≠ "java/lang/invoke/MethodHandle" ∧ y.cls ≠ "java/lang/invoke/VarHandle")
    {W9 : Nat} {Pre : Pt → Array Value → Prop} {Post : Pt → Array Value → Option Value → Pt → Prop} {PostX : Pt → Array Value → Addr → Pt → Prop} (hK : vx_Back l R p e below s args y 3 W9 Pre Post PostX)
    {b : Addr} {cellB : Cell} (hcell : T.heap[b]? = some cellB) (hobj : cellB.vm.isStatics = false) (hcls : s.vm.findClass C = some cellB.cls)
    {g : JFrame} (hg : g.method = m) (hsize : g.locals.size = c.maxLocals) {argsL rest : List Value} (hlen : ∀ sig, parseMethodDescriptor y.desc = some sig → argsL.length = sig.parameters.length)
    (hstack : g.stack = argsL.reverse ++ .ref b :: rest) (hW : 2 * g.monitorRoom + (rest.map fun v => v.category).sum ≤ W9) (hdg : decode c.code g.pc = .ok (.invokevirtual index, 3))
    (hpre : ∀ vm₁, s.WarmedH vm₁ → Pre ⟨T.setVm vm₁, locs, cells, slots⟩ (Value.ref b :: argsL).toArray) :
    (∃ (v : Option Value) (vm₁ : Vm) (B : Pt), s.WarmedH vm₁ ∧ Stand p l e R s m args below meth c B.U B.locs B.cells B.slots ∧ Post ⟨T.setVm vm₁, locs, cells, slots⟩ (Value.ref b :: argsL).toArray v B ∧
      ∀ target, Steps p.tables e below (B.U.setTop { g with pc := g.pc + 3, stack := v.toList ++ rest }) target → Steps p.tables e below (T.setTop g) target) ∨
    (∃ (q : Addr) (vm₁ : Vm) (B : Pt), s.WarmedH vm₁ ∧ Stand p l e R s m args below meth c B.U B.locs B.cells B.slots ∧ PostX ⟨T.setVm vm₁, locs, cells, slots⟩ (Value.ref b :: argsL).toArray q B ∧
      Steps p.tables e below (T.setTop g) ((B.U.setTop { g with stack := rest }).pushFrame (.throwing q))) := by
  obtain ⟨mk, methM, hnamed, hmethM, hstM, habM⟩ := Cond.instanceMethod_spec hinst
  obtain ⟨m8, methM', cM, hn8, hmethM', -, -, -, -, -, -, hsigM⟩ := Cond.codeWith_spec hcode
  cases Option.some.inj (hn8.symm.trans hnamed)
  cases hmethM.symm.trans hmethM'
  obtain ⟨c2, r2, m2, q1, q2, q3, q4, kP, hkP, hkPi⟩ := Cond.selects_spec hsel
  cases hcls.symm.trans q1
  cases (State.methodFound?_of_named hnamed hy).symm.trans q2
  cases hnamed.symm.trans q3
  have hselP : selectMethod e.platform s.vm cellB.cls mk = .method mk := by rw [Launch.admits_selectMethod X.admits]; exact q4
  obtain ⟨vm₁, X₁, hstep₁⟩ := X.invokevirtual hexec hown hlink hnamed hmethM hstM hkP hkPi hy (a := b) (cell := cellB) hcell
    (fun z h => by rw [h] at hobj; cases hobj) hselP hmethM habM hkP hkPi (g := g) hg (argsL := argsL) (rest := rest) (hlen _ hsigM) hstack hdg
  rcases hK m meth c ⟨T.setVm vm₁, locs, cells, slots⟩ { g with stack := rest } (.invokevirtual index) mk (Value.ref b :: argsL).toArray X₁ hg hsize hdg hW (X₁.named hnamed) (hpre vm₁ X₁.warmed) with ⟨v, B, X', hpost, hsteps⟩ | ⟨q, B, X', hpost, hsteps⟩
  · exact Or.inl ⟨v, vm₁, B, X₁.warmed, X', hpost, fun target h => hstep₁ _ fun acts => by rw [doInvoke_state]; exact hsteps.trans h⟩
  · exact Or.inr ⟨q, vm₁, B, X₁.warmed, X', hpost, hstep₁ _ fun acts => by rw [doInvoke_state]; exact hsteps⟩
theorem vx_callSX (X : Stand p l e R s m args below meth c T locs cells slots) (hexec : p.tables.exec = Jvm.exec) {own : String} {index : Nat} {y : MethodName} {bytes : ByteArray} {maxL : Nat} {ret : Option FieldType} {hh : List (Nat × Nat × Nat × Nat)}
    (hown : s.vm.findClass own = some m.cls) (hlink : (Cond.methodLink own index y).before args s = true) (hstat : (Cond.static y).before args s = true) (hinit : (Cond.initialized y.cls).before args s = true)
    (hcode : (Cond.codeWith y bytes maxL ret hh).before args s = true) (hy : y.cls ≠ "java/lang/invoke/MethodHandle" ∧ y.cls ≠ "java/lang/invoke/VarHandle")
    {W9 : Nat} {Pre : Pt → Array Value → Prop} {Post : Pt → Array Value → Option Value → Pt → Prop} {PostX : Pt → Array Value → Addr → Pt → Prop} (hK : vx_Back l R p e below s args y 3 W9 Pre Post PostX)
    {g : JFrame} (hg : g.method = m) (hsize : g.locals.size = c.maxLocals) {argsL rest : List Value} (hlen : ∀ sig, parseMethodDescriptor y.desc = some sig → argsL.length = sig.parameters.length)
    (hstack : g.stack = argsL.reverse ++ rest) (hW : 2 * g.monitorRoom + (rest.map fun v => v.category).sum ≤ W9) (hdg : decode c.code g.pc = .ok (.invokestatic index, 3))
    (hpre : ∀ vm₁, s.WarmedH vm₁ → Pre ⟨T.setVm vm₁, locs, cells, slots⟩ argsL.toArray) :
    (∃ (v : Option Value) (vm₁ : Vm) (B : Pt), s.WarmedH vm₁ ∧ Stand p l e R s m args below meth c B.U B.locs B.cells B.slots ∧ Post ⟨T.setVm vm₁, locs, cells, slots⟩ argsL.toArray v B ∧
      ∀ target, Steps p.tables e below (B.U.setTop { g with pc := g.pc + 3, stack := v.toList ++ rest }) target → Steps p.tables e below (T.setTop g) target) ∨
    (∃ (q : Addr) (vm₁ : Vm) (B : Pt), s.WarmedH vm₁ ∧ Stand p l e R s m args below meth c B.U B.locs B.cells B.slots ∧ PostX ⟨T.setVm vm₁, locs, cells, slots⟩ argsL.toArray q B ∧
      Steps p.tables e below (T.setTop g) ((B.U.setTop { g with stack := rest }).pushFrame (.throwing q))) := by
  obtain ⟨mk, methM, cM, hnamed, hmethM, -, -, -, -, -, -, hsigM⟩ := Cond.codeWith_spec hcode
  have hstatic : methM.isStatic = true := Cond.static_spec hnamed hmethM hstat
  obtain ⟨kP, hkP, -⟩ := className_of_methodNamed hnamed
  have hinitP : kP.init = .initialized := Cond.initialized_spec (findClass_of_methodNamed hnamed) hkP hinit
  obtain ⟨vm₁, X₁, hstep₁⟩ := X.invokestatic hexec hown hlink hnamed hmethM hstatic hkP hinitP hy (g := g) hg (argsL := argsL) (rest := rest) (hlen _ hsigM) hstack hdg
  rcases hK m meth c ⟨T.setVm vm₁, locs, cells, slots⟩ { g with stack := rest } (.invokestatic index) mk argsL.toArray X₁ hg hsize hdg hW (X₁.named hnamed) (hpre vm₁ X₁.warmed) with ⟨v, B, X', hpost, hsteps⟩ | ⟨q, B, X', hpost, hsteps⟩
  · exact Or.inl ⟨v, vm₁, B, X₁.warmed, X', hpost, fun target h => hstep₁ _ fun acts => by rw [doInvoke_state]; exact hsteps.trans h⟩
  · exact Or.inr ⟨q, vm₁, B, X₁.warmed, X', hpost, hstep₁ _ fun acts => by rw [doInvoke_state]; exact hsteps⟩
theorem vx_callVW (X : Stand p l e R s m args below meth c T locs cells slots) (hexec : p.tables.exec = Jvm.exec) {own C : String} {index : Nat} {y : MethodName} {bytes : ByteArray} {maxL : Nat} {ret : Option FieldType} {hh : List (Nat × Nat × Nat × Nat)}
    (hown : s.vm.findClass own = some m.cls) (hlink : (Cond.methodLink own index y).before args s = true) (hinst : (Cond.instanceMethod y).before args s = true) (hsel : (Cond.selects C y y).before args s = true)
    (hcode : (Cond.codeWith y bytes maxL ret hh).before args s = true) (hy : y.cls ≠ "java/lang/invoke/MethodHandle" ∧ y.cls ≠ "java/lang/invoke/VarHandle")
    {W9 : Nat} {Pre : Pt → Array Value → Prop} {Post : Pt → Array Value → Option Value → Pt → Prop} (hK : Back l R p e below s args y 3 W9 Pre Post)
    {b : Addr} {cellB : Cell} (hcell : T.heap[b]? = some cellB) (hobj : cellB.vm.isStatics = false) (hcls : s.vm.findClass C = some cellB.cls)
    {g : JFrame} (hg : g.method = m) (hsize : g.locals.size = c.maxLocals) {argsL rest : List Value} (hlen : ∀ sig, parseMethodDescriptor y.desc = some sig → argsL.length = sig.parameters.length)
    (hstack : g.stack = argsL.reverse ++ .ref b :: rest) (hW : 2 * g.monitorRoom + (rest.map fun v => v.category).sum ≤ W9) (hdg : decode c.code g.pc = .ok (.invokevirtual index, 3))
    (hpre : ∀ vm₁, s.WarmedH vm₁ → Pre ⟨T.setVm vm₁, locs, cells, slots⟩ (Value.ref b :: argsL).toArray) :
    ∃ (v : Option Value) (vm₁ : Vm) (B : Pt), s.WarmedH vm₁ ∧ Stand p l e R s m args below meth c B.U B.locs B.cells B.slots ∧ Post ⟨T.setVm vm₁, locs, cells, slots⟩ (Value.ref b :: argsL).toArray v B ∧
      ∀ target, Steps p.tables e below (B.U.setTop { g with pc := g.pc + 3, stack := v.toList ++ rest }) target → Steps p.tables e below (T.setTop g) target := by
  obtain ⟨mk, methM, hnamed, hmethM, hstM, habM⟩ := Cond.instanceMethod_spec hinst
  obtain ⟨m8, methM', cM, hn8, hmethM', -, -, -, -, -, -, hsigM⟩ := Cond.codeWith_spec hcode
  cases Option.some.inj (hn8.symm.trans hnamed)
  cases hmethM.symm.trans hmethM'
  obtain ⟨c2, r2, m2, q1, q2, q3, q4, kP, hkP, hkPi⟩ := Cond.selects_spec hsel
  cases hcls.symm.trans q1
  cases (State.methodFound?_of_named hnamed hy).symm.trans q2
  cases hnamed.symm.trans q3
  have hselP : selectMethod e.platform s.vm cellB.cls mk = .method mk := by rw [Launch.admits_selectMethod X.admits]; exact q4
  obtain ⟨vm₁, X₁, hstep₁⟩ := X.invokevirtual hexec hown hlink hnamed hmethM hstM hkP hkPi hy (a := b) (cell := cellB) hcell
    (fun z h => by rw [h] at hobj; cases hobj) hselP hmethM habM hkP hkPi (g := g) hg (argsL := argsL) (rest := rest) (hlen _ hsigM) hstack hdg
  obtain ⟨v, B, X', hpost, hsteps⟩ := hK m meth c ⟨T.setVm vm₁, locs, cells, slots⟩ { g with stack := rest } (.invokevirtual index) mk (Value.ref b :: argsL).toArray X₁ hg hsize hdg hW (X₁.named hnamed) (hpre vm₁ X₁.warmed)
  exact ⟨v, vm₁, B, X₁.warmed, X', hpost, fun target h => hstep₁ _ fun acts => by rw [doInvoke_state]; exact hsteps.trans h⟩
abbrev vx_CVW (R : Room) (s : State) (args : Array Value) (own C : String) (index : Nat) (y : MethodName) (bytes : ByteArray) (maxL : Nat) (ret : Option FieldType) (hh : List (Nat × Nat × Nat × Nat)) (ws : List Cond) (rm : Room) (mc ms n : Nat) : Prop :=
  (rm.cells = mc ∧ rm.slots = ms ∧ rm.frames + 1 ≤ R.frames ∧ 8 + (maxL + 11) + rm.locals ≤ R.locals ∧ (∀ w ∈ ws, ∀ (a' : Array Value) (U : State), s.WarmedH U.vm → w.before a' U = true) ∧ Cond.codeWith y bytes maxL ret hh ∈ ws) ∧
  (Cond.codeWith y bytes maxL ret hh).before args s = true ∧ (Cond.initialized y.cls).before args s = true ∧ (y.cls ≠ "java/lang/invoke/MethodHandle" ∧ y.cls ≠ "java/lang/invoke/VarHandle") ∧
  (∀ sig, parseMethodDescriptor y.desc = some sig → n = sig.parameters.length) ∧ (Cond.methodLink own index y).before args s = true ∧ (Cond.instanceMethod y).before args s = true ∧ (Cond.selects C y y).before args s = true
theorem vx_cwVW {own C : String} {index maxL mc ms : Nat} {y : MethodName} {bytes : ByteArray} {ret : Option FieldType} {hh : List (Nat × Nat × Nat × Nat)} {Ts ws ws' : List Cond} {rm : Room} (n : Nat) (ht : ∀ w ∈ Ts, w.before args s = true) (hT : GoodIn Ts (wsV own index C y ws)) (hw : ws = Cond.codeWith y bytes maxL ret hh :: ws') (hrc : rm.cells = mc) (hrs : rm.slots = ms)
    (hd : y.cls = C ∧ y.cls ≠ "java/lang/invoke/MethodHandle" ∧ y.cls ≠ "java/lang/invoke/VarHandle" ∧ (parseMethodDescriptor y.desc).map (fun d => d.parameters.length) = some n) (hR : rm.frames + 1 ≤ R.frames ∧ 8 + (maxL + 11) + rm.locals ≤ R.locals) :
    vx_CVW R s args own C index y bytes maxL ret hh ws rm mc ms n := by
  obtain ⟨hC, hd⟩ := hd
  subst hC
  have ok : ∀ w ∈ wsV own index y.cls y ws, w.before args s = true := fun w h => ht w (hT w h).1
  have hG : GoodIn Ts ws := fun w h => hT w (by unfold wsV; exact List.mem_append_right _ h)
  have hc : Cond.codeWith y bytes maxL ret hh ∈ ws := by rw [hw]; exact List.mem_cons_self
  refine ⟨⟨hrc, hrs, hR.1, hR.2, pay_in ht hG, hc⟩, ht _ (hG _ hc).1, ok _ (by simp [wsV]), ⟨hd.1, hd.2.1⟩, fun sig h => ?_, ok _ (by simp [wsV]), ok _ (by simp [wsV]), ok _ (by simp [wsV])⟩
  have h2 := hd.2.2
  rw [h] at h2
  exact (Option.some.inj h2).symm
theorem vx_runVW {y : MethodName} {bytes cc : ByteArray} {maxL nL mc ms n index : Nat} {ret : Option FieldType} {hh : List (Nat × Nat × Nat × Nat)} {ws : List Cond} {rm : Room} {Pc : Array Value → State → Prop} {Qc : Array Value → State → Outcome → State → Prop} {free : Addr → Prop} {Ts : List Cond} {own C : String} {b : Addr} {As rest : List Value} {g : JFrame}
    (S : CallFix p m c cc nL s args Ts own) (hM : Met l y ws rm Pc Qc mc ms free) (cw : vx_CVW R s args own C index y bytes maxL ret hh ws rm mc ms n) (hp : PreV s H C b Pc As)
    (hg : g.method = m) (hn : As.length = n) (hsize : g.locals.size = nL) (hstack : g.stack = As.reverse ++ .ref b :: rest) (hW : 2 * g.monitorRoom + (rest.map fun v => v.category).sum ≤ 8) (hdg : decode cc g.pc = .ok (.invokevirtual index, 3)) (hf : cells + mc ≤ R.cells ∧ slots + ms ≤ R.slots) :
    va_Run p l e R s m args below meth c H locs cells slots mc ms g rest (Qc (Value.ref b :: As).toArray) free := by
  obtain ⟨⟨hrc, hrs, hfr, hlo, hws, hcw⟩, hcode, hini, hy, hlen, hl, hin, hse⟩ := cw
  have hK : Back l R p e below s args y 3 8 (PreOf R mc ms Pc) (PostOf Qc mc ms free) := va_backW (hh := hh) (bytes := bytes) (maxL := maxL) (ret := ret) hM hp.1 hrc hrs hfr hlo hws hcw (fun a' U hW => word_at hW (Or.inl (by first | rfl | simp [Cond.onTables, Cond.keeps, Cond.steady])) hini)
  obtain ⟨hx, hb, hml, ho, -⟩ := S
  obtain ⟨-, ⟨cellB, hcB, hoB, hclB⟩, hPc⟩ := hp
  intro T hT X
  obtain ⟨v, vm₁, ⟨U', l2, c2, s2⟩, hW₁, X', ⟨g', mk, t, L, e1, e2, hq, h1, hL, h2, h3⟩, st⟩ := vx_callVW X hx (C := C) (hh := hh) (bytes := bytes) (maxL := maxL) (ret := ret) ho hl hin hse hcode hy hK (by rw [hT]; exact hcB) hoB hclB hg (hsize.trans hml.symm) (argsL := As) (rest := rest) (fun sig h => hn.trans (hlen sig h)) hstack hW (by rw [hb]; exact hdg)
    (fun vm₁ hW₁ => ⟨hf.1, hf.2, hPc (T.setVm vm₁) hT hW₁⟩)
  dsimp only [Pt.U, Pt.locs, Pt.cells, Pt.slots] at X' e1 e2 h1 h2 h3 st
  subst h1; subst h2; subst h3
  exact ⟨v, (T.setVm vm₁).calling g' mk (Value.ref b :: As).toArray, t, U', L, hT, X', hL, e1, e2, hq, st⟩
section
variable {y : MethodName} {bytes cc : ByteArray} {maxL nL mc ms n index : Nat} {ret : Option FieldType} {ws : List Cond} {rm : Room} {Pc : Array Value → State → Prop} {Qc : Array Value → State → Outcome → State → Prop} {XC : String → State → State → Prop} {free : Addr → Prop} {Ts : List Cond} {own C : String} {b : Addr} {As rest : List Value} {g : JFrame}
theorem vx_runVX {hh : List (Nat × Nat × Nat × Nat)} (S : CallFix p m c cc nL s args Ts own) (hM : vx_Met l y ws rm Pc Qc XC mc ms free) (cw : vx_CVW R s args own C index y bytes maxL ret hh ws rm mc ms n) (hp : PreV s H C b Pc As)
    (hg : g.method = m) (hn : As.length = n) (hsize : g.locals.size = nL) (hstack : g.stack = As.reverse ++ .ref b :: rest) (hW : 2 * g.monitorRoom + (rest.map fun v => v.category).sum ≤ 8) (hdg : decode cc g.pc = .ok (.invokevirtual index, 3)) (hf : cells + mc ≤ R.cells ∧ slots + ms ≤ R.slots) :
    vx_Run p l e R s m args below meth c H locs cells slots mc ms g rest (Qc (Value.ref b :: As).toArray) XC free := by
  obtain ⟨⟨hrc, hrs, hfr, hlo, hws, hcw⟩, hcode, hini, hy, hlen, hl, hin, hse⟩ := cw
  have hK : vx_Back l R p e below s args y 3 8 (PreOf R mc ms Pc) (PostOf Qc mc ms free) (vx_Post XC mc ms free) := vx_backW (hh := hh) (bytes := bytes) (maxL := maxL) (ret := ret) hM hp.1 hrc hrs hfr hlo hws hcw (fun a' U hW => word_at hW (Or.inl (by first | rfl | simp [Cond.onTables, Cond.keeps, Cond.steady])) hini)
  obtain ⟨hx, hb, hml, ho, -⟩ := S
  obtain ⟨-, ⟨cellB, hcB, hoB, hclB⟩, hPc⟩ := hp
  intro T hT X
  rcases vx_callVX X hx (C := C) (hh := hh) (bytes := bytes) (maxL := maxL) (ret := ret) ho hl hin hse hcode hy hK (by rw [hT]; exact hcB) hoB hclB hg (hsize.trans hml.symm) (argsL := As) (rest := rest) (fun sig h => hn.trans (hlen sig h)) hstack hW (by rw [hb]; exact hdg)
    (fun vm₁ hW₁ => ⟨hf.1, hf.2, hPc (T.setVm vm₁) hT hW₁⟩) with ⟨v, vm₁, ⟨U', l2, c2, s2⟩, hW₁, X', ⟨g', mk, t, L, e1, e2, hq, h1, hL, h2, h3⟩, st⟩ | ⟨q, vm₁, ⟨U', l2, c2, s2⟩, hW₁, X', ⟨g', mk, t, L, E, ce, e1, e2, hq, hce, hcv, hcl, h1, hL, h2, h3⟩, st⟩
  · dsimp only [Pt.U, Pt.locs, Pt.cells, Pt.slots] at X' e1 e2 h1 h2 h3 st
    subst h1; subst h2; subst h3
    exact Or.inl ⟨v, (T.setVm vm₁).calling g' mk (Value.ref b :: As).toArray, t, U', L, hT, X', hL, e1, e2, hq, st⟩
  · dsimp only [Pt.U, Pt.locs, Pt.cells, Pt.slots] at X' e1 e2 h1 h2 h3 st hcl
    subst h1; subst h2; subst h3
    exact Or.inr ⟨q, (T.setVm vm₁).calling g' mk (Value.ref b :: As).toArray, t, U', L, E, ce, hT, X', hL, e1, e2, hq, hce, hcv, vx_cls hW₁ hcl, st⟩
theorem vx_runSX {hh : List (Nat × Nat × Nat × Nat)} (S : CallFix p m c cc nL s args Ts own) (hM : vx_Met l y ws rm Pc Qc XC mc ms free) (cw : vx_CSW R s args own index y bytes maxL ret hh ws rm mc ms n) (hp : PreS s H Pc As)
    (hg : g.method = m) (hn : As.length = n) (hsize : g.locals.size = nL) (hstack : g.stack = As.reverse ++ rest) (hW : 2 * g.monitorRoom + (rest.map fun v => v.category).sum ≤ 8) (hdg : decode cc g.pc = .ok (.invokestatic index, 3)) (hf : cells + mc ≤ R.cells ∧ slots + ms ≤ R.slots) :
    vx_Run p l e R s m args below meth c H locs cells slots mc ms g rest (Qc As.toArray) XC free := by
  obtain ⟨⟨hrc, hrs, hfr, hlo, hws, hcw⟩, hcode, hini, hy, hlen, hl, hstt⟩ := cw
  have hK : vx_Back l R p e below s args y 3 8 (PreOf R mc ms Pc) (PostOf Qc mc ms free) (vx_Post XC mc ms free) := vx_backW (hh := hh) (bytes := bytes) (maxL := maxL) (ret := ret) hM hp.1 hrc hrs hfr hlo hws hcw (fun a' U hW => word_at hW (Or.inl (by first | rfl | simp [Cond.onTables, Cond.keeps, Cond.steady])) hini)
  obtain ⟨hx, hb, hml, ho, -⟩ := S
  intro T hT X
  rcases vx_callSX X hx (hh := hh) (bytes := bytes) (maxL := maxL) (ret := ret) ho hl hstt hini hcode hy hK hg (hsize.trans hml.symm) (argsL := As) (rest := rest) (fun sig h => hn.trans (hlen sig h)) hstack hW (by rw [hb]; exact hdg)
    (fun vm₁ hW₁ => ⟨hf.1, hf.2, hp.2 (T.setVm vm₁) hT hW₁⟩) with ⟨v, vm₁, ⟨U', l2, c2, s2⟩, hW₁, X', ⟨g', mk, t, L, e1, e2, hq, h1, hL, h2, h3⟩, st⟩ | ⟨q, vm₁, ⟨U', l2, c2, s2⟩, hW₁, X', ⟨g', mk, t, L, E, ce, e1, e2, hq, hce, hcv, hcl, h1, hL, h2, h3⟩, st⟩
  · dsimp only [Pt.U, Pt.locs, Pt.cells, Pt.slots] at X' e1 e2 h1 h2 h3 st
    subst h1; subst h2; subst h3
    exact Or.inl ⟨v, (T.setVm vm₁).calling g' mk As.toArray, t, U', L, hT, X', hL, e1, e2, hq, st⟩
  · dsimp only [Pt.U, Pt.locs, Pt.cells, Pt.slots] at X' e1 e2 h1 h2 h3 st hcl
    subst h1; subst h2; subst h3
    exact Or.inr ⟨q, (T.setVm vm₁).calling g' mk As.toArray, t, U', L, E, ce, hT, X', hL, e1, e2, hq, hce, hcv, vx_cls hW₁ hcl, st⟩
end
end VXH
theorem vx_ofWH {l : Launch} {y : MethodName} {ws ws' : List Cond} {rm : Room} {Pc : Array Value → State → Prop} {Qc : Array Value → State → Outcome → State → Prop} {XC : String → State → State → Prop} {mc ms : Nat} {free : Addr → Prop} {cc : ByteArray} {maxL : Nat} {ret : Option FieldType} {hh : List (Nat × Nat × Nat × Nat)}
    (hy : plainName y.cls = true) (hw : ws = Cond.codeWith y cc maxL ret hh :: ws')
    (body : ∀ p e s m args below meth c s₁, BodyLoose p l y (headSpec ws rm) cc maxL ret e s m args below meth c s₁ → c.maxLocals = maxL → Pc args s →
      W p l e (headSpec ws rm).room s m args below meth c s.heap [] 0 0 (vx_MQ below Qc XC args s mc ms free) (entryFrame m args maxL)) : vx_Met l y ws rm Pc Qc XC mc ms free := by
  refine MetFree.of_bodyS (code := cc) (maxLocals := maxL) (ret := ret) hy ?_ ?_
  · intro args s m h hn
    obtain ⟨m9, meth, c, hn9, h1, h2, h3, h4, -, h5, h6, -⟩ := Cond.codeWith_spec (atoms_spec (ws := ws) h _ (by rw [hw]; exact List.mem_cons_self))
    cases hn.symm.trans hn9
    exact ⟨meth, c, h1, h2, h3, h4, h5, h6⟩
  · intro p e s m args below meth c s₁ B hml hP _
    have hh0 : s₁.heap = s.heap := by rw [B.state]; rfl
    obtain ⟨t, a1, o, b1, b2, b3⟩ := body p e s m args below meth c s₁ B hml hP s₁ hh0 (Stand.of_body B)
    exact ⟨t, o, a1, b1, b2, b3⟩
/-! ===== END ===== -/

def RX0 : String := "Assetmerge$Finder"
def TX0 : u_T := fun k => match k with
  | _ => ("", "", "", false)
def tyX0 : Nat → FieldType := fun k => match k with
  | _ => .int
abbrev wsX00 : List Cond := u_ws RX0 TX0 0
theorem nmX0 : ∀ a, a < 0 → ∀ b, b < 0 → a ≠ b → (TX0 a).2.1 ≠ (TX0 b).2.1 := by decide +kernel
theorem tyX0_ok : ∀ k, k < 0 → parseFieldDescriptor (TX0 k).2.2.1 = some (tyX0 k) := by decide +kernel
abbrev cX0_init : ByteArray := prog_2_method_1_code
def yX0_init : MethodName := ⟨RX0, "<init>", "()V"⟩
abbrev cX0_findGroups : ByteArray := prog_2_method_3_code
def yX0_findGroups : MethodName := ⟨RX0, "findGroups", "(LAssetmerge$Inventory;)V"⟩
abbrev cX0_groupBefore : ByteArray := prog_2_method_4_code
def yX0_groupBefore : MethodName := ⟨RX0, "groupBefore", "(II)I"⟩
abbrev cX0_joinClusters : ByteArray := prog_2_method_5_code
def yX0_joinClusters : MethodName := ⟨RX0, "joinClusters", "(LAssetmerge$Inventory;I)V"⟩
abbrev cX0_membersOf : ByteArray := prog_2_method_6_code
def yX0_membersOf : MethodName := ⟨RX0, "membersOf", "(ILAssetmerge$Inventory;)I"⟩
def RX1 : String := "Assetmerge$Inventory"
def TX1 : u_T := fun k => match k with
  | 0 => ("Assetmerge$Inventory", "trusts", "[I", true)
  | 1 => ("Assetmerge$Inventory", "sources", "[I", true)
  | 2 => ("Assetmerge$Inventory", "seenDays", "[I", true)
  | 3 => ("Assetmerge$Inventory", "keys", "[[I", true)
  | 4 => ("Assetmerge$Inventory", "facts", "[[I", true)
  | 5 => ("Assetmerge$Inventory", "forbidden", "[I", true)
  | 6 => ("Assetmerge$Inventory", "live", "I", false)
  | 7 => ("Assetmerge$Inventory", "sourceCount", "I", false)
  | 8 => ("Assetmerge$Inventory", "recordCount", "I", false)
  | _ => ("Assetmerge$Inventory", "pairCount", "I", false)
def tyX1 : Nat → FieldType := fun k => match k with
  | 0 => .array .int
  | 1 => .array .int
  | 2 => .array .int
  | 3 => .array (.array .int)
  | 4 => .array (.array .int)
  | 5 => .array .int
  | 6 => .int
  | 7 => .int
  | 8 => .int
  | _ => .int
abbrev wsX10 : List Cond := u_ws RX1 TX1 10
theorem nmX1 : ∀ a, a < 10 → ∀ b, b < 10 → a ≠ b → (TX1 a).2.1 ≠ (TX1 b).2.1 := by decide +kernel
theorem tyX1_ok : ∀ k, k < 10 → parseFieldDescriptor (TX1 k).2.2.1 = some (tyX1 k) := by decide +kernel
abbrev cX1_init : ByteArray := prog_3_method_1_code
def yX1_init : MethodName := ⟨RX1, "<init>", "()V"⟩
abbrev cX1_putSource : ByteArray := prog_3_method_2_code
def yX1_putSource : MethodName := ⟨RX1, "putSource", "(I)I"⟩
abbrev cX1_putRecord : ByteArray := prog_3_method_3_code
def yX1_putRecord : MethodName := ⟨RX1, "putRecord", "(II)I"⟩
abbrev cX1_hide : ByteArray := prog_3_method_4_code
def yX1_hide : MethodName := ⟨RX1, "hide", "(I)V"⟩
abbrev cX1_unhide : ByteArray := prog_3_method_5_code
def yX1_unhide : MethodName := ⟨RX1, "unhide", "(I)V"⟩
abbrev cX1_holds : ByteArray := prog_3_method_6_code
def yX1_holds : MethodName := ⟨RX1, "holds", "(I)Z"⟩
abbrev cX1_isIn : ByteArray := prog_3_method_7_code
def yX1_isIn : MethodName := ⟨RX1, "isIn", "(II)Z"⟩
abbrev cX1_countRecords : ByteArray := prog_3_method_8_code
def yX1_countRecords : MethodName := ⟨RX1, "countRecords", "()I"⟩
abbrev cX1_part : ByteArray := prog_3_method_9_code
def yX1_part : MethodName := ⟨RX1, "part", "(II)V"⟩
abbrev cX1_unpart : ByteArray := prog_3_method_10_code
def yX1_unpart : MethodName := ⟨RX1, "unpart", "(II)V"⟩
abbrev cX1_isForbidden : ByteArray := prog_3_method_11_code
def yX1_isForbidden : MethodName := ⟨RX1, "isForbidden", "(II)Z"⟩
abbrev cX1_countPairs : ByteArray := prog_3_method_12_code
def yX1_countPairs : MethodName := ⟨RX1, "countPairs", "()I"⟩
abbrev cX1_haveSameKey : ByteArray := prog_3_method_13_code
def yX1_haveSameKey : MethodName := ⟨RX1, "haveSameKey", "(III)Z"⟩
abbrev cX1_isFirstWithKey : ByteArray := prog_3_method_14_code
def yX1_isFirstWithKey : MethodName := ⟨RX1, "isFirstWithKey", "(II)Z"⟩
abbrev cX1_mayJoin : ByteArray := prog_3_method_15_code
def yX1_mayJoin : MethodName := ⟨RX1, "mayJoin", "(II)Z"⟩
abbrev cX1_haveTwoKeys : ByteArray := prog_3_method_16_code
def yX1_haveTwoKeys : MethodName := ⟨RX1, "haveTwoKeys", "(II)Z"⟩
abbrev cX1_haveForbiddenPair : ByteArray := prog_3_method_17_code
def yX1_haveForbiddenPair : MethodName := ⟨RX1, "haveForbiddenPair", "(I)Z"⟩
abbrev cX1_weigh : ByteArray := prog_3_method_18_code
def yX1_weigh : MethodName := ⟨RX1, "weigh", "(II)I"⟩
abbrev cX1_isAhead : ByteArray := prog_3_method_19_code
def yX1_isAhead : MethodName := ⟨RX1, "isAhead", "(III)Z"⟩
def RX2 : String := "Assetmerge$Joining"
def TX2 : u_T := fun k => match k with
  | 0 => ("Assetmerge$Finder", "groups", "[[I", true)
  | _ => ("Assetmerge$Finder", "clusters", "[I", true)
def tyX2 : Nat → FieldType := fun k => match k with
  | 0 => .array (.array .int)
  | _ => .array .int
abbrev wsX20 : List Cond := u_ws RX2 TX2 2
theorem nmX2 : ∀ a, a < 2 → ∀ b, b < 2 → a ≠ b → (TX2 a).2.1 ≠ (TX2 b).2.1 := by decide +kernel
theorem tyX2_ok : ∀ k, k < 2 → parseFieldDescriptor (TX2 k).2.2.1 = some (tyX2 k) := by decide +kernel
abbrev cX2_init : ByteArray := prog_4_method_1_code
def yX2_init : MethodName := ⟨RX2, "<init>", "()V"⟩
abbrev cX2_findClusters : ByteArray := prog_4_method_2_code
def yX2_findClusters : MethodName := ⟨RX2, "findClusters", "(LAssetmerge$Inventory;I)V"⟩
abbrev cX2_joinTwo : ByteArray := prog_4_method_3_code
def yX2_joinTwo : MethodName := ⟨RX2, "joinTwo", "(III)V"⟩
def RX3 : String := "Assetmerge$Spreading"
def TX3 : u_T := fun k => match k with
  | 0 => ("Assetmerge$Finder", "groups", "[[I", true)
  | _ => ("Assetmerge$Finder", "clusters", "[I", true)
def tyX3 : Nat → FieldType := fun k => match k with
  | 0 => .array (.array .int)
  | _ => .array .int
abbrev wsX30 : List Cond := u_ws RX3 TX3 2
theorem nmX3 : ∀ a, a < 2 → ∀ b, b < 2 → a ≠ b → (TX3 a).2.1 ≠ (TX3 b).2.1 := by decide +kernel
theorem tyX3_ok : ∀ k, k < 2 → parseFieldDescriptor (TX3 k).2.2.1 = some (tyX3 k) := by decide +kernel
abbrev cX3_init : ByteArray := prog_5_method_1_code
def yX3_init : MethodName := ⟨RX3, "<init>", "()V"⟩
abbrev cX3_findClusters : ByteArray := prog_5_method_2_code
def yX3_findClusters : MethodName := ⟨RX3, "findClusters", "(LAssetmerge$Inventory;I)V"⟩
abbrev cX3_spreadOnce : ByteArray := prog_5_method_3_code
def yX3_spreadOnce : MethodName := ⟨RX3, "spreadOnce", "(LAssetmerge$Inventory;I)Z"⟩
abbrev cX3_areLinked : ByteArray := prog_5_method_4_code
def yX3_areLinked : MethodName := ⟨RX3, "areLinked", "(IILAssetmerge$Inventory;I)Z"⟩
def RX4 : String := "Assetmerge"
def TX4 : u_T := fun k => match k with
  | 0 => ("Assetmerge", "inventory", "LAssetmerge$Inventory;", true)
  | 1 => ("Assetmerge", "joining", "LAssetmerge$Joining;", true)
  | 2 => ("Assetmerge", "spreading", "LAssetmerge$Spreading;", true)
  | 3 => ("Assetmerge", "order", "[I", true)
  | 4 => ("Assetmerge", "day", "I", false)
  | _ => ("Assetmerge", "limit", "I", false)
def tyX4 : Nat → FieldType := fun k => match k with
  | 0 => .object "Assetmerge$Inventory"
  | 1 => .object "Assetmerge$Joining"
  | 2 => .object "Assetmerge$Spreading"
  | 3 => .array .int
  | 4 => .int
  | _ => .int
abbrev wsX40 : List Cond := u_ws RX4 TX4 6
theorem nmX4 : ∀ a, a < 6 → ∀ b, b < 6 → a ≠ b → (TX4 a).2.1 ≠ (TX4 b).2.1 := by decide +kernel
theorem tyX4_ok : ∀ k, k < 6 → parseFieldDescriptor (TX4 k).2.2.1 = some (tyX4 k) := by decide +kernel
abbrev cX4_init : ByteArray := prog_1_method_1_code
def yX4_init : MethodName := ⟨RX4, "<init>", "()V"⟩
abbrev cX4_addSource : ByteArray := prog_1_method_2_code
def yX4_addSource : MethodName := ⟨RX4, "addSource", "(I)I"⟩
abbrev cX4_setTrust : ByteArray := prog_1_method_3_code
def yX4_setTrust : MethodName := ⟨RX4, "setTrust", "(II)I"⟩
abbrev cX4_addRecord : ByteArray := prog_1_method_4_code
def yX4_addRecord : MethodName := ⟨RX4, "addRecord", "(IIII)I"⟩
abbrev cX4_setKey : ByteArray := prog_1_method_5_code
def yX4_setKey : MethodName := ⟨RX4, "setKey", "(III)I"⟩
abbrev cX4_setFact : ByteArray := prog_1_method_6_code
def yX4_setFact : MethodName := ⟨RX4, "setFact", "(III)I"⟩
abbrev cX4_see : ByteArray := prog_1_method_7_code
def yX4_see : MethodName := ⟨RX4, "see", "(I)I"⟩
abbrev cX4_drop : ByteArray := prog_1_method_8_code
def yX4_drop : MethodName := ⟨RX4, "drop", "(I)I"⟩
abbrev cX4_forbid : ByteArray := prog_1_method_9_code
def yX4_forbid : MethodName := ⟨RX4, "forbid", "(II)I"⟩
abbrev cX4_allow : ByteArray := prog_1_method_10_code
def yX4_allow : MethodName := ⟨RX4, "allow", "(II)I"⟩
abbrev cX4_records : ByteArray := prog_1_method_11_code
def yX4_records : MethodName := ⟨RX4, "records", "()I"⟩
abbrev cX4_key : ByteArray := prog_1_method_12_code
def yX4_key : MethodName := ⟨RX4, "key", "(II)I"⟩
abbrev cX4_seen : ByteArray := prog_1_method_13_code
def yX4_seen : MethodName := ⟨RX4, "seen", "(I)I"⟩
abbrev cX4_thing : ByteArray := prog_1_method_14_code
def yX4_thing : MethodName := ⟨RX4, "thing", "(I)I"⟩
abbrev cX4_thingByRounds : ByteArray := prog_1_method_15_code
def yX4_thingByRounds : MethodName := ⟨RX4, "thingByRounds", "(I)I"⟩
abbrev cX4_things : ByteArray := prog_1_method_16_code
def yX4_things : MethodName := ⟨RX4, "things", "()I"⟩
abbrev cX4_size : ByteArray := prog_1_method_17_code
def yX4_size : MethodName := ⟨RX4, "size", "(I)I"⟩
abbrev cX4_member : ByteArray := prog_1_method_18_code
def yX4_member : MethodName := ⟨RX4, "member", "(II)I"⟩
abbrev cX4_areTogether : ByteArray := prog_1_method_19_code
def yX4_areTogether : MethodName := ⟨RX4, "areTogether", "(II)Z"⟩
abbrev cX4_step : ByteArray := prog_1_method_20_code
def yX4_step : MethodName := ⟨RX4, "step", "(II)I"⟩
abbrev cX4_shared : ByteArray := prog_1_method_21_code
def yX4_shared : MethodName := ⟨RX4, "shared", "(I)I"⟩
abbrev cX4_thingsWithout : ByteArray := prog_1_method_22_code
def yX4_thingsWithout : MethodName := ⟨RX4, "thingsWithout", "(I)I"⟩
abbrev cX4_thingsIf : ByteArray := prog_1_method_23_code
def yX4_thingsIf : MethodName := ⟨RX4, "thingsIf", "(III)I"⟩
abbrev cX4_thingsIfAllowed : ByteArray := prog_1_method_24_code
def yX4_thingsIfAllowed : MethodName := ⟨RX4, "thingsIfAllowed", "(II)I"⟩
abbrev cX4_weight : ByteArray := prog_1_method_25_code
def yX4_weight : MethodName := ⟨RX4, "weight", "(I)I"⟩
abbrev cX4_fact : ByteArray := prog_1_method_26_code
def yX4_fact : MethodName := ⟨RX4, "fact", "(II)I"⟩
abbrev cX4_factByPairs : ByteArray := prog_1_method_27_code
def yX4_factByPairs : MethodName := ⟨RX4, "factByPairs", "(II)I"⟩
abbrev cX4_factFrom : ByteArray := prog_1_method_28_code
def yX4_factFrom : MethodName := ⟨RX4, "factFrom", "(II)I"⟩
abbrev cX4_agreement : ByteArray := prog_1_method_29_code
def yX4_agreement : MethodName := ⟨RX4, "agreement", "(II)F"⟩
abbrev cX4_setLimit : ByteArray := prog_1_method_30_code
def yX4_setLimit : MethodName := ⟨RX4, "setLimit", "(I)I"⟩
abbrev cX4_isGhost : ByteArray := prog_1_method_31_code
def yX4_isGhost : MethodName := ⟨RX4, "isGhost", "(I)Z"⟩
abbrev cX4_ghosts : ByteArray := prog_1_method_32_code
def yX4_ghosts : MethodName := ⟨RX4, "ghosts", "()I"⟩
abbrev cX4_nextGhost : ByteArray := prog_1_method_33_code
def yX4_nextGhost : MethodName := ⟨RX4, "nextGhost", "()I"⟩
abbrev cX4_nextGhostByDays : ByteArray := prog_1_method_34_code
def yX4_nextGhostByDays : MethodName := ⟨RX4, "nextGhostByDays", "()I"⟩
abbrev cX4_pass : ByteArray := prog_1_method_35_code
def yX4_pass : MethodName := ⟨RX4, "pass", "(I)I"⟩
abbrev cX4_today : ByteArray := prog_1_method_36_code
def yX4_today : MethodName := ⟨RX4, "today", "()I"⟩
abbrev cX4_mark : ByteArray := prog_1_method_37_code
def yX4_mark : MethodName := ⟨RX4, "mark", "()J"⟩
abbrev cX4_checkSource : ByteArray := prog_1_method_38_code
def yX4_checkSource : MethodName := ⟨RX4, "checkSource", "(I)V"⟩
abbrev cX4_checkRecord : ByteArray := prog_1_method_39_code
def yX4_checkRecord : MethodName := ⟨RX4, "checkRecord", "(I)V"⟩
abbrev cX4_checkKind : ByteArray := prog_1_method_40_code
def yX4_checkKind : MethodName := ⟨RX4, "checkKind", "(I)V"⟩
abbrev cX4_checkField : ByteArray := prog_1_method_41_code
def yX4_checkField : MethodName := ⟨RX4, "checkField", "(I)V"⟩
abbrev cX4_checkRange : ByteArray := prog_1_method_42_code
def yX4_checkRange : MethodName := ⟨RX4, "checkRange", "(III)V"⟩
abbrev cX4_checkDifferent : ByteArray := prog_1_method_43_code
def yX4_checkDifferent : MethodName := ⟨RX4, "checkDifferent", "(II)V"⟩
abbrev cX4_checkForbidden : ByteArray := prog_1_method_44_code
def yX4_checkForbidden : MethodName := ⟨RX4, "checkForbidden", "(II)V"⟩
abbrev cX4_checkFactRecord : ByteArray := prog_1_method_45_code
def yX4_checkFactRecord : MethodName := ⟨RX4, "checkFactRecord", "(I)V"⟩
abbrev cX4_findThing : ByteArray := prog_1_method_46_code
def yX4_findThing : MethodName := ⟨RX4, "findThing", "(I)I"⟩
abbrev cX4_countThings : ByteArray := prog_1_method_47_code
def yX4_countThings : MethodName := ⟨RX4, "countThings", "()I"⟩
abbrev cX4_findStep : ByteArray := prog_1_method_48_code
def yX4_findStep : MethodName := ⟨RX4, "findStep", "(II)I"⟩
abbrev cX4_isThing : ByteArray := prog_1_method_49_code
def yX4_isThing : MethodName := ⟨RX4, "isThing", "(I)Z"⟩
abbrev cX4_isMember : ByteArray := prog_1_method_50_code
def yX4_isMember : MethodName := ⟨RX4, "isMember", "(II)Z"⟩
abbrev cX4_countMembers : ByteArray := prog_1_method_51_code
def yX4_countMembers : MethodName := ⟨RX4, "countMembers", "(I)I"⟩
abbrev cX4_sumMembers : ByteArray := prog_1_method_52_code
def yX4_sumMembers : MethodName := ⟨RX4, "sumMembers", "(I)I"⟩
abbrev cX4_findMember : ByteArray := prog_1_method_53_code
def yX4_findMember : MethodName := ⟨RX4, "findMember", "(II)I"⟩
abbrev cX4_isKeyElsewhere : ByteArray := prog_1_method_54_code
def yX4_isKeyElsewhere : MethodName := ⟨RX4, "isKeyElsewhere", "(II)Z"⟩
abbrev cX4_tellsFact : ByteArray := prog_1_method_55_code
def yX4_tellsFact : MethodName := ⟨RX4, "tellsFact", "(III)Z"⟩
abbrev cX4_findFirstByOrder : ByteArray := prog_1_method_56_code
def yX4_findFirstByOrder : MethodName := ⟨RX4, "findFirstByOrder", "(II)I"⟩
abbrev cX4_orderMembers : ByteArray := prog_1_method_57_code
def yX4_orderMembers : MethodName := ⟨RX4, "orderMembers", "(I)I"⟩
abbrev cX4_findFirstByPairs : ByteArray := prog_1_method_58_code
def yX4_findFirstByPairs : MethodName := ⟨RX4, "findFirstByPairs", "(II)I"⟩
abbrev cX4_isBeaten : ByteArray := prog_1_method_59_code
def yX4_isBeaten : MethodName := ⟨RX4, "isBeaten", "(III)Z"⟩
abbrev cX4_findLastSeen : ByteArray := prog_1_method_60_code
def yX4_findLastSeen : MethodName := ⟨RX4, "findLastSeen", "(I)I"⟩
abbrev cX4_isGhostOn : ByteArray := prog_1_method_61_code
def yX4_isGhostOn : MethodName := ⟨RX4, "isGhostOn", "(II)Z"⟩
abbrev cX4_becomesGhostOn : ByteArray := prog_1_method_62_code
def yX4_becomesGhostOn : MethodName := ⟨RX4, "becomesGhostOn", "(I)Z"⟩
def RX5 : String := "AssetmergeModel"
def TX5 : u_T := fun k => match k with
  | 0 => ("AssetmergeModel", "trusts", "[I", true)
  | 1 => ("AssetmergeModel", "sources", "I", false)
  | 2 => ("AssetmergeModel", "sourceOf", "[I", true)
  | 3 => ("AssetmergeModel", "seen", "[I", true)
  | 4 => ("AssetmergeModel", "keys", "[[I", true)
  | 5 => ("AssetmergeModel", "facts", "[[I", true)
  | 6 => ("AssetmergeModel", "isDropped", "[Z", true)
  | 7 => ("AssetmergeModel", "records", "I", false)
  | 8 => ("AssetmergeModel", "ones", "[I", true)
  | 9 => ("AssetmergeModel", "others", "[I", true)
  | 10 => ("AssetmergeModel", "pairs", "I", false)
  | 11 => ("AssetmergeModel", "limit", "I", false)
  | 12 => ("AssetmergeModel", "today", "I", false)
  | 13 => ("AssetmergeModel", "thrown", "I", false)
  | 14 => ("AssetmergeModel", "groups", "[I", true)
  | 15 => ("AssetmergeModel", "clusters", "[I", true)
  | 16 => ("AssetmergeModel", "without", "I", false)
  | _ => ("AssetmergeModel", "freed", "I", false)
def tyX5 : Nat → FieldType := fun k => match k with
  | 0 => .array .int
  | 1 => .int
  | 2 => .array .int
  | 3 => .array .int
  | 4 => .array (.array .int)
  | 5 => .array (.array .int)
  | 6 => .array .boolean
  | 7 => .int
  | 8 => .array .int
  | 9 => .array .int
  | 10 => .int
  | 11 => .int
  | 12 => .int
  | 13 => .int
  | 14 => .array .int
  | 15 => .array .int
  | 16 => .int
  | _ => .int
abbrev wsX50 : List Cond := u_ws RX5 TX5 18
theorem nmX5 : ∀ a, a < 18 → ∀ b, b < 18 → a ≠ b → (TX5 a).2.1 ≠ (TX5 b).2.1 := by decide +kernel
theorem tyX5_ok : ∀ k, k < 18 → parseFieldDescriptor (TX5 k).2.2.1 = some (tyX5 k) := by decide +kernel
abbrev cX5_init : ByteArray := prog_7_method_1_code
def yX5_init : MethodName := ⟨RX5, "<init>", "()V"⟩
abbrev cX5_thrown : ByteArray := prog_7_method_2_code
def yX5_thrown : MethodName := ⟨RX5, "thrown", "()I"⟩
abbrev cX5_raises : ByteArray := prog_7_method_3_code
def yX5_raises : MethodName := ⟨RX5, "raises", "(I)I"⟩
abbrev cX5_in : ByteArray := prog_7_method_4_code
def yX5_in : MethodName := ⟨RX5, "in", "(III)Z"⟩
abbrev cX5_isRecord : ByteArray := prog_7_method_5_code
def yX5_isRecord : MethodName := ⟨RX5, "isRecord", "(I)Z"⟩
abbrev cX5_lacks : ByteArray := prog_7_method_6_code
def yX5_lacks : MethodName := ⟨RX5, "lacks", "(I)Z"⟩
abbrev cX5_addSource : ByteArray := prog_7_method_7_code
def yX5_addSource : MethodName := ⟨RX5, "addSource", "(I)I"⟩
abbrev cX5_setTrust : ByteArray := prog_7_method_8_code
def yX5_setTrust : MethodName := ⟨RX5, "setTrust", "(II)I"⟩
abbrev cX5_isKey : ByteArray := prog_7_method_9_code
def yX5_isKey : MethodName := ⟨RX5, "isKey", "(I)Z"⟩
abbrev cX5_addRecord : ByteArray := prog_7_method_10_code
def yX5_addRecord : MethodName := ⟨RX5, "addRecord", "(IIII)I"⟩
abbrev cX5_setKey : ByteArray := prog_7_method_11_code
def yX5_setKey : MethodName := ⟨RX5, "setKey", "(III)I"⟩
abbrev cX5_setFact : ByteArray := prog_7_method_12_code
def yX5_setFact : MethodName := ⟨RX5, "setFact", "(III)I"⟩
abbrev cX5_see : ByteArray := prog_7_method_13_code
def yX5_see : MethodName := ⟨RX5, "see", "(I)I"⟩
abbrev cX5_left : ByteArray := prog_7_method_14_code
def yX5_left : MethodName := ⟨RX5, "left", "()I"⟩
abbrev cX5_drop : ByteArray := prog_7_method_15_code
def yX5_drop : MethodName := ⟨RX5, "drop", "(I)I"⟩
abbrev cX5_pair : ByteArray := prog_7_method_16_code
def yX5_pair : MethodName := ⟨RX5, "pair", "(II)I"⟩
abbrev cX5_countedPairs : ByteArray := prog_7_method_17_code
def yX5_countedPairs : MethodName := ⟨RX5, "countedPairs", "()I"⟩
abbrev cX5_forbid : ByteArray := prog_7_method_18_code
def yX5_forbid : MethodName := ⟨RX5, "forbid", "(II)I"⟩
abbrev cX5_allow : ByteArray := prog_7_method_19_code
def yX5_allow : MethodName := ⟨RX5, "allow", "(II)I"⟩
abbrev cX5_records : ByteArray := prog_7_method_20_code
def yX5_records : MethodName := ⟨RX5, "records", "()I"⟩
abbrev cX5_key : ByteArray := prog_7_method_21_code
def yX5_key : MethodName := ⟨RX5, "key", "(II)I"⟩
abbrev cX5_seen : ByteArray := prog_7_method_22_code
def yX5_seen : MethodName := ⟨RX5, "seen", "(I)I"⟩
abbrev cX5_counts : ByteArray := prog_7_method_23_code
def yX5_counts : MethodName := ⟨RX5, "counts", "(I)Z"⟩
abbrev cX5_areLinked : ByteArray := prog_7_method_24_code
def yX5_areLinked : MethodName := ⟨RX5, "areLinked", "(III)Z"⟩
abbrev cX5_clusters : ByteArray := prog_7_method_25_code
def yX5_clusters : MethodName := ⟨RX5, "clusters", "(I)V"⟩
abbrev cX5_mayJoin : ByteArray := prog_7_method_26_code
def yX5_mayJoin : MethodName := ⟨RX5, "mayJoin", "(II)Z"⟩
abbrev cX5_joins : ByteArray := prog_7_method_27_code
def yX5_joins : MethodName := ⟨RX5, "joins", "(I)V"⟩
abbrev cX5_finds : ByteArray := prog_7_method_28_code
def yX5_finds : MethodName := ⟨RX5, "finds", "(I)V"⟩
abbrev cX5_thingMany : ByteArray := prog_7_method_29_code
def yX5_thingMany : MethodName := ⟨RX5, "thingMany", "()I"⟩
abbrev cX5_thing : ByteArray := prog_7_method_30_code
def yX5_thing : MethodName := ⟨RX5, "thing", "(I)I"⟩
abbrev cX5_thingByRounds : ByteArray := prog_7_method_31_code
def yX5_thingByRounds : MethodName := ⟨RX5, "thingByRounds", "(I)I"⟩
abbrev cX5_things : ByteArray := prog_7_method_32_code
def yX5_things : MethodName := ⟨RX5, "things", "()I"⟩
abbrev cX5_isOf : ByteArray := prog_7_method_33_code
def yX5_isOf : MethodName := ⟨RX5, "isOf", "(II)Z"⟩
abbrev cX5_size : ByteArray := prog_7_method_34_code
def yX5_size : MethodName := ⟨RX5, "size", "(I)I"⟩
abbrev cX5_member : ByteArray := prog_7_method_35_code
def yX5_member : MethodName := ⟨RX5, "member", "(II)I"⟩
abbrev cX5_areTogether : ByteArray := prog_7_method_36_code
def yX5_areTogether : MethodName := ⟨RX5, "areTogether", "(II)Z"⟩
abbrev cX5_step : ByteArray := prog_7_method_37_code
def yX5_step : MethodName := ⟨RX5, "step", "(II)I"⟩
abbrev cX5_isShared : ByteArray := prog_7_method_38_code
def yX5_isShared : MethodName := ⟨RX5, "isShared", "(II)Z"⟩
abbrev cX5_shared : ByteArray := prog_7_method_39_code
def yX5_shared : MethodName := ⟨RX5, "shared", "(I)I"⟩
abbrev cX5_thingsWithout : ByteArray := prog_7_method_40_code
def yX5_thingsWithout : MethodName := ⟨RX5, "thingsWithout", "(I)I"⟩
abbrev cX5_thingsIf : ByteArray := prog_7_method_41_code
def yX5_thingsIf : MethodName := ⟨RX5, "thingsIf", "(III)I"⟩
abbrev cX5_thingsIfAllowed : ByteArray := prog_7_method_42_code
def yX5_thingsIfAllowed : MethodName := ⟨RX5, "thingsIfAllowed", "(II)I"⟩
abbrev cX5_weightOf : ByteArray := prog_7_method_43_code
def yX5_weightOf : MethodName := ⟨RX5, "weightOf", "(I)I"⟩
abbrev cX5_weight : ByteArray := prog_7_method_44_code
def yX5_weight : MethodName := ⟨RX5, "weight", "(I)I"⟩
abbrev cX5_isAhead : ByteArray := prog_7_method_45_code
def yX5_isAhead : MethodName := ⟨RX5, "isAhead", "(II)Z"⟩
abbrev cX5_teller : ByteArray := prog_7_method_46_code
def yX5_teller : MethodName := ⟨RX5, "teller", "(II)I"⟩
abbrev cX5_fact : ByteArray := prog_7_method_47_code
def yX5_fact : MethodName := ⟨RX5, "fact", "(II)I"⟩
abbrev cX5_factByPairs : ByteArray := prog_7_method_48_code
def yX5_factByPairs : MethodName := ⟨RX5, "factByPairs", "(II)I"⟩
abbrev cX5_factFrom : ByteArray := prog_7_method_49_code
def yX5_factFrom : MethodName := ⟨RX5, "factFrom", "(II)I"⟩
abbrev cX5_agreement : ByteArray := prog_7_method_50_code
def yX5_agreement : MethodName := ⟨RX5, "agreement", "(II)F"⟩
abbrev cX5_setLimit : ByteArray := prog_7_method_51_code
def yX5_setLimit : MethodName := ⟨RX5, "setLimit", "(I)I"⟩
abbrev cX5_lastOf : ByteArray := prog_7_method_52_code
def yX5_lastOf : MethodName := ⟨RX5, "lastOf", "(I)I"⟩
abbrev cX5_isGhost : ByteArray := prog_7_method_53_code
def yX5_isGhost : MethodName := ⟨RX5, "isGhost", "(I)Z"⟩
abbrev cX5_ghosts : ByteArray := prog_7_method_54_code
def yX5_ghosts : MethodName := ⟨RX5, "ghosts", "()I"⟩
abbrev cX5_nextGhost : ByteArray := prog_7_method_55_code
def yX5_nextGhost : MethodName := ⟨RX5, "nextGhost", "()I"⟩
abbrev cX5_nextGhostByDays : ByteArray := prog_7_method_56_code
def yX5_nextGhostByDays : MethodName := ⟨RX5, "nextGhostByDays", "()I"⟩
abbrev cX5_pass : ByteArray := prog_7_method_57_code
def yX5_pass : MethodName := ⟨RX5, "pass", "(I)I"⟩
abbrev cX5_today : ByteArray := prog_7_method_58_code
def yX5_today : MethodName := ⟨RX5, "today", "()I"⟩
abbrev cX5_mark : ByteArray := prog_7_method_59_code
def yX5_mark : MethodName := ⟨RX5, "mark", "()J"⟩
def RJx145de : String := "java/io/Serializable"
def TJx145de : u_T := fun k => match k with
  | _ => ("", "", "", false)
def tyJx145de : Nat → FieldType := fun k => match k with
  | _ => .int
abbrev wsJx145de0 : List Cond := u_ws RJx145de TJx145de 0
theorem nmJx145de : ∀ a, a < 0 → ∀ b, b < 0 → a ≠ b → (TJx145de a).2.1 ≠ (TJx145de b).2.1 := by decide +kernel
theorem tyJx145de_ok : ∀ k, k < 0 → parseFieldDescriptor (TJx145de k).2.2.1 = some (tyJx145de k) := by decide +kernel
def RJ6 : String := "java/lang/Integer"
def TJ6 : u_T := fun k => match k with
  | _ => ("", "", "", false)
def tyJ6 : Nat → FieldType := fun k => match k with
  | _ => .int
abbrev wsJ60 : List Cond := u_ws RJ6 TJ6 0
theorem nmJ6 : ∀ a, a < 0 → ∀ b, b < 0 → a ≠ b → (TJ6 a).2.1 ≠ (TJ6 b).2.1 := by decide +kernel
theorem tyJ6_ok : ∀ k, k < 0 → parseFieldDescriptor (TJ6 k).2.2.1 = some (tyJ6 k) := by decide +kernel
abbrev cJ6_bitCount_0f7a4 : ByteArray := prog_13_method_49_code
def yJ6_bitCount_0f7a4 : MethodName := ⟨RJ6, "bitCount", "(I)I"⟩
def RJ9 : String := "java/lang/Math"
def TJ9 : u_T := fun k => match k with
  | _ => ("", "", "", false)
def tyJ9 : Nat → FieldType := fun k => match k with
  | _ => .int
abbrev wsJ90 : List Cond := u_ws RJ9 TJ9 0
theorem nmJ9 : ∀ a, a < 0 → ∀ b, b < 0 → a ≠ b → (TJ9 a).2.1 ≠ (TJ9 b).2.1 := by decide +kernel
theorem tyJ9_ok : ∀ k, k < 0 → parseFieldDescriptor (TJ9 k).2.2.1 = some (tyJ9 k) := by decide +kernel
abbrev cJ9_max_7cf53 : ByteArray := prog_14_method_65_code
def yJ9_max_7cf53 : MethodName := ⟨RJ9, "max", "(II)I"⟩
abbrev cJ9_min_7cf53 : ByteArray := prog_14_method_69_code
def yJ9_min_7cf53 : MethodName := ⟨RJ9, "min", "(II)I"⟩
def RJ0 : String := "java/lang/String"
def TJ0 : u_T := fun k => match k with
  | _ => ("", "", "", false)
def tyJ0 : Nat → FieldType := fun k => match k with
  | _ => .int
abbrev wsJ00 : List Cond := u_ws RJ0 TJ0 0
theorem nmJ0 : ∀ a, a < 0 → ∀ b, b < 0 → a ≠ b → (TJ0 a).2.1 ≠ (TJ0 b).2.1 := by decide +kernel
theorem tyJ0_ok : ∀ k, k < 0 → parseFieldDescriptor (TJ0 k).2.2.1 = some (tyJ0 k) := by decide +kernel
def RL : String := "AssetmergeLaw"
abbrev cL_addSource : ByteArray := method_3_code
def yL_addSource : MethodName := ⟨RL, "addSource", "(LAssetmerge;I[J)I"⟩
abbrev cL_setTrust : ByteArray := method_4_code
def yL_setTrust : MethodName := ⟨RL, "setTrust", "(LAssetmerge;II[J)I"⟩
abbrev cL_addRecord : ByteArray := method_5_code
def yL_addRecord : MethodName := ⟨RL, "addRecord", "(LAssetmerge;IIII[J)I"⟩
abbrev cL_setKey : ByteArray := method_6_code
def yL_setKey : MethodName := ⟨RL, "setKey", "(LAssetmerge;III[J)I"⟩
abbrev cL_setFact : ByteArray := method_7_code
def yL_setFact : MethodName := ⟨RL, "setFact", "(LAssetmerge;III[J)I"⟩
abbrev cL_see : ByteArray := method_8_code
def yL_see : MethodName := ⟨RL, "see", "(LAssetmerge;I[J)I"⟩
abbrev cL_drop : ByteArray := method_9_code
def yL_drop : MethodName := ⟨RL, "drop", "(LAssetmerge;I[J)I"⟩
abbrev cL_forbid : ByteArray := method_10_code
def yL_forbid : MethodName := ⟨RL, "forbid", "(LAssetmerge;II[J)I"⟩
abbrev cL_allow : ByteArray := method_11_code
def yL_allow : MethodName := ⟨RL, "allow", "(LAssetmerge;II[J)I"⟩
abbrev cL_key : ByteArray := method_12_code
def yL_key : MethodName := ⟨RL, "key", "(LAssetmerge;II[J)I"⟩
abbrev cL_seen : ByteArray := method_13_code
def yL_seen : MethodName := ⟨RL, "seen", "(LAssetmerge;I[J)I"⟩
abbrev cL_thing : ByteArray := method_14_code
def yL_thing : MethodName := ⟨RL, "thing", "(LAssetmerge;I[J)I"⟩
abbrev cL_thingByRounds : ByteArray := method_15_code
def yL_thingByRounds : MethodName := ⟨RL, "thingByRounds", "(LAssetmerge;I[J)I"⟩
abbrev cL_size : ByteArray := method_16_code
def yL_size : MethodName := ⟨RL, "size", "(LAssetmerge;I[J)I"⟩
abbrev cL_member : ByteArray := method_17_code
def yL_member : MethodName := ⟨RL, "member", "(LAssetmerge;II[J)I"⟩
abbrev cL_areTogether : ByteArray := method_18_code
def yL_areTogether : MethodName := ⟨RL, "areTogether", "(LAssetmerge;II[J)I"⟩
abbrev cL_step : ByteArray := method_19_code
def yL_step : MethodName := ⟨RL, "step", "(LAssetmerge;II[J)I"⟩
abbrev cL_shared : ByteArray := method_20_code
def yL_shared : MethodName := ⟨RL, "shared", "(LAssetmerge;I[J)I"⟩
abbrev cL_thingsWithout : ByteArray := method_21_code
def yL_thingsWithout : MethodName := ⟨RL, "thingsWithout", "(LAssetmerge;I[J)I"⟩
abbrev cL_thingsIf : ByteArray := method_22_code
def yL_thingsIf : MethodName := ⟨RL, "thingsIf", "(LAssetmerge;III[J)I"⟩
abbrev cL_thingsIfAllowed : ByteArray := method_23_code
def yL_thingsIfAllowed : MethodName := ⟨RL, "thingsIfAllowed", "(LAssetmerge;II[J)I"⟩
abbrev cL_weight : ByteArray := method_24_code
def yL_weight : MethodName := ⟨RL, "weight", "(LAssetmerge;I[J)I"⟩
abbrev cL_fact : ByteArray := method_25_code
def yL_fact : MethodName := ⟨RL, "fact", "(LAssetmerge;II[J)I"⟩
abbrev cL_factByPairs : ByteArray := method_26_code
def yL_factByPairs : MethodName := ⟨RL, "factByPairs", "(LAssetmerge;II[J)I"⟩
abbrev cL_factFrom : ByteArray := method_27_code
def yL_factFrom : MethodName := ⟨RL, "factFrom", "(LAssetmerge;II[J)I"⟩
abbrev cL_agreement : ByteArray := method_28_code
def yL_agreement : MethodName := ⟨RL, "agreement", "(LAssetmerge;II[D)I"⟩
abbrev cL_setLimit : ByteArray := method_29_code
def yL_setLimit : MethodName := ⟨RL, "setLimit", "(LAssetmerge;I[J)I"⟩
abbrev cL_isGhost : ByteArray := method_30_code
def yL_isGhost : MethodName := ⟨RL, "isGhost", "(LAssetmerge;I[J)I"⟩
abbrev cL_pass : ByteArray := method_31_code
def yL_pass : MethodName := ⟨RL, "pass", "(LAssetmerge;I[J)I"⟩
abbrev cL_law : ByteArray := code
def yL_law : MethodName := ⟨RL, "law", "([I)Z"⟩
def wsL_law0_r1 : List Cond := [Cond.classLink RL 8 RX4, Cond.instantiable RX4 6, Cond.initialized RX4, Cond.classLink RL 112 RX5, Cond.instantiable RX5 18, Cond.initialized RX5, Cond.arrayClass .long, Cond.arrayClass .double, Cond.methodLink RL 111 yX4_init, Cond.instanceMethod yX4_init, Cond.code yX4_init cX4_init 1 none, Cond.methodLink RX4 3 objectInit, Cond.instanceMethod objectInit, Cond.code objectInit ⟨#[0xb1]⟩ 1 none, Cond.classLink RX4 9 RX1, Cond.instantiable RX1 10, Cond.initialized RX1, Cond.fieldLink RX4 12 "Assetmerge" "inventory" "LAssetmerge$Inventory;", Cond.classLink RX4 16 RX2, Cond.instantiable RX2 2, Cond.initialized RX2, Cond.fieldLink RX4 19 "Assetmerge" "joining" "LAssetmerge$Joining;", Cond.classLink RX4 23 RX3, Cond.instantiable RX3 2]
def wsL_law0_r2 : List Cond := [Cond.initialized RX3, Cond.fieldLink RX4 26 "Assetmerge" "spreading" "LAssetmerge$Spreading;", Cond.arrayClass .int, Cond.fieldLink RX4 30 "Assetmerge" "order" "[I", Cond.fieldLink RX4 34 "Assetmerge" "limit" "I", Cond.instanceMethod yX1_init, Cond.code yX1_init cX1_init 1 none, Cond.methodLink RX1 3 objectInit, Cond.fieldLink RX1 9 "Assetmerge$Inventory" "trusts" "[I", Cond.fieldLink RX1 15 "Assetmerge$Inventory" "sources" "[I", Cond.fieldLink RX1 18 "Assetmerge$Inventory" "seenDays" "[I", Cond.classLink RX1 21 "[[I", Cond.fieldLink RX1 23 "Assetmerge$Inventory" "keys" "[[I", Cond.fieldLink RX1 26 "Assetmerge$Inventory" "facts" "[[I", Cond.fieldLink RX1 29 "Assetmerge$Inventory" "forbidden" "[I", Cond.instanceMethod yX2_init, Cond.code yX2_init cX2_init 1 none, Cond.instanceMethod yX0_init, Cond.initialized RX0, Cond.code yX0_init cX0_init 1 none, Cond.methodLink RX0 3 objectInit, Cond.classLink RX0 9 "[[I", Cond.fieldLink RX0 11 "Assetmerge$Finder" "groups" "[[I", Cond.fieldLink RX0 16 "Assetmerge$Finder" "clusters" "[I"]
def wsL_law0_r3 : List Cond := [Cond.instanceMethod yX3_init, Cond.code yX3_init cX3_init 1 none, Cond.methodLink RL 114 yX5_init, Cond.instanceMethod yX5_init, Cond.code yX5_init cX5_init 1 none, Cond.methodLink RX5 1 objectInit, Cond.fieldLink RX5 9 "AssetmergeModel" "trusts" "[I", Cond.fieldLink RX5 13 "AssetmergeModel" "sourceOf" "[I", Cond.fieldLink RX5 16 "AssetmergeModel" "seen" "[I", Cond.classLink RX5 19 "[[I", Cond.fieldLink RX5 21 "AssetmergeModel" "keys" "[[I", Cond.fieldLink RX5 24 "AssetmergeModel" "facts" "[[I", Cond.arrayClass .boolean, Cond.fieldLink RX5 27 "AssetmergeModel" "isDropped" "[Z", Cond.fieldLink RX5 31 "AssetmergeModel" "ones" "[I", Cond.fieldLink RX5 34 "AssetmergeModel" "others" "[I", Cond.fieldLink RX5 37 "AssetmergeModel" "limit" "I", Cond.fieldLink RX5 41 "AssetmergeModel" "groups" "[I", Cond.fieldLink RX5 44 "AssetmergeModel" "clusters" "[I", Cond.fieldLink RX5 47 "AssetmergeModel" "without" "I", Cond.fieldLink RX5 50 "AssetmergeModel" "freed" "I", Cond.methodLink RL 115 yL_addSource, Cond.static yL_addSource, Cond.initialized RL]
def wsL_law0_r4 : List Cond := [Cond.codeWith yL_addSource cL_addSource 4 (some .int) [(0, 9, 12, 13), (0, 9, 15, 15)], Cond.classLink RL 13 "java/lang/IllegalArgumentException", Cond.classLink RL 15 "java/lang/IllegalStateException", Cond.methodLink RL 7 yX4_addSource, Cond.instanceMethod yX4_addSource, Cond.selects RX4 yX4_addSource yX4_addSource, Cond.code yX4_addSource cX4_addSource 2 (some .int), Cond.classLink RX4 45 "java/lang/IllegalStateException", Cond.initialized "java/lang/IllegalStateException", Cond.fieldLink RX4 42 "Assetmerge$Inventory" "sourceCount" "I", Cond.methodLink RX4 38 yX4_checkRange, Cond.static yX4_checkRange, Cond.code yX4_checkRange cX4_checkRange 3 none, Cond.classLink RX4 219 "java/lang/IllegalArgumentException", Cond.initialized "java/lang/IllegalArgumentException", Cond.methodLink RX4 52 yX1_putSource, Cond.instanceMethod yX1_putSource, Cond.selects RX1 yX1_putSource yX1_putSource, Cond.code yX1_putSource cX1_putSource 3 (some .int), Cond.fieldLink RX1 32 "Assetmerge$Inventory" "sourceCount" "I", Cond.methodLink RL 120 yX5_addSource, Cond.instanceMethod yX5_addSource, Cond.selects RX5 yX5_addSource yX5_addSource, Cond.code yX5_addSource cX5_addSource 2 (some .int)]
def wsL_law0_r5 : List Cond := [Cond.fieldLink RX5 67 "AssetmergeModel" "sources" "I", Cond.fieldLink RX5 53 "AssetmergeModel" "thrown" "I", Cond.methodLink RX5 59 yX5_in, Cond.static yX5_in, Cond.code yX5_in cX5_in 3 (some .boolean), Cond.methodLink RL 121 yX5_thrown, Cond.instanceMethod yX5_thrown, Cond.selects RX5 yX5_thrown yX5_thrown, Cond.code yX5_thrown cX5_thrown 1 (some .int), Cond.methodLink RL 125 yL_setTrust, Cond.static yL_setTrust, Cond.codeWith yL_setTrust cL_setTrust 5 (some .int) [(0, 10, 13, 21), (0, 10, 17, 13)], Cond.classLink RL 21 "java/lang/IndexOutOfBoundsException", Cond.methodLink RL 17 yX4_setTrust, Cond.instanceMethod yX4_setTrust, Cond.selects RX4 yX4_setTrust yX4_setTrust, Cond.code yX4_setTrust cX4_setTrust 4 (some .int), Cond.fieldLink RX4 60 "Assetmerge$Inventory" "trusts" "[I", Cond.methodLink RX4 56 yX4_checkSource, Cond.instanceMethod yX4_checkSource, Cond.selects RX4 yX4_checkSource yX4_checkSource, Cond.code yX4_checkSource cX4_checkSource 2 none, Cond.classLink RX4 205 "java/lang/IndexOutOfBoundsException", Cond.initialized "java/lang/IndexOutOfBoundsException"]
def wsL_law0_r6 : List Cond := [Cond.methodLink RL 128 yX5_setTrust, Cond.instanceMethod yX5_setTrust, Cond.selects RX5 yX5_setTrust yX5_setTrust, Cond.code yX5_setTrust cX5_setTrust 4 (some .int), Cond.methodLink RL 129 yL_addRecord, Cond.static yL_addRecord, Cond.codeWith yL_addRecord cL_addRecord 7 (some .int) [(0, 14, 17, 21), (0, 14, 21, 13), (0, 14, 25, 15)], Cond.methodLink RL 23 yX4_addRecord, Cond.instanceMethod yX4_addRecord, Cond.selects RX4 yX4_addRecord yX4_addRecord, Cond.code yX4_addRecord cX4_addRecord 6 (some .int), Cond.fieldLink RX4 63 "Assetmerge$Inventory" "recordCount" "I", Cond.fieldLink RX4 68 "Assetmerge" "day" "I", Cond.fieldLink RX4 75 "Assetmerge$Inventory" "keys" "[[I", Cond.methodLink RX4 71 yX1_putRecord, Cond.instanceMethod yX1_putRecord, Cond.selects RX1 yX1_putRecord yX1_putRecord, Cond.code yX1_putRecord cX1_putRecord 5 (some .int), Cond.fieldLink RX1 36 "Assetmerge$Inventory" "recordCount" "I", Cond.methodLink RX1 39 yX1_unhide, Cond.instanceMethod yX1_unhide, Cond.selects RX1 yX1_unhide yX1_unhide, Cond.code yX1_unhide cX1_unhide 2 none, Cond.fieldLink RX1 43 "Assetmerge$Inventory" "live" "I"]
def wsL_law0_r7 : List Cond := [Cond.methodLink RL 132 yX5_addRecord, Cond.instanceMethod yX5_addRecord, Cond.selects RX5 yX5_addRecord yX5_addRecord, Cond.code yX5_addRecord cX5_addRecord 7 (some .int), Cond.fieldLink RX5 56 "AssetmergeModel" "records" "I", Cond.fieldLink RX5 73 "AssetmergeModel" "today" "I", Cond.methodLink RX5 70 yX5_isKey, Cond.static yX5_isKey, Cond.code yX5_isKey cX5_isKey 1 (some .boolean), Cond.methodLink RL 133 yL_setKey, Cond.static yL_setKey, Cond.codeWith yL_setKey cL_setKey 6 (some .int) [(0, 12, 15, 21), (0, 12, 19, 13)], Cond.methodLink RL 27 yX4_setKey, Cond.instanceMethod yX4_setKey, Cond.selects RX4 yX4_setKey yX4_setKey, Cond.code yX4_setKey cX4_setKey 5 (some .int), Cond.methodLink RX4 79 yX4_checkRecord, Cond.instanceMethod yX4_checkRecord, Cond.selects RX4 yX4_checkRecord yX4_checkRecord, Cond.code yX4_checkRecord cX4_checkRecord 2 none, Cond.methodLink RX4 210 yX1_holds, Cond.instanceMethod yX1_holds, Cond.selects RX1 yX1_holds yX1_holds, Cond.code yX1_holds cX1_holds 2 (some .boolean)]
def wsL_law0_r8 : List Cond := [Cond.methodLink RX1 46 yX1_isIn, Cond.static yX1_isIn, Cond.code yX1_isIn cX1_isIn 2 (some .boolean), Cond.methodLink RX4 82 yX4_checkKind, Cond.static yX4_checkKind, Cond.code yX4_checkKind cX4_checkKind 1 none, Cond.methodLink RL 136 yX5_setKey, Cond.instanceMethod yX5_setKey, Cond.selects RX5 yX5_setKey yX5_setKey, Cond.code yX5_setKey cX5_setKey 5 (some .int), Cond.methodLink RX5 63 yX5_isRecord, Cond.instanceMethod yX5_isRecord, Cond.selects RX5 yX5_isRecord yX5_isRecord, Cond.code yX5_isRecord cX5_isRecord 2 (some .boolean), Cond.methodLink RL 137 yL_setFact, Cond.static yL_setFact, Cond.codeWith yL_setFact cL_setFact 6 (some .int) [(0, 12, 15, 21), (0, 12, 19, 13)], Cond.methodLink RL 31 yX4_setFact, Cond.instanceMethod yX4_setFact, Cond.selects RX4 yX4_setFact yX4_setFact, Cond.code yX4_setFact cX4_setFact 5 (some .int), Cond.fieldLink RX4 88 "Assetmerge$Inventory" "facts" "[[I", Cond.methodLink RX4 85 yX4_checkField, Cond.static yX4_checkField]
def wsL_law0_r9 : List Cond := [Cond.code yX4_checkField cX4_checkField 1 none, Cond.methodLink RL 139 yX5_setFact, Cond.instanceMethod yX5_setFact, Cond.selects RX5 yX5_setFact yX5_setFact, Cond.code yX5_setFact cX5_setFact 5 (some .int), Cond.methodLink RL 140 yL_see, Cond.static yL_see, Cond.codeWith yL_see cL_see 4 (some .int) [(0, 9, 12, 21)], Cond.methodLink RL 34 yX4_see, Cond.instanceMethod yX4_see, Cond.selects RX4 yX4_see yX4_see, Cond.code yX4_see cX4_see 3 (some .int), Cond.fieldLink RX4 91 "Assetmerge$Inventory" "seenDays" "[I", Cond.methodLink RL 142 yX5_see, Cond.instanceMethod yX5_see, Cond.selects RX5 yX5_see yX5_see, Cond.code yX5_see cX5_see 3 (some .int), Cond.methodLink RX5 76 yX5_lacks, Cond.instanceMethod yX5_lacks, Cond.selects RX5 yX5_lacks yX5_lacks, Cond.code yX5_lacks cX5_lacks 2 (some .boolean), Cond.methodLink RL 143 yL_drop, Cond.static yL_drop, Cond.codeWith yL_drop cL_drop 4 (some .int) [(0, 9, 12, 21)]]
def wsL_law0_r10 : List Cond := [Cond.methodLink RL 37 yX4_drop, Cond.instanceMethod yX4_drop, Cond.selects RX4 yX4_drop yX4_drop, Cond.code yX4_drop cX4_drop 2 (some .int), Cond.methodLink RX4 94 yX1_hide, Cond.instanceMethod yX1_hide, Cond.selects RX1 yX1_hide yX1_hide, Cond.code yX1_hide cX1_hide 2 none, Cond.methodLink RX4 97 yX1_countRecords, Cond.instanceMethod yX1_countRecords, Cond.selects RX1 yX1_countRecords yX1_countRecords, Cond.code yX1_countRecords cX1_countRecords 1 (some .int), Cond.methodLink RX1 50 yJ6_bitCount_0f7a4, Cond.static yJ6_bitCount_0f7a4, Cond.initialized RJ6, Cond.code yJ6_bitCount_0f7a4 cJ6_bitCount_0f7a4 1 (some .int), Cond.constant RJ6 265 (1431655765), Cond.constant RJ6 266 (858993459), Cond.constant RJ6 267 (252645135), Cond.methodLink RL 145 yX5_drop, Cond.instanceMethod yX5_drop, Cond.selects RX5 yX5_drop yX5_drop, Cond.code yX5_drop cX5_drop 2 (some .int), Cond.methodLink RX5 79 yX5_left]
def wsL_law0_r11 : List Cond := [Cond.instanceMethod yX5_left, Cond.selects RX5 yX5_left yX5_left, Cond.code yX5_left cX5_left 3 (some .int), Cond.methodLink RL 146 yL_forbid, Cond.static yL_forbid, Cond.codeWith yL_forbid cL_forbid 5 (some .int) [(0, 10, 13, 21), (0, 10, 17, 13), (0, 10, 21, 15)], Cond.methodLink RL 40 yX4_forbid, Cond.instanceMethod yX4_forbid, Cond.selects RX4 yX4_forbid yX4_forbid, Cond.code yX4_forbid cX4_forbid 3 (some .int), Cond.fieldLink RX4 111 "Assetmerge$Inventory" "pairCount" "I", Cond.methodLink RX4 101 yX4_checkDifferent, Cond.static yX4_checkDifferent, Cond.code yX4_checkDifferent cX4_checkDifferent 2 none, Cond.methodLink RX4 105 yX1_isForbidden, Cond.instanceMethod yX1_isForbidden, Cond.selects RX1 yX1_isForbidden yX1_isForbidden, Cond.code yX1_isForbidden cX1_isForbidden 3 (some .boolean), Cond.methodLink RX4 116 yX1_part, Cond.instanceMethod yX1_part, Cond.selects RX1 yX1_part yX1_part, Cond.code yX1_part cX1_part 3 none, Cond.methodLink RX4 119 yX1_countPairs, Cond.instanceMethod yX1_countPairs]
def wsL_law0_r12 : List Cond := [Cond.selects RX1 yX1_countPairs yX1_countPairs, Cond.code yX1_countPairs cX1_countPairs 3 (some .int), Cond.methodLink RX1 56 yX1_holds, Cond.methodLink RL 148 yX5_forbid, Cond.instanceMethod yX5_forbid, Cond.selects RX5 yX5_forbid yX5_forbid, Cond.code yX5_forbid cX5_forbid 3 (some .int), Cond.fieldLink RX5 83 "AssetmergeModel" "pairs" "I", Cond.methodLink RX5 86 yX5_pair, Cond.instanceMethod yX5_pair, Cond.selects RX5 yX5_pair yX5_pair, Cond.code yX5_pair cX5_pair 4 (some .int), Cond.methodLink RX5 90 yX5_countedPairs, Cond.instanceMethod yX5_countedPairs, Cond.selects RX5 yX5_countedPairs yX5_countedPairs, Cond.code yX5_countedPairs cX5_countedPairs 3 (some .int), Cond.methodLink RL 149 yL_allow, Cond.static yL_allow, Cond.codeWith yL_allow cL_allow 5 (some .int) [(0, 10, 13, 21), (0, 10, 17, 46)], Cond.classLink RL 46 "java/util/NoSuchElementException", Cond.methodLink RL 43 yX4_allow, Cond.instanceMethod yX4_allow, Cond.selects RX4 yX4_allow yX4_allow, Cond.code yX4_allow cX4_allow 3 (some .int)]
def wsL_law0_r13 : List Cond := [Cond.methodLink RX4 122 yX4_checkForbidden, Cond.instanceMethod yX4_checkForbidden, Cond.selects RX4 yX4_checkForbidden yX4_checkForbidden, Cond.code yX4_checkForbidden cX4_checkForbidden 3 none, Cond.classLink RX4 147 "java/util/NoSuchElementException", Cond.initialized "java/util/NoSuchElementException", Cond.methodLink RX4 125 yX1_unpart, Cond.instanceMethod yX1_unpart, Cond.selects RX1 yX1_unpart yX1_unpart, Cond.code yX1_unpart cX1_unpart 3 none, Cond.methodLink RL 151 yX5_allow, Cond.instanceMethod yX5_allow, Cond.selects RX5 yX5_allow yX5_allow, Cond.code yX5_allow cX5_allow 4 (some .int), Cond.methodLink RX5 93 yX5_raises, Cond.instanceMethod yX5_raises, Cond.selects RX5 yX5_raises yX5_raises, Cond.code yX5_raises cX5_raises 2 (some .int), Cond.methodLink RL 152 yX4_records, Cond.instanceMethod yX4_records, Cond.selects RX4 yX4_records yX4_records, Cond.code yX4_records cX4_records 1 (some .int), Cond.methodLink RL 155 yX5_records, Cond.instanceMethod yX5_records]
def wsL_law0_r14 : List Cond := [Cond.selects RX5 yX5_records yX5_records, Cond.code yX5_records cX5_records 1 (some .int), Cond.methodLink RL 156 yL_key, Cond.static yL_key, Cond.codeWith yL_key cL_key 5 (some .int) [(0, 10, 13, 21)], Cond.methodLink RL 48 yX4_key, Cond.instanceMethod yX4_key, Cond.selects RX4 yX4_key yX4_key, Cond.code yX4_key cX4_key 3 (some .int), Cond.methodLink RL 158 yX5_key, Cond.instanceMethod yX5_key, Cond.selects RX5 yX5_key yX5_key, Cond.code yX5_key cX5_key 3 (some .int), Cond.methodLink RL 159 yL_seen, Cond.static yL_seen, Cond.codeWith yL_seen cL_seen 4 (some .int) [(0, 9, 12, 21)], Cond.methodLink RL 51 yX4_seen, Cond.instanceMethod yX4_seen, Cond.selects RX4 yX4_seen yX4_seen, Cond.code yX4_seen cX4_seen 2 (some .int), Cond.methodLink RL 161 yX5_seen, Cond.instanceMethod yX5_seen, Cond.selects RX5 yX5_seen yX5_seen, Cond.code yX5_seen cX5_seen 2 (some .int)]
def wsL_law0_r15 : List Cond := [Cond.methodLink RL 162 yL_thing, Cond.static yL_thing, Cond.codeWith yL_thing cL_thing 4 (some .int) [(0, 9, 12, 21)], Cond.methodLink RL 54 yX4_thing, Cond.instanceMethod yX4_thing, Cond.selects RX4 yX4_thing yX4_thing, Cond.code yX4_thing cX4_thing 2 (some .int), Cond.methodLink RX4 128 yX4_findThing, Cond.instanceMethod yX4_findThing, Cond.selects RX4 yX4_findThing yX4_findThing, Cond.code yX4_findThing cX4_findThing 2 (some .int), Cond.fieldLink RX4 152 "Assetmerge$Joining" "groups" "[[I", Cond.sameField "Assetmerge$Joining" "Assetmerge$Finder" "groups" "[[I", Cond.methodLink RX4 158 ⟨"Assetmerge$Joining", "findGroups", "(LAssetmerge$Inventory;)V"⟩, Cond.sameMethod "Assetmerge$Joining" "Assetmerge$Finder" "findGroups" "(LAssetmerge$Inventory;)V", Cond.selects RX2 ⟨"Assetmerge$Joining", "findGroups", "(LAssetmerge$Inventory;)V"⟩ yX0_findGroups, Cond.instanceMethod yX0_findGroups, Cond.code yX0_findGroups cX0_findGroups 4 none, Cond.fieldLink RX0 20 "Assetmerge$Inventory" "recordCount" "I", Cond.methodLink RX0 26 ⟨"Assetmerge$Finder", "groupBefore", "(II)I"⟩, Cond.sameMethod "Assetmerge$Finder" "Assetmerge$Finder" "groupBefore" "(II)I", Cond.selects RX2 ⟨"Assetmerge$Finder", "groupBefore", "(II)I"⟩ yX0_groupBefore, Cond.instanceMethod yX0_groupBefore, Cond.code yX0_groupBefore cX0_groupBefore 3 (some .int)]
def wsL_law0_r16 : List Cond := [Cond.selects RX3 ⟨"Assetmerge$Finder", "groupBefore", "(II)I"⟩ yX0_groupBefore, Cond.methodLink RX0 30 ⟨"Assetmerge$Finder", "findClusters", "(LAssetmerge$Inventory;I)V"⟩, Cond.sameMethod "Assetmerge$Finder" "Assetmerge$Finder" "findClusters" "(LAssetmerge$Inventory;I)V", Cond.selects RX2 ⟨"Assetmerge$Finder", "findClusters", "(LAssetmerge$Inventory;I)V"⟩ yX2_findClusters, Cond.instanceMethod yX2_findClusters, Cond.code yX2_findClusters cX2_findClusters 5 none, Cond.fieldLink RX2 7 "Assetmerge$Inventory" "recordCount" "I", Cond.fieldLink RX2 17 "Assetmerge$Joining" "clusters" "[I", Cond.sameField "Assetmerge$Joining" "Assetmerge$Finder" "clusters" "[I", Cond.methodLink RX2 13 yX1_haveSameKey, Cond.instanceMethod yX1_haveSameKey, Cond.selects RX1 yX1_haveSameKey yX1_haveSameKey, Cond.code yX1_haveSameKey cX1_haveSameKey 4 (some .boolean), Cond.methodLink RX2 23 yX2_joinTwo, Cond.instanceMethod yX2_joinTwo, Cond.selects RX2 yX2_joinTwo yX2_joinTwo, Cond.code yX2_joinTwo cX2_joinTwo 7 none, Cond.methodLink RX2 27 Lib.Math.min.name, Cond.static Lib.Math.min.name, Cond.initialized "java/lang/Math", Cond.code Lib.Math.min.name Lib.Math.min.code 2 (some .int), Cond.methodLink RX2 33 Lib.Math.max.name, Cond.static Lib.Math.max.name, Cond.code Lib.Math.max.name Lib.Math.max.code 2 (some .int)]
def wsL_law0_r17 : List Cond := [Cond.selects RX3 ⟨"Assetmerge$Finder", "findClusters", "(LAssetmerge$Inventory;I)V"⟩ yX3_findClusters, Cond.instanceMethod yX3_findClusters, Cond.code yX3_findClusters cX3_findClusters 5 none, Cond.methodLink RX3 9 yX3_spreadOnce, Cond.instanceMethod yX3_spreadOnce, Cond.selects RX3 yX3_spreadOnce yX3_spreadOnce, Cond.code yX3_spreadOnce cX3_spreadOnce 6 (some .boolean), Cond.fieldLink RX3 15 "Assetmerge$Inventory" "recordCount" "I", Cond.fieldLink RX3 21 "Assetmerge$Spreading" "clusters" "[I", Cond.sameField "Assetmerge$Spreading" "Assetmerge$Finder" "clusters" "[I", Cond.methodLink RX3 25 yX3_areLinked, Cond.instanceMethod yX3_areLinked, Cond.selects RX3 yX3_areLinked yX3_areLinked, Cond.code yX3_areLinked cX3_areLinked 5 (some .boolean), Cond.methodLink RX3 29 ⟨"Assetmerge$Spreading", "groupBefore", "(II)I"⟩, Cond.sameMethod "Assetmerge$Spreading" "Assetmerge$Finder" "groupBefore" "(II)I", Cond.selects RX3 ⟨"Assetmerge$Spreading", "groupBefore", "(II)I"⟩ yX0_groupBefore, Cond.methodLink RX3 33 yX1_haveSameKey, Cond.methodLink RX0 34 ⟨"Assetmerge$Finder", "joinClusters", "(LAssetmerge$Inventory;I)V"⟩, Cond.sameMethod "Assetmerge$Finder" "Assetmerge$Finder" "joinClusters" "(LAssetmerge$Inventory;I)V", Cond.selects RX2 ⟨"Assetmerge$Finder", "joinClusters", "(LAssetmerge$Inventory;I)V"⟩ yX0_joinClusters, Cond.instanceMethod yX0_joinClusters, Cond.code yX0_joinClusters cX0_joinClusters 5 none, Cond.methodLink RX0 37 ⟨"Assetmerge$Finder", "membersOf", "(ILAssetmerge$Inventory;)I"⟩]
def wsL_law0_r18 : List Cond := [Cond.sameMethod "Assetmerge$Finder" "Assetmerge$Finder" "membersOf" "(ILAssetmerge$Inventory;)I", Cond.selects RX2 ⟨"Assetmerge$Finder", "membersOf", "(ILAssetmerge$Inventory;)I"⟩ yX0_membersOf, Cond.instanceMethod yX0_membersOf, Cond.code yX0_membersOf cX0_membersOf 5 (some .int), Cond.methodLink RX0 45 yX1_holds, Cond.selects RX3 ⟨"Assetmerge$Finder", "membersOf", "(ILAssetmerge$Inventory;)I"⟩ yX0_membersOf, Cond.methodLink RX0 41 yX1_mayJoin, Cond.instanceMethod yX1_mayJoin, Cond.selects RX1 yX1_mayJoin yX1_mayJoin, Cond.code yX1_mayJoin cX1_mayJoin 4 (some .boolean), Cond.methodLink RX1 64 yX1_haveTwoKeys, Cond.instanceMethod yX1_haveTwoKeys, Cond.selects RX1 yX1_haveTwoKeys yX1_haveTwoKeys, Cond.code yX1_haveTwoKeys cX1_haveTwoKeys 6 (some .boolean), Cond.methodLink RX1 67 yX1_haveForbiddenPair, Cond.instanceMethod yX1_haveForbiddenPair, Cond.selects RX1 yX1_haveForbiddenPair yX1_haveForbiddenPair, Cond.code yX1_haveForbiddenPair cX1_haveForbiddenPair 3 (some .boolean), Cond.selects RX3 ⟨"Assetmerge$Finder", "joinClusters", "(LAssetmerge$Inventory;I)V"⟩ yX0_joinClusters, Cond.methodLink RL 164 yX5_thing, Cond.instanceMethod yX5_thing, Cond.selects RX5 yX5_thing yX5_thing, Cond.code yX5_thing cX5_thing 2 (some .int), Cond.methodLink RX5 113 yX5_finds]
def wsL_law0_r19 : List Cond := [Cond.instanceMethod yX5_finds, Cond.selects RX5 yX5_finds yX5_finds, Cond.code yX5_finds cX5_finds 3 none, Cond.methodLink RX5 110 yX5_joins, Cond.instanceMethod yX5_joins, Cond.selects RX5 yX5_joins yX5_joins, Cond.code yX5_joins cX5_joins 4 none, Cond.methodLink RX5 103 yX5_clusters, Cond.instanceMethod yX5_clusters, Cond.selects RX5 yX5_clusters yX5_clusters, Cond.code yX5_clusters cX5_clusters 5 none, Cond.methodLink RX5 97 yX5_counts, Cond.instanceMethod yX5_counts, Cond.selects RX5 yX5_counts yX5_counts, Cond.code yX5_counts cX5_counts 2 (some .boolean), Cond.methodLink RX5 100 yX5_areLinked, Cond.instanceMethod yX5_areLinked, Cond.selects RX5 yX5_areLinked yX5_areLinked, Cond.code yX5_areLinked cX5_areLinked 4 (some .boolean), Cond.methodLink RX5 106 yX5_mayJoin, Cond.instanceMethod yX5_mayJoin, Cond.selects RX5 yX5_mayJoin yX5_mayJoin, Cond.code yX5_mayJoin cX5_mayJoin 6 (some .boolean), Cond.methodLink RL 165 yL_thingByRounds]
def wsL_law0_r20 : List Cond := [Cond.static yL_thingByRounds, Cond.codeWith yL_thingByRounds cL_thingByRounds 4 (some .int) [(0, 9, 12, 21)], Cond.methodLink RL 57 yX4_thingByRounds, Cond.instanceMethod yX4_thingByRounds, Cond.selects RX4 yX4_thingByRounds yX4_thingByRounds, Cond.code yX4_thingByRounds cX4_thingByRounds 2 (some .int), Cond.fieldLink RX4 135 "Assetmerge$Spreading" "groups" "[[I", Cond.sameField "Assetmerge$Spreading" "Assetmerge$Finder" "groups" "[[I", Cond.methodLink RX4 131 ⟨"Assetmerge$Spreading", "findGroups", "(LAssetmerge$Inventory;)V"⟩, Cond.sameMethod "Assetmerge$Spreading" "Assetmerge$Finder" "findGroups" "(LAssetmerge$Inventory;)V", Cond.selects RX3 ⟨"Assetmerge$Spreading", "findGroups", "(LAssetmerge$Inventory;)V"⟩ yX0_findGroups, Cond.methodLink RL 167 yX5_thingByRounds, Cond.instanceMethod yX5_thingByRounds, Cond.selects RX5 yX5_thingByRounds yX5_thingByRounds, Cond.code yX5_thingByRounds cX5_thingByRounds 2 (some .int), Cond.methodLink RX5 116 yX5_thing, Cond.methodLink RL 168 yX4_things, Cond.instanceMethod yX4_things, Cond.selects RX4 yX4_things yX4_things, Cond.code yX4_things cX4_things 1 (some .int), Cond.methodLink RX4 138 yX4_countThings, Cond.instanceMethod yX4_countThings, Cond.selects RX4 yX4_countThings yX4_countThings, Cond.code yX4_countThings cX4_countThings 3 (some .int)]
def wsL_law0_r21 : List Cond := [Cond.methodLink RX4 187 yX4_isThing, Cond.instanceMethod yX4_isThing, Cond.selects RX4 yX4_isThing yX4_isThing, Cond.code yX4_isThing cX4_isThing 2 (some .boolean), Cond.methodLink RX4 230 yX4_isMember, Cond.instanceMethod yX4_isMember, Cond.selects RX4 yX4_isMember yX4_isMember, Cond.code yX4_isMember cX4_isMember 3 (some .boolean), Cond.methodLink RL 171 yX5_things, Cond.instanceMethod yX5_things, Cond.selects RX5 yX5_things yX5_things, Cond.code yX5_things cX5_things 1 (some .int), Cond.methodLink RX5 119 yX5_thingMany, Cond.instanceMethod yX5_thingMany, Cond.selects RX5 yX5_thingMany yX5_thingMany, Cond.code yX5_thingMany cX5_thingMany 3 (some .int), Cond.methodLink RL 172 yL_size, Cond.static yL_size, Cond.codeWith yL_size cL_size 4 (some .int) [(0, 9, 12, 21)], Cond.methodLink RL 60 yX4_size, Cond.instanceMethod yX4_size, Cond.selects RX4 yX4_size yX4_size, Cond.code yX4_size cX4_size 2 (some .int), Cond.methodLink RX4 141 yX4_countMembers]
def wsL_law0_r22 : List Cond := [Cond.instanceMethod yX4_countMembers, Cond.selects RX4 yX4_countMembers yX4_countMembers, Cond.code yX4_countMembers cX4_countMembers 4 (some .int), Cond.methodLink RL 174 yX5_size, Cond.instanceMethod yX5_size, Cond.selects RX5 yX5_size yX5_size, Cond.code yX5_size cX5_size 4 (some .int), Cond.methodLink RX5 122 yX5_isOf, Cond.instanceMethod yX5_isOf, Cond.selects RX5 yX5_isOf yX5_isOf, Cond.code yX5_isOf cX5_isOf 3 (some .boolean), Cond.methodLink RL 175 yL_member, Cond.static yL_member, Cond.codeWith yL_member cL_member 5 (some .int) [(0, 10, 13, 21), (0, 10, 17, 46)], Cond.methodLink RL 63 yX4_member, Cond.instanceMethod yX4_member, Cond.selects RX4 yX4_member yX4_member, Cond.code yX4_member cX4_member 4 (some .int), Cond.methodLink RX4 144 yX4_findMember, Cond.instanceMethod yX4_findMember, Cond.selects RX4 yX4_findMember yX4_findMember, Cond.code yX4_findMember cX4_findMember 5 (some .int), Cond.methodLink RL 177 yX5_member, Cond.instanceMethod yX5_member]
def wsL_law0_r23 : List Cond := [Cond.selects RX5 yX5_member yX5_member, Cond.code yX5_member cX5_member 5 (some .int), Cond.methodLink RL 178 yL_areTogether, Cond.static yL_areTogether, Cond.codeWith yL_areTogether cL_areTogether 5 (some .int) [(0, 17, 20, 21)], Cond.methodLink RL 66 yX4_areTogether, Cond.instanceMethod yX4_areTogether, Cond.selects RX4 yX4_areTogether yX4_areTogether, Cond.code yX4_areTogether cX4_areTogether 3 (some .boolean), Cond.methodLink RL 180 yX5_areTogether, Cond.instanceMethod yX5_areTogether, Cond.selects RX5 yX5_areTogether yX5_areTogether, Cond.code yX5_areTogether cX5_areTogether 3 (some .boolean), Cond.methodLink RL 181 yL_step, Cond.static yL_step, Cond.codeWith yL_step cL_step 5 (some .int) [(0, 10, 13, 21), (0, 10, 17, 13), (0, 10, 21, 46)], Cond.methodLink RL 70 yX4_step, Cond.instanceMethod yX4_step, Cond.selects RX4 yX4_step yX4_step, Cond.code yX4_step cX4_step 4 (some .int), Cond.methodLink RX4 153 yX4_findStep, Cond.instanceMethod yX4_findStep, Cond.selects RX4 yX4_findStep yX4_findStep, Cond.code yX4_findStep cX4_findStep 4 (some .int)]
def wsL_law0_r24 : List Cond := [Cond.methodLink RL 183 yX5_step, Cond.instanceMethod yX5_step, Cond.selects RX5 yX5_step yX5_step, Cond.code yX5_step cX5_step 4 (some .int), Cond.methodLink RL 184 yL_shared, Cond.static yL_shared, Cond.codeWith yL_shared cL_shared 4 (some .int) [(0, 9, 12, 21)], Cond.methodLink RL 73 yX4_shared, Cond.instanceMethod yX4_shared, Cond.selects RX4 yX4_shared yX4_shared, Cond.code yX4_shared cX4_shared 4 (some .int), Cond.methodLink RX4 159 yX1_isFirstWithKey, Cond.instanceMethod yX1_isFirstWithKey, Cond.selects RX1 yX1_isFirstWithKey yX1_isFirstWithKey, Cond.code yX1_isFirstWithKey cX1_isFirstWithKey 4 (some .boolean), Cond.methodLink RX1 60 yX1_haveSameKey, Cond.methodLink RX4 162 yX4_isKeyElsewhere, Cond.instanceMethod yX4_isKeyElsewhere, Cond.selects RX4 yX4_isKeyElsewhere yX4_isKeyElsewhere, Cond.code yX4_isKeyElsewhere cX4_isKeyElsewhere 5 (some .boolean), Cond.methodLink RX4 233 yX1_haveSameKey, Cond.methodLink RL 186 yX5_shared, Cond.instanceMethod yX5_shared, Cond.selects RX5 yX5_shared yX5_shared]
def wsL_law0_r25 : List Cond := [Cond.code yX5_shared cX5_shared 4 (some .int), Cond.methodLink RX5 125 yX5_isShared, Cond.instanceMethod yX5_isShared, Cond.selects RX5 yX5_isShared yX5_isShared, Cond.code yX5_isShared cX5_isShared 5 (some .boolean), Cond.methodLink RL 187 yL_thingsWithout, Cond.static yL_thingsWithout, Cond.codeWith yL_thingsWithout cL_thingsWithout 4 (some .int) [(0, 9, 12, 21)], Cond.methodLink RL 76 yX4_thingsWithout, Cond.instanceMethod yX4_thingsWithout, Cond.selects RX4 yX4_thingsWithout yX4_thingsWithout, Cond.code yX4_thingsWithout cX4_thingsWithout 3 (some .int), Cond.methodLink RX4 165 yX1_unhide, Cond.methodLink RL 189 yX5_thingsWithout, Cond.instanceMethod yX5_thingsWithout, Cond.selects RX5 yX5_thingsWithout yX5_thingsWithout, Cond.code yX5_thingsWithout cX5_thingsWithout 3 (some .int), Cond.methodLink RL 190 yL_thingsIf, Cond.static yL_thingsIf, Cond.codeWith yL_thingsIf cL_thingsIf 6 (some .int) [(0, 12, 15, 21), (0, 12, 19, 13)], Cond.methodLink RL 79 yX4_thingsIf, Cond.instanceMethod yX4_thingsIf, Cond.selects RX4 yX4_thingsIf yX4_thingsIf, Cond.code yX4_thingsIf cX4_thingsIf 6 (some .int)]
def wsL_law0_r26 : List Cond := [Cond.methodLink RL 192 yX5_thingsIf, Cond.instanceMethod yX5_thingsIf, Cond.selects RX5 yX5_thingsIf yX5_thingsIf, Cond.code yX5_thingsIf cX5_thingsIf 6 (some .int), Cond.methodLink RX5 128 yX5_setKey, Cond.methodLink RL 193 yL_thingsIfAllowed, Cond.static yL_thingsIfAllowed, Cond.codeWith yL_thingsIfAllowed cL_thingsIfAllowed 5 (some .int) [(0, 10, 13, 21), (0, 10, 17, 46)], Cond.methodLink RL 82 yX4_thingsIfAllowed, Cond.instanceMethod yX4_thingsIfAllowed, Cond.selects RX4 yX4_thingsIfAllowed yX4_thingsIfAllowed, Cond.code yX4_thingsIfAllowed cX4_thingsIfAllowed 4 (some .int), Cond.methodLink RL 195 yX5_thingsIfAllowed, Cond.instanceMethod yX5_thingsIfAllowed, Cond.selects RX5 yX5_thingsIfAllowed yX5_thingsIfAllowed, Cond.code yX5_thingsIfAllowed cX5_thingsIfAllowed 5 (some .int), Cond.methodLink RL 196 yL_weight, Cond.static yL_weight, Cond.codeWith yL_weight cL_weight 4 (some .int) [(0, 9, 12, 21)], Cond.methodLink RL 85 yX4_weight, Cond.instanceMethod yX4_weight, Cond.selects RX4 yX4_weight yX4_weight, Cond.code yX4_weight cX4_weight 2 (some .int), Cond.methodLink RX4 168 yX1_weigh]
def wsL_law0_r27 : List Cond := [Cond.instanceMethod yX1_weigh, Cond.selects RX1 yX1_weigh yX1_weigh, Cond.code yX1_weigh cX1_weigh 3 (some .int), Cond.methodLink RL 198 yX5_weight, Cond.instanceMethod yX5_weight, Cond.selects RX5 yX5_weight yX5_weight, Cond.code yX5_weight cX5_weight 2 (some .int), Cond.methodLink RX5 132 yX5_weightOf, Cond.instanceMethod yX5_weightOf, Cond.selects RX5 yX5_weightOf yX5_weightOf, Cond.code yX5_weightOf cX5_weightOf 2 (some .int), Cond.methodLink RL 199 yL_fact, Cond.static yL_fact, Cond.codeWith yL_fact cL_fact 5 (some .int) [(0, 10, 13, 21), (0, 10, 17, 46)], Cond.methodLink RL 88 yX4_fact, Cond.instanceMethod yX4_fact, Cond.selects RX4 yX4_fact yX4_fact, Cond.code yX4_fact cX4_fact 4 (some .int), Cond.methodLink RX4 171 yX4_findFirstByOrder, Cond.instanceMethod yX4_findFirstByOrder, Cond.selects RX4 yX4_findFirstByOrder yX4_findFirstByOrder, Cond.code yX4_findFirstByOrder cX4_findFirstByOrder 5 (some .int), Cond.methodLink RX4 236 yX4_orderMembers, Cond.instanceMethod yX4_orderMembers]
def wsL_law0_r28 : List Cond := [Cond.selects RX4 yX4_orderMembers yX4_orderMembers, Cond.code yX4_orderMembers cX4_orderMembers 5 (some .int), Cond.methodLink RX4 239 yX1_isAhead, Cond.instanceMethod yX1_isAhead, Cond.selects RX1 yX1_isAhead yX1_isAhead, Cond.code yX1_isAhead cX1_isAhead 6 (some .boolean), Cond.methodLink RX1 70 yX1_weigh, Cond.methodLink RX4 174 yX4_checkFactRecord, Cond.static yX4_checkFactRecord, Cond.code yX4_checkFactRecord cX4_checkFactRecord 1 none, Cond.methodLink RL 201 yX5_fact, Cond.instanceMethod yX5_fact, Cond.selects RX5 yX5_fact yX5_fact, Cond.code yX5_fact cX5_fact 4 (some .int), Cond.methodLink RX5 138 yX5_teller, Cond.instanceMethod yX5_teller, Cond.selects RX5 yX5_teller yX5_teller, Cond.code yX5_teller cX5_teller 5 (some .int), Cond.methodLink RX5 135 yX5_isAhead, Cond.instanceMethod yX5_isAhead, Cond.selects RX5 yX5_isAhead yX5_isAhead, Cond.code yX5_isAhead cX5_isAhead 3 (some .boolean), Cond.methodLink RL 202 yL_factByPairs, Cond.static yL_factByPairs]
def wsL_law0_r29 : List Cond := [Cond.codeWith yL_factByPairs cL_factByPairs 5 (some .int) [(0, 10, 13, 21), (0, 10, 17, 46)], Cond.methodLink RL 91 yX4_factByPairs, Cond.instanceMethod yX4_factByPairs, Cond.selects RX4 yX4_factByPairs yX4_factByPairs, Cond.code yX4_factByPairs cX4_factByPairs 4 (some .int), Cond.methodLink RX4 177 yX4_findFirstByPairs, Cond.instanceMethod yX4_findFirstByPairs, Cond.selects RX4 yX4_findFirstByPairs yX4_findFirstByPairs, Cond.code yX4_findFirstByPairs cX4_findFirstByPairs 4 (some .int), Cond.methodLink RX4 180 yX4_tellsFact, Cond.instanceMethod yX4_tellsFact, Cond.selects RX4 yX4_tellsFact yX4_tellsFact, Cond.code yX4_tellsFact cX4_tellsFact 4 (some .boolean), Cond.methodLink RX4 242 yX4_isBeaten, Cond.instanceMethod yX4_isBeaten, Cond.selects RX4 yX4_isBeaten yX4_isBeaten, Cond.code yX4_isBeaten cX4_isBeaten 5 (some .boolean), Cond.methodLink RL 204 yX5_factByPairs, Cond.instanceMethod yX5_factByPairs, Cond.selects RX5 yX5_factByPairs yX5_factByPairs, Cond.code yX5_factByPairs cX5_factByPairs 3 (some .int), Cond.methodLink RX5 141 yX5_fact, Cond.methodLink RL 205 yL_factFrom, Cond.static yL_factFrom]
def wsL_law0_r30 : List Cond := [Cond.codeWith yL_factFrom cL_factFrom 5 (some .int) [(0, 10, 13, 21), (0, 10, 17, 46)], Cond.methodLink RL 94 yX4_factFrom, Cond.instanceMethod yX4_factFrom, Cond.selects RX4 yX4_factFrom yX4_factFrom, Cond.code yX4_factFrom cX4_factFrom 4 (some .int), Cond.methodLink RL 207 yX5_factFrom, Cond.instanceMethod yX5_factFrom, Cond.selects RX5 yX5_factFrom yX5_factFrom, Cond.code yX5_factFrom cX5_factFrom 4 (some .int), Cond.methodLink RL 208 yL_agreement, Cond.static yL_agreement, Cond.codeWith yL_agreement cL_agreement 5 (some .int) [(0, 10, 13, 21), (0, 10, 17, 46)], Cond.methodLink RL 97 yX4_agreement, Cond.instanceMethod yX4_agreement, Cond.selects RX4 yX4_agreement yX4_agreement, Cond.code yX4_agreement cX4_agreement 8 (some .float), Cond.methodLink RL 211 yX5_agreement, Cond.instanceMethod yX5_agreement, Cond.selects RX5 yX5_agreement yX5_agreement, Cond.code yX5_agreement cX5_agreement 8 (some .float), Cond.methodLink RL 212 yL_setLimit, Cond.static yL_setLimit, Cond.codeWith yL_setLimit cL_setLimit 4 (some .int) [(0, 9, 12, 13)], Cond.methodLink RL 101 yX4_setLimit]
def wsL_law0_r31 : List Cond := [Cond.instanceMethod yX4_setLimit, Cond.selects RX4 yX4_setLimit yX4_setLimit, Cond.code yX4_setLimit cX4_setLimit 3 (some .int), Cond.methodLink RL 214 yX5_setLimit, Cond.instanceMethod yX5_setLimit, Cond.selects RX5 yX5_setLimit yX5_setLimit, Cond.code yX5_setLimit cX5_setLimit 3 (some .int), Cond.methodLink RL 215 yL_isGhost, Cond.static yL_isGhost, Cond.codeWith yL_isGhost cL_isGhost 4 (some .int) [(0, 16, 19, 21)], Cond.methodLink RL 104 yX4_isGhost, Cond.instanceMethod yX4_isGhost, Cond.selects RX4 yX4_isGhost yX4_isGhost, Cond.code yX4_isGhost cX4_isGhost 2 (some .boolean), Cond.methodLink RX4 184 yX4_isGhostOn, Cond.instanceMethod yX4_isGhostOn, Cond.selects RX4 yX4_isGhostOn yX4_isGhostOn, Cond.code yX4_isGhostOn cX4_isGhostOn 3 (some .boolean), Cond.methodLink RX4 191 yX4_findLastSeen, Cond.instanceMethod yX4_findLastSeen, Cond.selects RX4 yX4_findLastSeen yX4_findLastSeen, Cond.code yX4_findLastSeen cX4_findLastSeen 4 (some .int), Cond.methodLink RX4 245 Lib.Math.max.name, Cond.methodLink RL 217 yX5_isGhost]
def wsL_law0_r32 : List Cond := [Cond.instanceMethod yX5_isGhost, Cond.selects RX5 yX5_isGhost yX5_isGhost, Cond.code yX5_isGhost cX5_isGhost 2 (some .boolean), Cond.methodLink RX5 149 yX5_lastOf, Cond.instanceMethod yX5_lastOf, Cond.selects RX5 yX5_lastOf yX5_lastOf, Cond.code yX5_lastOf cX5_lastOf 4 (some .int), Cond.methodLink RX5 144 Lib.Math.max.name, Cond.methodLink RL 218 yX4_ghosts, Cond.instanceMethod yX4_ghosts, Cond.selects RX4 yX4_ghosts yX4_ghosts, Cond.code yX4_ghosts cX4_ghosts 3 (some .int), Cond.methodLink RL 221 yX5_ghosts, Cond.instanceMethod yX5_ghosts, Cond.selects RX5 yX5_ghosts yX5_ghosts, Cond.code yX5_ghosts cX5_ghosts 3 (some .int), Cond.methodLink RL 222 yX4_nextGhost, Cond.instanceMethod yX4_nextGhost, Cond.selects RX4 yX4_nextGhost yX4_nextGhost, Cond.code yX4_nextGhost cX4_nextGhost 4 (some .int), Cond.methodLink RL 225 yX5_nextGhost, Cond.instanceMethod yX5_nextGhost, Cond.selects RX5 yX5_nextGhost yX5_nextGhost, Cond.code yX5_nextGhost cX5_nextGhost 4 (some .int)]
def wsL_law0_r33 : List Cond := [Cond.methodLink RL 226 yX4_nextGhostByDays, Cond.instanceMethod yX4_nextGhostByDays, Cond.selects RX4 yX4_nextGhostByDays yX4_nextGhostByDays, Cond.code yX4_nextGhostByDays cX4_nextGhostByDays 3 (some .int), Cond.methodLink RX4 194 Lib.Math.min.name, Cond.methodLink RX4 199 yX4_becomesGhostOn, Cond.instanceMethod yX4_becomesGhostOn, Cond.selects RX4 yX4_becomesGhostOn yX4_becomesGhostOn, Cond.code yX4_becomesGhostOn cX4_becomesGhostOn 3 (some .boolean), Cond.methodLink RL 229 yX5_nextGhostByDays, Cond.instanceMethod yX5_nextGhostByDays, Cond.selects RX5 yX5_nextGhostByDays yX5_nextGhostByDays, Cond.code yX5_nextGhostByDays cX5_nextGhostByDays 1 (some .int), Cond.methodLink RX5 152 yX5_nextGhost, Cond.methodLink RL 230 yL_pass, Cond.static yL_pass, Cond.codeWith yL_pass cL_pass 4 (some .int) [(0, 9, 12, 13)], Cond.methodLink RL 108 yX4_pass, Cond.instanceMethod yX4_pass, Cond.selects RX4 yX4_pass yX4_pass, Cond.code yX4_pass cX4_pass 2 (some .int), Cond.methodLink RL 232 yX5_pass, Cond.instanceMethod yX5_pass, Cond.selects RX5 yX5_pass yX5_pass]
def wsL_law0_r34 : List Cond := [Cond.code yX5_pass cX5_pass 2 (some .int), Cond.methodLink RL 233 yX4_today, Cond.instanceMethod yX4_today, Cond.selects RX4 yX4_today yX4_today, Cond.code yX4_today cX4_today 1 (some .int), Cond.methodLink RL 236 yX5_today, Cond.instanceMethod yX5_today, Cond.selects RX5 yX5_today yX5_today, Cond.code yX5_today cX5_today 1 (some .int), Cond.methodLink RL 237 yX4_mark, Cond.instanceMethod yX4_mark, Cond.selects RX4 yX4_mark yX4_mark, Cond.code yX4_mark cX4_mark 6 (some .long), Cond.methodLink RX4 202 yX4_sumMembers, Cond.instanceMethod yX4_sumMembers, Cond.selects RX4 yX4_sumMembers yX4_sumMembers, Cond.code yX4_sumMembers cX4_sumMembers 4 (some .int), Cond.methodLink RL 241 yX5_mark, Cond.instanceMethod yX5_mark, Cond.selects RX5 yX5_mark yX5_mark, Cond.code yX5_mark cX5_mark 9 (some .long)]
def wsL_law0 : List Cond := (wsL_law0_r1 ++ (wsL_law0_r2 ++ (wsL_law0_r3 ++ (wsL_law0_r4 ++ (wsL_law0_r5 ++ (wsL_law0_r6 ++ (wsL_law0_r7 ++ (wsL_law0_r8 ++ (wsL_law0_r9 ++ (wsL_law0_r10 ++ (wsL_law0_r11 ++ (wsL_law0_r12 ++ (wsL_law0_r13 ++ (wsL_law0_r14 ++ (wsL_law0_r15 ++ (wsL_law0_r16 ++ (wsL_law0_r17 ++ (wsL_law0_r18 ++ (wsL_law0_r19 ++ (wsL_law0_r20 ++ (wsL_law0_r21 ++ (wsL_law0_r22 ++ (wsL_law0_r23 ++ (wsL_law0_r24 ++ (wsL_law0_r25 ++ (wsL_law0_r26 ++ (wsL_law0_r27 ++ (wsL_law0_r28 ++ (wsL_law0_r29 ++ (wsL_law0_r30 ++ (wsL_law0_r31 ++ (wsL_law0_r32 ++ (wsL_law0_r33 ++ wsL_law0_r34))))))))))))))))))))))))))))))))) ++ wsX40 ++ wsX50 ++ wsX10 ++ wsX20 ++ wsX30 ++ ([] : List Cond)
end
section
theorem dX0_init_0 : decode cX0_init 0 = .ok (.aload_n 0, 1) := by decide +kernel
theorem dX0_init_1 : decode cX0_init 1 = .ok (.invokespecial 3, 3) := by decide +kernel
theorem dX0_init_4 : decode cX0_init 4 = .ok (.aload_n 0, 1) := by decide +kernel
theorem dX0_init_5 : decode cX0_init 5 = .ok (.iconst 3, 1) := by decide +kernel
theorem dX0_init_6 : decode cX0_init 6 = .ok (.bipush 24, 2) := by decide +kernel
theorem dX0_init_8 : decode cX0_init 8 = .ok (.multianewarray 9 2, 4) := by decide +kernel
theorem dX0_init_12 : decode cX0_init 12 = .ok (.putfield 11, 3) := by decide +kernel
theorem dX0_init_15 : decode cX0_init 15 = .ok (.aload_n 0, 1) := by decide +kernel
theorem dX0_init_16 : decode cX0_init 16 = .ok (.bipush 24, 2) := by decide +kernel
theorem dX0_init_18 : decode cX0_init 18 = .ok (.newarray .int, 2) := by decide +kernel
theorem dX0_init_20 : decode cX0_init 20 = .ok (.putfield 16, 3) := by decide +kernel
theorem dX0_init_23 : decode cX0_init 23 = .ok (.return_, 1) := by decide +kernel
theorem dX0_findGroups_0 : decode cX0_findGroups 0 = .ok (.iconst 0, 1) := by decide +kernel
theorem dX0_findGroups_1 : decode cX0_findGroups 1 = .ok (.istore_n 2, 1) := by decide +kernel
theorem dX0_findGroups_2 : decode cX0_findGroups 2 = .ok (.iload_n 2, 1) := by decide +kernel
theorem dX0_findGroups_3 : decode cX0_findGroups 3 = .ok (.iconst 3, 1) := by decide +kernel
theorem dX0_findGroups_4 : decode cX0_findGroups 4 = .ok (.if_icmp .ge 49, 3) := by decide +kernel
theorem dX0_findGroups_7 : decode cX0_findGroups 7 = .ok (.iconst 0, 1) := by decide +kernel
theorem dX0_findGroups_8 : decode cX0_findGroups 8 = .ok (.istore_n 3, 1) := by decide +kernel
theorem dX0_findGroups_9 : decode cX0_findGroups 9 = .ok (.iload_n 3, 1) := by decide +kernel
theorem dX0_findGroups_10 : decode cX0_findGroups 10 = .ok (.aload_n 1, 1) := by decide +kernel
theorem dX0_findGroups_11 : decode cX0_findGroups 11 = .ok (.getfield 20, 3) := by decide +kernel
theorem dX0_findGroups_14 : decode cX0_findGroups 14 = .ok (.if_icmp .ge 21, 3) := by decide +kernel
theorem dX0_findGroups_17 : decode cX0_findGroups 17 = .ok (.aload_n 0, 1) := by decide +kernel
theorem dX0_findGroups_18 : decode cX0_findGroups 18 = .ok (.getfield 16, 3) := by decide +kernel
theorem dX0_findGroups_21 : decode cX0_findGroups 21 = .ok (.iload_n 3, 1) := by decide +kernel
theorem dX0_findGroups_22 : decode cX0_findGroups 22 = .ok (.aload_n 0, 1) := by decide +kernel
theorem dX0_findGroups_23 : decode cX0_findGroups 23 = .ok (.iload_n 3, 1) := by decide +kernel
theorem dX0_findGroups_24 : decode cX0_findGroups 24 = .ok (.iload_n 2, 1) := by decide +kernel
theorem dX0_findGroups_25 : decode cX0_findGroups 25 = .ok (.invokevirtual 26, 3) := by decide +kernel
theorem dX0_findGroups_28 : decode cX0_findGroups 28 = .ok (.iastore, 1) := by decide +kernel
theorem dX0_findGroups_29 : decode cX0_findGroups 29 = .ok (.iinc 3 1, 3) := by decide +kernel
theorem dX0_findGroups_32 : decode cX0_findGroups 32 = .ok (.goto (-23), 3) := by decide +kernel
theorem dX0_findGroups_35 : decode cX0_findGroups 35 = .ok (.aload_n 0, 1) := by decide +kernel
theorem dX0_findGroups_36 : decode cX0_findGroups 36 = .ok (.aload_n 1, 1) := by decide +kernel
theorem dX0_findGroups_37 : decode cX0_findGroups 37 = .ok (.iload_n 2, 1) := by decide +kernel
theorem dX0_findGroups_38 : decode cX0_findGroups 38 = .ok (.invokevirtual 30, 3) := by decide +kernel
theorem dX0_findGroups_41 : decode cX0_findGroups 41 = .ok (.aload_n 0, 1) := by decide +kernel
theorem dX0_findGroups_42 : decode cX0_findGroups 42 = .ok (.aload_n 1, 1) := by decide +kernel
theorem dX0_findGroups_43 : decode cX0_findGroups 43 = .ok (.iload_n 2, 1) := by decide +kernel
theorem dX0_findGroups_44 : decode cX0_findGroups 44 = .ok (.invokevirtual 34, 3) := by decide +kernel
theorem dX0_findGroups_47 : decode cX0_findGroups 47 = .ok (.iinc 2 1, 3) := by decide +kernel
theorem dX0_findGroups_50 : decode cX0_findGroups 50 = .ok (.goto (-48), 3) := by decide +kernel
theorem dX0_findGroups_53 : decode cX0_findGroups 53 = .ok (.return_, 1) := by decide +kernel
theorem dX0_groupBefore_0 : decode cX0_groupBefore 0 = .ok (.iload_n 2, 1) := by decide +kernel
theorem dX0_groupBefore_1 : decode cX0_groupBefore 1 = .ok (.ifCond .le 16, 3) := by decide +kernel
theorem dX0_groupBefore_4 : decode cX0_groupBefore 4 = .ok (.aload_n 0, 1) := by decide +kernel
theorem dX0_groupBefore_5 : decode cX0_groupBefore 5 = .ok (.getfield 11, 3) := by decide +kernel
theorem dX0_groupBefore_8 : decode cX0_groupBefore 8 = .ok (.iload_n 2, 1) := by decide +kernel
theorem dX0_groupBefore_9 : decode cX0_groupBefore 9 = .ok (.iconst 1, 1) := by decide +kernel
theorem dX0_groupBefore_10 : decode cX0_groupBefore 10 = .ok (.isub, 1) := by decide +kernel
theorem dX0_groupBefore_11 : decode cX0_groupBefore 11 = .ok (.aaload, 1) := by decide +kernel
theorem dX0_groupBefore_12 : decode cX0_groupBefore 12 = .ok (.iload_n 1, 1) := by decide +kernel
theorem dX0_groupBefore_13 : decode cX0_groupBefore 13 = .ok (.iaload, 1) := by decide +kernel
theorem dX0_groupBefore_14 : decode cX0_groupBefore 14 = .ok (.goto 4, 3) := by decide +kernel
theorem dX0_groupBefore_17 : decode cX0_groupBefore 17 = .ok (.iload_n 1, 1) := by decide +kernel
theorem dX0_groupBefore_18 : decode cX0_groupBefore 18 = .ok (.ireturn, 1) := by decide +kernel
theorem dX0_joinClusters_0 : decode cX0_joinClusters 0 = .ok (.iconst 0, 1) := by decide +kernel
theorem dX0_joinClusters_1 : decode cX0_joinClusters 1 = .ok (.istore_n 3, 1) := by decide +kernel
theorem dX0_joinClusters_2 : decode cX0_joinClusters 2 = .ok (.iload_n 3, 1) := by decide +kernel
theorem dX0_joinClusters_3 : decode cX0_joinClusters 3 = .ok (.aload_n 1, 1) := by decide +kernel
theorem dX0_joinClusters_4 : decode cX0_joinClusters 4 = .ok (.getfield 20, 3) := by decide +kernel
theorem dX0_joinClusters_7 : decode cX0_joinClusters 7 = .ok (.if_icmp .ge 55, 3) := by decide +kernel
theorem dX0_joinClusters_10 : decode cX0_joinClusters 10 = .ok (.aload_n 1, 1) := by decide +kernel
theorem dX0_joinClusters_11 : decode cX0_joinClusters 11 = .ok (.aload_n 0, 1) := by decide +kernel
theorem dX0_joinClusters_12 : decode cX0_joinClusters 12 = .ok (.aload_n 0, 1) := by decide +kernel
theorem dX0_joinClusters_13 : decode cX0_joinClusters 13 = .ok (.getfield 16, 3) := by decide +kernel
theorem dX0_joinClusters_16 : decode cX0_joinClusters 16 = .ok (.iload_n 3, 1) := by decide +kernel
theorem dX0_joinClusters_17 : decode cX0_joinClusters 17 = .ok (.iaload, 1) := by decide +kernel
theorem dX0_joinClusters_18 : decode cX0_joinClusters 18 = .ok (.aload_n 1, 1) := by decide +kernel
theorem dX0_joinClusters_19 : decode cX0_joinClusters 19 = .ok (.invokevirtual 37, 3) := by decide +kernel
theorem dX0_joinClusters_22 : decode cX0_joinClusters 22 = .ok (.iload_n 2, 1) := by decide +kernel
theorem dX0_joinClusters_23 : decode cX0_joinClusters 23 = .ok (.invokevirtual 41, 3) := by decide +kernel
theorem dX0_joinClusters_26 : decode cX0_joinClusters 26 = .ok (.istore 4, 2) := by decide +kernel
theorem dX0_joinClusters_28 : decode cX0_joinClusters 28 = .ok (.aload_n 0, 1) := by decide +kernel
theorem dX0_joinClusters_29 : decode cX0_joinClusters 29 = .ok (.getfield 11, 3) := by decide +kernel
theorem dX0_joinClusters_32 : decode cX0_joinClusters 32 = .ok (.iload_n 2, 1) := by decide +kernel
theorem dX0_joinClusters_33 : decode cX0_joinClusters 33 = .ok (.aaload, 1) := by decide +kernel
theorem dX0_joinClusters_34 : decode cX0_joinClusters 34 = .ok (.iload_n 3, 1) := by decide +kernel
theorem dX0_joinClusters_35 : decode cX0_joinClusters 35 = .ok (.iload 4, 2) := by decide +kernel
theorem dX0_joinClusters_37 : decode cX0_joinClusters 37 = .ok (.ifCond .eq 12, 3) := by decide +kernel
theorem dX0_joinClusters_40 : decode cX0_joinClusters 40 = .ok (.aload_n 0, 1) := by decide +kernel
theorem dX0_joinClusters_41 : decode cX0_joinClusters 41 = .ok (.getfield 16, 3) := by decide +kernel
theorem dX0_joinClusters_44 : decode cX0_joinClusters 44 = .ok (.iload_n 3, 1) := by decide +kernel
theorem dX0_joinClusters_45 : decode cX0_joinClusters 45 = .ok (.iaload, 1) := by decide +kernel
theorem dX0_joinClusters_46 : decode cX0_joinClusters 46 = .ok (.goto 9, 3) := by decide +kernel
theorem dX0_joinClusters_49 : decode cX0_joinClusters 49 = .ok (.aload_n 0, 1) := by decide +kernel
theorem dX0_joinClusters_50 : decode cX0_joinClusters 50 = .ok (.iload_n 3, 1) := by decide +kernel
theorem dX0_joinClusters_51 : decode cX0_joinClusters 51 = .ok (.iload_n 2, 1) := by decide +kernel
theorem dX0_joinClusters_52 : decode cX0_joinClusters 52 = .ok (.invokevirtual 26, 3) := by decide +kernel
theorem dX0_joinClusters_55 : decode cX0_joinClusters 55 = .ok (.iastore, 1) := by decide +kernel
theorem dX0_joinClusters_56 : decode cX0_joinClusters 56 = .ok (.iinc 3 1, 3) := by decide +kernel
theorem dX0_joinClusters_59 : decode cX0_joinClusters 59 = .ok (.goto (-57), 3) := by decide +kernel
theorem dX0_joinClusters_62 : decode cX0_joinClusters 62 = .ok (.return_, 1) := by decide +kernel
theorem dX0_membersOf_0 : decode cX0_membersOf 0 = .ok (.iconst 0, 1) := by decide +kernel
theorem dX0_membersOf_1 : decode cX0_membersOf 1 = .ok (.istore_n 3, 1) := by decide +kernel
theorem dX0_membersOf_2 : decode cX0_membersOf 2 = .ok (.iconst 0, 1) := by decide +kernel
theorem dX0_membersOf_3 : decode cX0_membersOf 3 = .ok (.istore 4, 2) := by decide +kernel
theorem dX0_membersOf_5 : decode cX0_membersOf 5 = .ok (.iload 4, 2) := by decide +kernel
theorem dX0_membersOf_7 : decode cX0_membersOf 7 = .ok (.aload_n 2, 1) := by decide +kernel
theorem dX0_membersOf_8 : decode cX0_membersOf 8 = .ok (.getfield 20, 3) := by decide +kernel
theorem dX0_membersOf_11 : decode cX0_membersOf 11 = .ok (.if_icmp .ge 36, 3) := by decide +kernel
theorem dX0_membersOf_14 : decode cX0_membersOf 14 = .ok (.aload_n 2, 1) := by decide +kernel
theorem dX0_membersOf_15 : decode cX0_membersOf 15 = .ok (.iload 4, 2) := by decide +kernel
theorem dX0_membersOf_17 : decode cX0_membersOf 17 = .ok (.invokevirtual 45, 3) := by decide +kernel
theorem dX0_membersOf_20 : decode cX0_membersOf 20 = .ok (.ifCond .eq 21, 3) := by decide +kernel
theorem dX0_membersOf_23 : decode cX0_membersOf 23 = .ok (.aload_n 0, 1) := by decide +kernel
theorem dX0_membersOf_24 : decode cX0_membersOf 24 = .ok (.getfield 16, 3) := by decide +kernel
theorem dX0_membersOf_27 : decode cX0_membersOf 27 = .ok (.iload 4, 2) := by decide +kernel
theorem dX0_membersOf_29 : decode cX0_membersOf 29 = .ok (.iaload, 1) := by decide +kernel
theorem dX0_membersOf_30 : decode cX0_membersOf 30 = .ok (.iload_n 1, 1) := by decide +kernel
theorem dX0_membersOf_31 : decode cX0_membersOf 31 = .ok (.if_icmp .ne 10, 3) := by decide +kernel
theorem dX0_membersOf_34 : decode cX0_membersOf 34 = .ok (.iload_n 3, 1) := by decide +kernel
theorem dX0_membersOf_35 : decode cX0_membersOf 35 = .ok (.iconst 1, 1) := by decide +kernel
theorem dX0_membersOf_36 : decode cX0_membersOf 36 = .ok (.iload 4, 2) := by decide +kernel
theorem dX0_membersOf_38 : decode cX0_membersOf 38 = .ok (.ishl, 1) := by decide +kernel
theorem dX0_membersOf_39 : decode cX0_membersOf 39 = .ok (.ior, 1) := by decide +kernel
theorem dX0_membersOf_40 : decode cX0_membersOf 40 = .ok (.istore_n 3, 1) := by decide +kernel
theorem dX0_membersOf_41 : decode cX0_membersOf 41 = .ok (.iinc 4 1, 3) := by decide +kernel
theorem dX0_membersOf_44 : decode cX0_membersOf 44 = .ok (.goto (-39), 3) := by decide +kernel
theorem dX0_membersOf_47 : decode cX0_membersOf 47 = .ok (.iload_n 3, 1) := by decide +kernel
theorem dX0_membersOf_48 : decode cX0_membersOf 48 = .ok (.ireturn, 1) := by decide +kernel
theorem dX1_init_0 : decode cX1_init 0 = .ok (.aload_n 0, 1) := by decide +kernel
theorem dX1_init_1 : decode cX1_init 1 = .ok (.invokespecial 3, 3) := by decide +kernel
theorem dX1_init_4 : decode cX1_init 4 = .ok (.aload_n 0, 1) := by decide +kernel
theorem dX1_init_5 : decode cX1_init 5 = .ok (.iconst 4, 1) := by decide +kernel
theorem dX1_init_6 : decode cX1_init 6 = .ok (.newarray .int, 2) := by decide +kernel
theorem dX1_init_8 : decode cX1_init 8 = .ok (.putfield 9, 3) := by decide +kernel
theorem dX1_init_11 : decode cX1_init 11 = .ok (.aload_n 0, 1) := by decide +kernel
theorem dX1_init_12 : decode cX1_init 12 = .ok (.bipush 24, 2) := by decide +kernel
theorem dX1_init_14 : decode cX1_init 14 = .ok (.newarray .int, 2) := by decide +kernel
theorem dX1_init_16 : decode cX1_init 16 = .ok (.putfield 15, 3) := by decide +kernel
theorem dX1_init_19 : decode cX1_init 19 = .ok (.aload_n 0, 1) := by decide +kernel
theorem dX1_init_20 : decode cX1_init 20 = .ok (.bipush 24, 2) := by decide +kernel
theorem dX1_init_22 : decode cX1_init 22 = .ok (.newarray .int, 2) := by decide +kernel
theorem dX1_init_24 : decode cX1_init 24 = .ok (.putfield 18, 3) := by decide +kernel
theorem dX1_init_27 : decode cX1_init 27 = .ok (.aload_n 0, 1) := by decide +kernel
theorem dX1_init_28 : decode cX1_init 28 = .ok (.iconst 3, 1) := by decide +kernel
theorem dX1_init_29 : decode cX1_init 29 = .ok (.bipush 24, 2) := by decide +kernel
theorem dX1_init_31 : decode cX1_init 31 = .ok (.multianewarray 21 2, 4) := by decide +kernel
theorem dX1_init_35 : decode cX1_init 35 = .ok (.putfield 23, 3) := by decide +kernel
theorem dX1_init_38 : decode cX1_init 38 = .ok (.aload_n 0, 1) := by decide +kernel
theorem dX1_init_39 : decode cX1_init 39 = .ok (.iconst 3, 1) := by decide +kernel
theorem dX1_init_40 : decode cX1_init 40 = .ok (.bipush 24, 2) := by decide +kernel
theorem dX1_init_42 : decode cX1_init 42 = .ok (.multianewarray 21 2, 4) := by decide +kernel
theorem dX1_init_46 : decode cX1_init 46 = .ok (.putfield 26, 3) := by decide +kernel
theorem dX1_init_49 : decode cX1_init 49 = .ok (.aload_n 0, 1) := by decide +kernel
theorem dX1_init_50 : decode cX1_init 50 = .ok (.bipush 24, 2) := by decide +kernel
theorem dX1_init_52 : decode cX1_init 52 = .ok (.newarray .int, 2) := by decide +kernel
theorem dX1_init_54 : decode cX1_init 54 = .ok (.putfield 29, 3) := by decide +kernel
theorem dX1_init_57 : decode cX1_init 57 = .ok (.return_, 1) := by decide +kernel
theorem dX1_putSource_0 : decode cX1_putSource 0 = .ok (.aload_n 0, 1) := by decide +kernel
theorem dX1_putSource_1 : decode cX1_putSource 1 = .ok (.getfield 32, 3) := by decide +kernel
theorem dX1_putSource_4 : decode cX1_putSource 4 = .ok (.istore_n 2, 1) := by decide +kernel
theorem dX1_putSource_5 : decode cX1_putSource 5 = .ok (.aload_n 0, 1) := by decide +kernel
theorem dX1_putSource_6 : decode cX1_putSource 6 = .ok (.getfield 9, 3) := by decide +kernel
theorem dX1_putSource_9 : decode cX1_putSource 9 = .ok (.iload_n 2, 1) := by decide +kernel
theorem dX1_putSource_10 : decode cX1_putSource 10 = .ok (.iload_n 1, 1) := by decide +kernel
theorem dX1_putSource_11 : decode cX1_putSource 11 = .ok (.iastore, 1) := by decide +kernel
theorem dX1_putSource_12 : decode cX1_putSource 12 = .ok (.aload_n 0, 1) := by decide +kernel
theorem dX1_putSource_13 : decode cX1_putSource 13 = .ok (.dup, 1) := by decide +kernel
theorem dX1_putSource_14 : decode cX1_putSource 14 = .ok (.getfield 32, 3) := by decide +kernel
theorem dX1_putSource_17 : decode cX1_putSource 17 = .ok (.iconst 1, 1) := by decide +kernel
theorem dX1_putSource_18 : decode cX1_putSource 18 = .ok (.iadd, 1) := by decide +kernel
theorem dX1_putSource_19 : decode cX1_putSource 19 = .ok (.putfield 32, 3) := by decide +kernel
theorem dX1_putSource_22 : decode cX1_putSource 22 = .ok (.iload_n 2, 1) := by decide +kernel
theorem dX1_putSource_23 : decode cX1_putSource 23 = .ok (.ireturn, 1) := by decide +kernel
theorem dX1_putRecord_0 : decode cX1_putRecord 0 = .ok (.aload_n 0, 1) := by decide +kernel
theorem dX1_putRecord_1 : decode cX1_putRecord 1 = .ok (.getfield 36, 3) := by decide +kernel
theorem dX1_putRecord_4 : decode cX1_putRecord 4 = .ok (.istore_n 3, 1) := by decide +kernel
theorem dX1_putRecord_5 : decode cX1_putRecord 5 = .ok (.aload_n 0, 1) := by decide +kernel
theorem dX1_putRecord_6 : decode cX1_putRecord 6 = .ok (.getfield 15, 3) := by decide +kernel
theorem dX1_putRecord_9 : decode cX1_putRecord 9 = .ok (.iload_n 3, 1) := by decide +kernel
theorem dX1_putRecord_10 : decode cX1_putRecord 10 = .ok (.iload_n 1, 1) := by decide +kernel
theorem dX1_putRecord_11 : decode cX1_putRecord 11 = .ok (.iastore, 1) := by decide +kernel
theorem dX1_putRecord_12 : decode cX1_putRecord 12 = .ok (.aload_n 0, 1) := by decide +kernel
theorem dX1_putRecord_13 : decode cX1_putRecord 13 = .ok (.getfield 18, 3) := by decide +kernel
theorem dX1_putRecord_16 : decode cX1_putRecord 16 = .ok (.iload_n 3, 1) := by decide +kernel
theorem dX1_putRecord_17 : decode cX1_putRecord 17 = .ok (.iload_n 2, 1) := by decide +kernel
theorem dX1_putRecord_18 : decode cX1_putRecord 18 = .ok (.iastore, 1) := by decide +kernel
theorem dX1_putRecord_19 : decode cX1_putRecord 19 = .ok (.iconst 0, 1) := by decide +kernel
theorem dX1_putRecord_20 : decode cX1_putRecord 20 = .ok (.istore 4, 2) := by decide +kernel
theorem dX1_putRecord_22 : decode cX1_putRecord 22 = .ok (.iload 4, 2) := by decide +kernel
theorem dX1_putRecord_24 : decode cX1_putRecord 24 = .ok (.iconst 3, 1) := by decide +kernel
theorem dX1_putRecord_25 : decode cX1_putRecord 25 = .ok (.if_icmp .ge 19, 3) := by decide +kernel
theorem dX1_putRecord_28 : decode cX1_putRecord 28 = .ok (.aload_n 0, 1) := by decide +kernel
theorem dX1_putRecord_29 : decode cX1_putRecord 29 = .ok (.getfield 26, 3) := by decide +kernel
theorem dX1_putRecord_32 : decode cX1_putRecord 32 = .ok (.iload 4, 2) := by decide +kernel
theorem dX1_putRecord_34 : decode cX1_putRecord 34 = .ok (.aaload, 1) := by decide +kernel
theorem dX1_putRecord_35 : decode cX1_putRecord 35 = .ok (.iload_n 3, 1) := by decide +kernel
theorem dX1_putRecord_36 : decode cX1_putRecord 36 = .ok (.iconst (-1), 1) := by decide +kernel
theorem dX1_putRecord_37 : decode cX1_putRecord 37 = .ok (.iastore, 1) := by decide +kernel
theorem dX1_putRecord_38 : decode cX1_putRecord 38 = .ok (.iinc 4 1, 3) := by decide +kernel
theorem dX1_putRecord_41 : decode cX1_putRecord 41 = .ok (.goto (-19), 3) := by decide +kernel
theorem dX1_putRecord_44 : decode cX1_putRecord 44 = .ok (.aload_n 0, 1) := by decide +kernel
theorem dX1_putRecord_45 : decode cX1_putRecord 45 = .ok (.dup, 1) := by decide +kernel
theorem dX1_putRecord_46 : decode cX1_putRecord 46 = .ok (.getfield 36, 3) := by decide +kernel
theorem dX1_putRecord_49 : decode cX1_putRecord 49 = .ok (.iconst 1, 1) := by decide +kernel
theorem dX1_putRecord_50 : decode cX1_putRecord 50 = .ok (.iadd, 1) := by decide +kernel
theorem dX1_putRecord_51 : decode cX1_putRecord 51 = .ok (.putfield 36, 3) := by decide +kernel
theorem dX1_putRecord_54 : decode cX1_putRecord 54 = .ok (.aload_n 0, 1) := by decide +kernel
theorem dX1_putRecord_55 : decode cX1_putRecord 55 = .ok (.iload_n 3, 1) := by decide +kernel
theorem dX1_putRecord_56 : decode cX1_putRecord 56 = .ok (.invokevirtual 39, 3) := by decide +kernel
theorem dX1_putRecord_59 : decode cX1_putRecord 59 = .ok (.iload_n 3, 1) := by decide +kernel
theorem dX1_putRecord_60 : decode cX1_putRecord 60 = .ok (.ireturn, 1) := by decide +kernel
theorem dX1_hide_0 : decode cX1_hide 0 = .ok (.aload_n 0, 1) := by decide +kernel
theorem dX1_hide_1 : decode cX1_hide 1 = .ok (.dup, 1) := by decide +kernel
theorem dX1_hide_2 : decode cX1_hide 2 = .ok (.getfield 43, 3) := by decide +kernel
theorem dX1_hide_5 : decode cX1_hide 5 = .ok (.iconst 1, 1) := by decide +kernel
theorem dX1_hide_6 : decode cX1_hide 6 = .ok (.iload_n 1, 1) := by decide +kernel
theorem dX1_hide_7 : decode cX1_hide 7 = .ok (.ishl, 1) := by decide +kernel
theorem dX1_hide_8 : decode cX1_hide 8 = .ok (.iconst (-1), 1) := by decide +kernel
theorem dX1_hide_9 : decode cX1_hide 9 = .ok (.ixor, 1) := by decide +kernel
theorem dX1_hide_10 : decode cX1_hide 10 = .ok (.iand, 1) := by decide +kernel
theorem dX1_hide_11 : decode cX1_hide 11 = .ok (.putfield 43, 3) := by decide +kernel
theorem dX1_hide_14 : decode cX1_hide 14 = .ok (.return_, 1) := by decide +kernel
theorem dX1_unhide_0 : decode cX1_unhide 0 = .ok (.aload_n 0, 1) := by decide +kernel
theorem dX1_unhide_1 : decode cX1_unhide 1 = .ok (.dup, 1) := by decide +kernel
theorem dX1_unhide_2 : decode cX1_unhide 2 = .ok (.getfield 43, 3) := by decide +kernel
theorem dX1_unhide_5 : decode cX1_unhide 5 = .ok (.iconst 1, 1) := by decide +kernel
theorem dX1_unhide_6 : decode cX1_unhide 6 = .ok (.iload_n 1, 1) := by decide +kernel
theorem dX1_unhide_7 : decode cX1_unhide 7 = .ok (.ishl, 1) := by decide +kernel
theorem dX1_unhide_8 : decode cX1_unhide 8 = .ok (.ior, 1) := by decide +kernel
theorem dX1_unhide_9 : decode cX1_unhide 9 = .ok (.putfield 43, 3) := by decide +kernel
theorem dX1_unhide_12 : decode cX1_unhide 12 = .ok (.return_, 1) := by decide +kernel
theorem dX1_holds_0 : decode cX1_holds 0 = .ok (.iload_n 1, 1) := by decide +kernel
theorem dX1_holds_1 : decode cX1_holds 1 = .ok (.ifCond .lt 26, 3) := by decide +kernel
theorem dX1_holds_4 : decode cX1_holds 4 = .ok (.iload_n 1, 1) := by decide +kernel
theorem dX1_holds_5 : decode cX1_holds 5 = .ok (.aload_n 0, 1) := by decide +kernel
theorem dX1_holds_6 : decode cX1_holds 6 = .ok (.getfield 36, 3) := by decide +kernel
theorem dX1_holds_9 : decode cX1_holds 9 = .ok (.if_icmp .ge 18, 3) := by decide +kernel
theorem dX1_holds_12 : decode cX1_holds 12 = .ok (.iload_n 1, 1) := by decide +kernel
theorem dX1_holds_13 : decode cX1_holds 13 = .ok (.aload_n 0, 1) := by decide +kernel
theorem dX1_holds_14 : decode cX1_holds 14 = .ok (.getfield 43, 3) := by decide +kernel
theorem dX1_holds_17 : decode cX1_holds 17 = .ok (.invokestatic 46, 3) := by decide +kernel
theorem dX1_holds_20 : decode cX1_holds 20 = .ok (.ifCond .eq 7, 3) := by decide +kernel
theorem dX1_holds_23 : decode cX1_holds 23 = .ok (.iconst 1, 1) := by decide +kernel
theorem dX1_holds_24 : decode cX1_holds 24 = .ok (.goto 4, 3) := by decide +kernel
theorem dX1_holds_27 : decode cX1_holds 27 = .ok (.iconst 0, 1) := by decide +kernel
theorem dX1_holds_28 : decode cX1_holds 28 = .ok (.ireturn, 1) := by decide +kernel
theorem dX1_isIn_0 : decode cX1_isIn 0 = .ok (.iload_n 1, 1) := by decide +kernel
theorem dX1_isIn_1 : decode cX1_isIn 1 = .ok (.iload_n 0, 1) := by decide +kernel
theorem dX1_isIn_2 : decode cX1_isIn 2 = .ok (.ishr, 1) := by decide +kernel
theorem dX1_isIn_3 : decode cX1_isIn 3 = .ok (.iconst 1, 1) := by decide +kernel
theorem dX1_isIn_4 : decode cX1_isIn 4 = .ok (.iand, 1) := by decide +kernel
theorem dX1_isIn_5 : decode cX1_isIn 5 = .ok (.ifCond .eq 7, 3) := by decide +kernel
theorem dX1_isIn_8 : decode cX1_isIn 8 = .ok (.iconst 1, 1) := by decide +kernel
theorem dX1_isIn_9 : decode cX1_isIn 9 = .ok (.goto 4, 3) := by decide +kernel
theorem dX1_isIn_12 : decode cX1_isIn 12 = .ok (.iconst 0, 1) := by decide +kernel
theorem dX1_isIn_13 : decode cX1_isIn 13 = .ok (.ireturn, 1) := by decide +kernel
theorem dX1_countRecords_0 : decode cX1_countRecords 0 = .ok (.aload_n 0, 1) := by decide +kernel
theorem dX1_countRecords_1 : decode cX1_countRecords 1 = .ok (.getfield 43, 3) := by decide +kernel
theorem dX1_countRecords_4 : decode cX1_countRecords 4 = .ok (.invokestatic 50, 3) := by decide +kernel
theorem dX1_countRecords_7 : decode cX1_countRecords 7 = .ok (.ireturn, 1) := by decide +kernel
theorem dX1_part_0 : decode cX1_part 0 = .ok (.aload_n 0, 1) := by decide +kernel
theorem dX1_part_1 : decode cX1_part 1 = .ok (.getfield 29, 3) := by decide +kernel
theorem dX1_part_4 : decode cX1_part 4 = .ok (.iload_n 1, 1) := by decide +kernel
theorem dX1_part_5 : decode cX1_part 5 = .ok (.dup2, 1) := by decide +kernel
theorem dX1_part_6 : decode cX1_part 6 = .ok (.iaload, 1) := by decide +kernel
theorem dX1_part_7 : decode cX1_part 7 = .ok (.iconst 1, 1) := by decide +kernel
theorem dX1_part_8 : decode cX1_part 8 = .ok (.iload_n 2, 1) := by decide +kernel
theorem dX1_part_9 : decode cX1_part 9 = .ok (.ishl, 1) := by decide +kernel
theorem dX1_part_10 : decode cX1_part 10 = .ok (.ior, 1) := by decide +kernel
theorem dX1_part_11 : decode cX1_part 11 = .ok (.iastore, 1) := by decide +kernel
theorem dX1_part_12 : decode cX1_part 12 = .ok (.aload_n 0, 1) := by decide +kernel
theorem dX1_part_13 : decode cX1_part 13 = .ok (.getfield 29, 3) := by decide +kernel
theorem dX1_part_16 : decode cX1_part 16 = .ok (.iload_n 2, 1) := by decide +kernel
theorem dX1_part_17 : decode cX1_part 17 = .ok (.dup2, 1) := by decide +kernel
theorem dX1_part_18 : decode cX1_part 18 = .ok (.iaload, 1) := by decide +kernel
theorem dX1_part_19 : decode cX1_part 19 = .ok (.iconst 1, 1) := by decide +kernel
theorem dX1_part_20 : decode cX1_part 20 = .ok (.iload_n 1, 1) := by decide +kernel
theorem dX1_part_21 : decode cX1_part 21 = .ok (.ishl, 1) := by decide +kernel
theorem dX1_part_22 : decode cX1_part 22 = .ok (.ior, 1) := by decide +kernel
theorem dX1_part_23 : decode cX1_part 23 = .ok (.iastore, 1) := by decide +kernel
theorem dX1_part_24 : decode cX1_part 24 = .ok (.return_, 1) := by decide +kernel
theorem dX1_unpart_0 : decode cX1_unpart 0 = .ok (.aload_n 0, 1) := by decide +kernel
theorem dX1_unpart_1 : decode cX1_unpart 1 = .ok (.getfield 29, 3) := by decide +kernel
theorem dX1_unpart_4 : decode cX1_unpart 4 = .ok (.iload_n 1, 1) := by decide +kernel
theorem dX1_unpart_5 : decode cX1_unpart 5 = .ok (.dup2, 1) := by decide +kernel
theorem dX1_unpart_6 : decode cX1_unpart 6 = .ok (.iaload, 1) := by decide +kernel
theorem dX1_unpart_7 : decode cX1_unpart 7 = .ok (.iconst 1, 1) := by decide +kernel
theorem dX1_unpart_8 : decode cX1_unpart 8 = .ok (.iload_n 2, 1) := by decide +kernel
theorem dX1_unpart_9 : decode cX1_unpart 9 = .ok (.ishl, 1) := by decide +kernel
theorem dX1_unpart_10 : decode cX1_unpart 10 = .ok (.iconst (-1), 1) := by decide +kernel
theorem dX1_unpart_11 : decode cX1_unpart 11 = .ok (.ixor, 1) := by decide +kernel
theorem dX1_unpart_12 : decode cX1_unpart 12 = .ok (.iand, 1) := by decide +kernel
theorem dX1_unpart_13 : decode cX1_unpart 13 = .ok (.iastore, 1) := by decide +kernel
theorem dX1_unpart_14 : decode cX1_unpart 14 = .ok (.aload_n 0, 1) := by decide +kernel
theorem dX1_unpart_15 : decode cX1_unpart 15 = .ok (.getfield 29, 3) := by decide +kernel
theorem dX1_unpart_18 : decode cX1_unpart 18 = .ok (.iload_n 2, 1) := by decide +kernel
theorem dX1_unpart_19 : decode cX1_unpart 19 = .ok (.dup2, 1) := by decide +kernel
theorem dX1_unpart_20 : decode cX1_unpart 20 = .ok (.iaload, 1) := by decide +kernel
theorem dX1_unpart_21 : decode cX1_unpart 21 = .ok (.iconst 1, 1) := by decide +kernel
theorem dX1_unpart_22 : decode cX1_unpart 22 = .ok (.iload_n 1, 1) := by decide +kernel
theorem dX1_unpart_23 : decode cX1_unpart 23 = .ok (.ishl, 1) := by decide +kernel
theorem dX1_unpart_24 : decode cX1_unpart 24 = .ok (.iconst (-1), 1) := by decide +kernel
theorem dX1_unpart_25 : decode cX1_unpart 25 = .ok (.ixor, 1) := by decide +kernel
theorem dX1_unpart_26 : decode cX1_unpart 26 = .ok (.iand, 1) := by decide +kernel
theorem dX1_unpart_27 : decode cX1_unpart 27 = .ok (.iastore, 1) := by decide +kernel
theorem dX1_unpart_28 : decode cX1_unpart 28 = .ok (.return_, 1) := by decide +kernel
theorem dX1_isForbidden_0 : decode cX1_isForbidden 0 = .ok (.iload_n 2, 1) := by decide +kernel
theorem dX1_isForbidden_1 : decode cX1_isForbidden 1 = .ok (.aload_n 0, 1) := by decide +kernel
theorem dX1_isForbidden_2 : decode cX1_isForbidden 2 = .ok (.getfield 29, 3) := by decide +kernel
theorem dX1_isForbidden_5 : decode cX1_isForbidden 5 = .ok (.iload_n 1, 1) := by decide +kernel
theorem dX1_isForbidden_6 : decode cX1_isForbidden 6 = .ok (.iaload, 1) := by decide +kernel
theorem dX1_isForbidden_7 : decode cX1_isForbidden 7 = .ok (.invokestatic 46, 3) := by decide +kernel
theorem dX1_isForbidden_10 : decode cX1_isForbidden 10 = .ok (.ireturn, 1) := by decide +kernel
theorem dX1_countPairs_0 : decode cX1_countPairs 0 = .ok (.iconst 0, 1) := by decide +kernel
theorem dX1_countPairs_1 : decode cX1_countPairs 1 = .ok (.istore_n 1, 1) := by decide +kernel
theorem dX1_countPairs_2 : decode cX1_countPairs 2 = .ok (.iconst 0, 1) := by decide +kernel
theorem dX1_countPairs_3 : decode cX1_countPairs 3 = .ok (.istore_n 2, 1) := by decide +kernel
theorem dX1_countPairs_4 : decode cX1_countPairs 4 = .ok (.iload_n 2, 1) := by decide +kernel
theorem dX1_countPairs_5 : decode cX1_countPairs 5 = .ok (.aload_n 0, 1) := by decide +kernel
theorem dX1_countPairs_6 : decode cX1_countPairs 6 = .ok (.getfield 36, 3) := by decide +kernel
theorem dX1_countPairs_9 : decode cX1_countPairs 9 = .ok (.if_icmp .ge 34, 3) := by decide +kernel
theorem dX1_countPairs_12 : decode cX1_countPairs 12 = .ok (.aload_n 0, 1) := by decide +kernel
theorem dX1_countPairs_13 : decode cX1_countPairs 13 = .ok (.iload_n 2, 1) := by decide +kernel
theorem dX1_countPairs_14 : decode cX1_countPairs 14 = .ok (.invokevirtual 56, 3) := by decide +kernel
theorem dX1_countPairs_17 : decode cX1_countPairs 17 = .ok (.ifCond .eq 20, 3) := by decide +kernel
theorem dX1_countPairs_20 : decode cX1_countPairs 20 = .ok (.iload_n 1, 1) := by decide +kernel
theorem dX1_countPairs_21 : decode cX1_countPairs 21 = .ok (.aload_n 0, 1) := by decide +kernel
theorem dX1_countPairs_22 : decode cX1_countPairs 22 = .ok (.getfield 29, 3) := by decide +kernel
theorem dX1_countPairs_25 : decode cX1_countPairs 25 = .ok (.iload_n 2, 1) := by decide +kernel
theorem dX1_countPairs_26 : decode cX1_countPairs 26 = .ok (.iaload, 1) := by decide +kernel
theorem dX1_countPairs_27 : decode cX1_countPairs 27 = .ok (.aload_n 0, 1) := by decide +kernel
theorem dX1_countPairs_28 : decode cX1_countPairs 28 = .ok (.getfield 43, 3) := by decide +kernel
theorem dX1_countPairs_31 : decode cX1_countPairs 31 = .ok (.iand, 1) := by decide +kernel
theorem dX1_countPairs_32 : decode cX1_countPairs 32 = .ok (.invokestatic 50, 3) := by decide +kernel
theorem dX1_countPairs_35 : decode cX1_countPairs 35 = .ok (.iadd, 1) := by decide +kernel
theorem dX1_countPairs_36 : decode cX1_countPairs 36 = .ok (.istore_n 1, 1) := by decide +kernel
theorem dX1_countPairs_37 : decode cX1_countPairs 37 = .ok (.iinc 2 1, 3) := by decide +kernel
theorem dX1_countPairs_40 : decode cX1_countPairs 40 = .ok (.goto (-36), 3) := by decide +kernel
theorem dX1_countPairs_43 : decode cX1_countPairs 43 = .ok (.iload_n 1, 1) := by decide +kernel
theorem dX1_countPairs_44 : decode cX1_countPairs 44 = .ok (.iconst 2, 1) := by decide +kernel
theorem dX1_countPairs_45 : decode cX1_countPairs 45 = .ok (.idiv, 1) := by decide +kernel
theorem dX1_countPairs_46 : decode cX1_countPairs 46 = .ok (.ireturn, 1) := by decide +kernel
theorem dX1_haveSameKey_0 : decode cX1_haveSameKey 0 = .ok (.aload_n 0, 1) := by decide +kernel
theorem dX1_haveSameKey_1 : decode cX1_haveSameKey 1 = .ok (.iload_n 1, 1) := by decide +kernel
theorem dX1_haveSameKey_2 : decode cX1_haveSameKey 2 = .ok (.invokevirtual 56, 3) := by decide +kernel
theorem dX1_haveSameKey_5 : decode cX1_haveSameKey 5 = .ok (.ifCond .eq 46, 3) := by decide +kernel
theorem dX1_haveSameKey_8 : decode cX1_haveSameKey 8 = .ok (.aload_n 0, 1) := by decide +kernel
theorem dX1_haveSameKey_9 : decode cX1_haveSameKey 9 = .ok (.iload_n 2, 1) := by decide +kernel
theorem dX1_haveSameKey_10 : decode cX1_haveSameKey 10 = .ok (.invokevirtual 56, 3) := by decide +kernel
theorem dX1_haveSameKey_13 : decode cX1_haveSameKey 13 = .ok (.ifCond .eq 38, 3) := by decide +kernel
theorem dX1_haveSameKey_16 : decode cX1_haveSameKey 16 = .ok (.aload_n 0, 1) := by decide +kernel
theorem dX1_haveSameKey_17 : decode cX1_haveSameKey 17 = .ok (.getfield 23, 3) := by decide +kernel
theorem dX1_haveSameKey_20 : decode cX1_haveSameKey 20 = .ok (.iload_n 3, 1) := by decide +kernel
theorem dX1_haveSameKey_21 : decode cX1_haveSameKey 21 = .ok (.aaload, 1) := by decide +kernel
theorem dX1_haveSameKey_22 : decode cX1_haveSameKey 22 = .ok (.iload_n 1, 1) := by decide +kernel
theorem dX1_haveSameKey_23 : decode cX1_haveSameKey 23 = .ok (.iaload, 1) := by decide +kernel
theorem dX1_haveSameKey_24 : decode cX1_haveSameKey 24 = .ok (.iconst (-1), 1) := by decide +kernel
theorem dX1_haveSameKey_25 : decode cX1_haveSameKey 25 = .ok (.if_icmp .eq 26, 3) := by decide +kernel
theorem dX1_haveSameKey_28 : decode cX1_haveSameKey 28 = .ok (.aload_n 0, 1) := by decide +kernel
theorem dX1_haveSameKey_29 : decode cX1_haveSameKey 29 = .ok (.getfield 23, 3) := by decide +kernel
theorem dX1_haveSameKey_32 : decode cX1_haveSameKey 32 = .ok (.iload_n 3, 1) := by decide +kernel
theorem dX1_haveSameKey_33 : decode cX1_haveSameKey 33 = .ok (.aaload, 1) := by decide +kernel
theorem dX1_haveSameKey_34 : decode cX1_haveSameKey 34 = .ok (.iload_n 1, 1) := by decide +kernel
theorem dX1_haveSameKey_35 : decode cX1_haveSameKey 35 = .ok (.iaload, 1) := by decide +kernel
theorem dX1_haveSameKey_36 : decode cX1_haveSameKey 36 = .ok (.aload_n 0, 1) := by decide +kernel
theorem dX1_haveSameKey_37 : decode cX1_haveSameKey 37 = .ok (.getfield 23, 3) := by decide +kernel
theorem dX1_haveSameKey_40 : decode cX1_haveSameKey 40 = .ok (.iload_n 3, 1) := by decide +kernel
theorem dX1_haveSameKey_41 : decode cX1_haveSameKey 41 = .ok (.aaload, 1) := by decide +kernel
theorem dX1_haveSameKey_42 : decode cX1_haveSameKey 42 = .ok (.iload_n 2, 1) := by decide +kernel
theorem dX1_haveSameKey_43 : decode cX1_haveSameKey 43 = .ok (.iaload, 1) := by decide +kernel
theorem dX1_haveSameKey_44 : decode cX1_haveSameKey 44 = .ok (.if_icmp .ne 7, 3) := by decide +kernel
theorem dX1_haveSameKey_47 : decode cX1_haveSameKey 47 = .ok (.iconst 1, 1) := by decide +kernel
theorem dX1_haveSameKey_48 : decode cX1_haveSameKey 48 = .ok (.goto 4, 3) := by decide +kernel
theorem dX1_haveSameKey_51 : decode cX1_haveSameKey 51 = .ok (.iconst 0, 1) := by decide +kernel
theorem dX1_haveSameKey_52 : decode cX1_haveSameKey 52 = .ok (.ireturn, 1) := by decide +kernel
theorem dX1_isFirstWithKey_0 : decode cX1_isFirstWithKey 0 = .ok (.iconst 0, 1) := by decide +kernel
theorem dX1_isFirstWithKey_1 : decode cX1_isFirstWithKey 1 = .ok (.istore_n 3, 1) := by decide +kernel
theorem dX1_isFirstWithKey_2 : decode cX1_isFirstWithKey 2 = .ok (.iload_n 3, 1) := by decide +kernel
theorem dX1_isFirstWithKey_3 : decode cX1_isFirstWithKey 3 = .ok (.iload_n 1, 1) := by decide +kernel
theorem dX1_isFirstWithKey_4 : decode cX1_isFirstWithKey 4 = .ok (.if_icmp .ge 21, 3) := by decide +kernel
theorem dX1_isFirstWithKey_7 : decode cX1_isFirstWithKey 7 = .ok (.aload_n 0, 1) := by decide +kernel
theorem dX1_isFirstWithKey_8 : decode cX1_isFirstWithKey 8 = .ok (.iload_n 1, 1) := by decide +kernel
theorem dX1_isFirstWithKey_9 : decode cX1_isFirstWithKey 9 = .ok (.iload_n 3, 1) := by decide +kernel
theorem dX1_isFirstWithKey_10 : decode cX1_isFirstWithKey 10 = .ok (.iload_n 2, 1) := by decide +kernel
theorem dX1_isFirstWithKey_11 : decode cX1_isFirstWithKey 11 = .ok (.invokevirtual 60, 3) := by decide +kernel
theorem dX1_isFirstWithKey_14 : decode cX1_isFirstWithKey 14 = .ok (.ifCond .eq 5, 3) := by decide +kernel
theorem dX1_isFirstWithKey_17 : decode cX1_isFirstWithKey 17 = .ok (.iconst 0, 1) := by decide +kernel
theorem dX1_isFirstWithKey_18 : decode cX1_isFirstWithKey 18 = .ok (.ireturn, 1) := by decide +kernel
theorem dX1_isFirstWithKey_19 : decode cX1_isFirstWithKey 19 = .ok (.iinc 3 1, 3) := by decide +kernel
theorem dX1_isFirstWithKey_22 : decode cX1_isFirstWithKey 22 = .ok (.goto (-20), 3) := by decide +kernel
theorem dX1_isFirstWithKey_25 : decode cX1_isFirstWithKey 25 = .ok (.iconst 1, 1) := by decide +kernel
theorem dX1_isFirstWithKey_26 : decode cX1_isFirstWithKey 26 = .ok (.ireturn, 1) := by decide +kernel
theorem dX1_mayJoin_0 : decode cX1_mayJoin 0 = .ok (.iconst 0, 1) := by decide +kernel
theorem dX1_mayJoin_1 : decode cX1_mayJoin 1 = .ok (.istore_n 3, 1) := by decide +kernel
theorem dX1_mayJoin_2 : decode cX1_mayJoin 2 = .ok (.iload_n 3, 1) := by decide +kernel
theorem dX1_mayJoin_3 : decode cX1_mayJoin 3 = .ok (.iload_n 2, 1) := by decide +kernel
theorem dX1_mayJoin_4 : decode cX1_mayJoin 4 = .ok (.if_icmp .ge 20, 3) := by decide +kernel
theorem dX1_mayJoin_7 : decode cX1_mayJoin 7 = .ok (.aload_n 0, 1) := by decide +kernel
theorem dX1_mayJoin_8 : decode cX1_mayJoin 8 = .ok (.iload_n 1, 1) := by decide +kernel
theorem dX1_mayJoin_9 : decode cX1_mayJoin 9 = .ok (.iload_n 3, 1) := by decide +kernel
theorem dX1_mayJoin_10 : decode cX1_mayJoin 10 = .ok (.invokevirtual 64, 3) := by decide +kernel
theorem dX1_mayJoin_13 : decode cX1_mayJoin 13 = .ok (.ifCond .eq 5, 3) := by decide +kernel
theorem dX1_mayJoin_16 : decode cX1_mayJoin 16 = .ok (.iconst 0, 1) := by decide +kernel
theorem dX1_mayJoin_17 : decode cX1_mayJoin 17 = .ok (.ireturn, 1) := by decide +kernel
theorem dX1_mayJoin_18 : decode cX1_mayJoin 18 = .ok (.iinc 3 1, 3) := by decide +kernel
theorem dX1_mayJoin_21 : decode cX1_mayJoin 21 = .ok (.goto (-19), 3) := by decide +kernel
theorem dX1_mayJoin_24 : decode cX1_mayJoin 24 = .ok (.aload_n 0, 1) := by decide +kernel
theorem dX1_mayJoin_25 : decode cX1_mayJoin 25 = .ok (.iload_n 1, 1) := by decide +kernel
theorem dX1_mayJoin_26 : decode cX1_mayJoin 26 = .ok (.invokevirtual 67, 3) := by decide +kernel
theorem dX1_mayJoin_29 : decode cX1_mayJoin 29 = .ok (.ifCond .ne 7, 3) := by decide +kernel
theorem dX1_mayJoin_32 : decode cX1_mayJoin 32 = .ok (.iconst 1, 1) := by decide +kernel
theorem dX1_mayJoin_33 : decode cX1_mayJoin 33 = .ok (.goto 4, 3) := by decide +kernel
theorem dX1_mayJoin_36 : decode cX1_mayJoin 36 = .ok (.iconst 0, 1) := by decide +kernel
theorem dX1_mayJoin_37 : decode cX1_mayJoin 37 = .ok (.ireturn, 1) := by decide +kernel
theorem dX1_haveTwoKeys_0 : decode cX1_haveTwoKeys 0 = .ok (.iconst (-1), 1) := by decide +kernel
theorem dX1_haveTwoKeys_1 : decode cX1_haveTwoKeys 1 = .ok (.istore_n 3, 1) := by decide +kernel
theorem dX1_haveTwoKeys_2 : decode cX1_haveTwoKeys 2 = .ok (.iconst 0, 1) := by decide +kernel
theorem dX1_haveTwoKeys_3 : decode cX1_haveTwoKeys 3 = .ok (.istore 4, 2) := by decide +kernel
theorem dX1_haveTwoKeys_5 : decode cX1_haveTwoKeys 5 = .ok (.iload 4, 2) := by decide +kernel
theorem dX1_haveTwoKeys_7 : decode cX1_haveTwoKeys 7 = .ok (.aload_n 0, 1) := by decide +kernel
theorem dX1_haveTwoKeys_8 : decode cX1_haveTwoKeys 8 = .ok (.getfield 36, 3) := by decide +kernel
theorem dX1_haveTwoKeys_11 : decode cX1_haveTwoKeys 11 = .ok (.if_icmp .ge 65, 3) := by decide +kernel
theorem dX1_haveTwoKeys_14 : decode cX1_haveTwoKeys 14 = .ok (.iload 4, 2) := by decide +kernel
theorem dX1_haveTwoKeys_16 : decode cX1_haveTwoKeys 16 = .ok (.iload_n 1, 1) := by decide +kernel
theorem dX1_haveTwoKeys_17 : decode cX1_haveTwoKeys 17 = .ok (.invokestatic 46, 3) := by decide +kernel
theorem dX1_haveTwoKeys_20 : decode cX1_haveTwoKeys 20 = .ok (.ifCond .eq 15, 3) := by decide +kernel
theorem dX1_haveTwoKeys_23 : decode cX1_haveTwoKeys 23 = .ok (.aload_n 0, 1) := by decide +kernel
theorem dX1_haveTwoKeys_24 : decode cX1_haveTwoKeys 24 = .ok (.getfield 23, 3) := by decide +kernel
theorem dX1_haveTwoKeys_27 : decode cX1_haveTwoKeys 27 = .ok (.iload_n 2, 1) := by decide +kernel
theorem dX1_haveTwoKeys_28 : decode cX1_haveTwoKeys 28 = .ok (.aaload, 1) := by decide +kernel
theorem dX1_haveTwoKeys_29 : decode cX1_haveTwoKeys 29 = .ok (.iload 4, 2) := by decide +kernel
theorem dX1_haveTwoKeys_31 : decode cX1_haveTwoKeys 31 = .ok (.iaload, 1) := by decide +kernel
theorem dX1_haveTwoKeys_32 : decode cX1_haveTwoKeys 32 = .ok (.goto 4, 3) := by decide +kernel
theorem dX1_haveTwoKeys_35 : decode cX1_haveTwoKeys 35 = .ok (.iconst (-1), 1) := by decide +kernel
theorem dX1_haveTwoKeys_36 : decode cX1_haveTwoKeys 36 = .ok (.istore 5, 2) := by decide +kernel
theorem dX1_haveTwoKeys_38 : decode cX1_haveTwoKeys 38 = .ok (.iload 5, 2) := by decide +kernel
theorem dX1_haveTwoKeys_40 : decode cX1_haveTwoKeys 40 = .ok (.iconst (-1), 1) := by decide +kernel
theorem dX1_haveTwoKeys_41 : decode cX1_haveTwoKeys 41 = .ok (.if_icmp .eq 16, 3) := by decide +kernel
theorem dX1_haveTwoKeys_44 : decode cX1_haveTwoKeys 44 = .ok (.iload_n 3, 1) := by decide +kernel
theorem dX1_haveTwoKeys_45 : decode cX1_haveTwoKeys 45 = .ok (.iconst (-1), 1) := by decide +kernel
theorem dX1_haveTwoKeys_46 : decode cX1_haveTwoKeys 46 = .ok (.if_icmp .eq 11, 3) := by decide +kernel
theorem dX1_haveTwoKeys_49 : decode cX1_haveTwoKeys 49 = .ok (.iload 5, 2) := by decide +kernel
theorem dX1_haveTwoKeys_51 : decode cX1_haveTwoKeys 51 = .ok (.iload_n 3, 1) := by decide +kernel
theorem dX1_haveTwoKeys_52 : decode cX1_haveTwoKeys 52 = .ok (.if_icmp .eq 5, 3) := by decide +kernel
theorem dX1_haveTwoKeys_55 : decode cX1_haveTwoKeys 55 = .ok (.iconst 1, 1) := by decide +kernel
theorem dX1_haveTwoKeys_56 : decode cX1_haveTwoKeys 56 = .ok (.ireturn, 1) := by decide +kernel
theorem dX1_haveTwoKeys_57 : decode cX1_haveTwoKeys 57 = .ok (.iload 5, 2) := by decide +kernel
theorem dX1_haveTwoKeys_59 : decode cX1_haveTwoKeys 59 = .ok (.iconst (-1), 1) := by decide +kernel
theorem dX1_haveTwoKeys_60 : decode cX1_haveTwoKeys 60 = .ok (.if_icmp .ne 7, 3) := by decide +kernel
theorem dX1_haveTwoKeys_63 : decode cX1_haveTwoKeys 63 = .ok (.iload_n 3, 1) := by decide +kernel
theorem dX1_haveTwoKeys_64 : decode cX1_haveTwoKeys 64 = .ok (.goto 5, 3) := by decide +kernel
theorem dX1_haveTwoKeys_67 : decode cX1_haveTwoKeys 67 = .ok (.iload 5, 2) := by decide +kernel
theorem dX1_haveTwoKeys_69 : decode cX1_haveTwoKeys 69 = .ok (.istore_n 3, 1) := by decide +kernel
theorem dX1_haveTwoKeys_70 : decode cX1_haveTwoKeys 70 = .ok (.iinc 4 1, 3) := by decide +kernel
theorem dX1_haveTwoKeys_73 : decode cX1_haveTwoKeys 73 = .ok (.goto (-68), 3) := by decide +kernel
theorem dX1_haveTwoKeys_76 : decode cX1_haveTwoKeys 76 = .ok (.iconst 0, 1) := by decide +kernel
theorem dX1_haveTwoKeys_77 : decode cX1_haveTwoKeys 77 = .ok (.ireturn, 1) := by decide +kernel
theorem dX1_haveForbiddenPair_0 : decode cX1_haveForbiddenPair 0 = .ok (.iconst 0, 1) := by decide +kernel
theorem dX1_haveForbiddenPair_1 : decode cX1_haveForbiddenPair 1 = .ok (.istore_n 2, 1) := by decide +kernel
theorem dX1_haveForbiddenPair_2 : decode cX1_haveForbiddenPair 2 = .ok (.iload_n 2, 1) := by decide +kernel
theorem dX1_haveForbiddenPair_3 : decode cX1_haveForbiddenPair 3 = .ok (.aload_n 0, 1) := by decide +kernel
theorem dX1_haveForbiddenPair_4 : decode cX1_haveForbiddenPair 4 = .ok (.getfield 36, 3) := by decide +kernel
theorem dX1_haveForbiddenPair_7 : decode cX1_haveForbiddenPair 7 = .ok (.if_icmp .ge 30, 3) := by decide +kernel
theorem dX1_haveForbiddenPair_10 : decode cX1_haveForbiddenPair 10 = .ok (.iload_n 2, 1) := by decide +kernel
theorem dX1_haveForbiddenPair_11 : decode cX1_haveForbiddenPair 11 = .ok (.iload_n 1, 1) := by decide +kernel
theorem dX1_haveForbiddenPair_12 : decode cX1_haveForbiddenPair 12 = .ok (.invokestatic 46, 3) := by decide +kernel
theorem dX1_haveForbiddenPair_15 : decode cX1_haveForbiddenPair 15 = .ok (.ifCond .eq 16, 3) := by decide +kernel
theorem dX1_haveForbiddenPair_18 : decode cX1_haveForbiddenPair 18 = .ok (.aload_n 0, 1) := by decide +kernel
theorem dX1_haveForbiddenPair_19 : decode cX1_haveForbiddenPair 19 = .ok (.getfield 29, 3) := by decide +kernel
theorem dX1_haveForbiddenPair_22 : decode cX1_haveForbiddenPair 22 = .ok (.iload_n 2, 1) := by decide +kernel
theorem dX1_haveForbiddenPair_23 : decode cX1_haveForbiddenPair 23 = .ok (.iaload, 1) := by decide +kernel
theorem dX1_haveForbiddenPair_24 : decode cX1_haveForbiddenPair 24 = .ok (.iload_n 1, 1) := by decide +kernel
theorem dX1_haveForbiddenPair_25 : decode cX1_haveForbiddenPair 25 = .ok (.iand, 1) := by decide +kernel
theorem dX1_haveForbiddenPair_26 : decode cX1_haveForbiddenPair 26 = .ok (.ifCond .eq 5, 3) := by decide +kernel
theorem dX1_haveForbiddenPair_29 : decode cX1_haveForbiddenPair 29 = .ok (.iconst 1, 1) := by decide +kernel
theorem dX1_haveForbiddenPair_30 : decode cX1_haveForbiddenPair 30 = .ok (.ireturn, 1) := by decide +kernel
theorem dX1_haveForbiddenPair_31 : decode cX1_haveForbiddenPair 31 = .ok (.iinc 2 1, 3) := by decide +kernel
theorem dX1_haveForbiddenPair_34 : decode cX1_haveForbiddenPair 34 = .ok (.goto (-32), 3) := by decide +kernel
theorem dX1_haveForbiddenPair_37 : decode cX1_haveForbiddenPair 37 = .ok (.iconst 0, 1) := by decide +kernel
theorem dX1_haveForbiddenPair_38 : decode cX1_haveForbiddenPair 38 = .ok (.ireturn, 1) := by decide +kernel
theorem dX1_weigh_0 : decode cX1_weigh 0 = .ok (.aload_n 0, 1) := by decide +kernel
theorem dX1_weigh_1 : decode cX1_weigh 1 = .ok (.getfield 9, 3) := by decide +kernel
theorem dX1_weigh_4 : decode cX1_weigh 4 = .ok (.aload_n 0, 1) := by decide +kernel
theorem dX1_weigh_5 : decode cX1_weigh 5 = .ok (.getfield 15, 3) := by decide +kernel
theorem dX1_weigh_8 : decode cX1_weigh 8 = .ok (.iload_n 1, 1) := by decide +kernel
theorem dX1_weigh_9 : decode cX1_weigh 9 = .ok (.iaload, 1) := by decide +kernel
theorem dX1_weigh_10 : decode cX1_weigh 10 = .ok (.iaload, 1) := by decide +kernel
theorem dX1_weigh_11 : decode cX1_weigh 11 = .ok (.iload_n 2, 1) := by decide +kernel
theorem dX1_weigh_12 : decode cX1_weigh 12 = .ok (.aload_n 0, 1) := by decide +kernel
theorem dX1_weigh_13 : decode cX1_weigh 13 = .ok (.getfield 18, 3) := by decide +kernel
theorem dX1_weigh_16 : decode cX1_weigh 16 = .ok (.iload_n 1, 1) := by decide +kernel
theorem dX1_weigh_17 : decode cX1_weigh 17 = .ok (.iaload, 1) := by decide +kernel
theorem dX1_weigh_18 : decode cX1_weigh 18 = .ok (.isub, 1) := by decide +kernel
theorem dX1_weigh_19 : decode cX1_weigh 19 = .ok (.bipush 10, 2) := by decide +kernel
theorem dX1_weigh_21 : decode cX1_weigh 21 = .ok (.idiv, 1) := by decide +kernel
theorem dX1_weigh_22 : decode cX1_weigh 22 = .ok (.isub, 1) := by decide +kernel
theorem dX1_weigh_23 : decode cX1_weigh 23 = .ok (.ireturn, 1) := by decide +kernel
theorem dX1_isAhead_0 : decode cX1_isAhead 0 = .ok (.aload_n 0, 1) := by decide +kernel
theorem dX1_isAhead_1 : decode cX1_isAhead 1 = .ok (.iload_n 1, 1) := by decide +kernel
theorem dX1_isAhead_2 : decode cX1_isAhead 2 = .ok (.iload_n 3, 1) := by decide +kernel
theorem dX1_isAhead_3 : decode cX1_isAhead 3 = .ok (.invokevirtual 70, 3) := by decide +kernel
theorem dX1_isAhead_6 : decode cX1_isAhead 6 = .ok (.istore 4, 2) := by decide +kernel
theorem dX1_isAhead_8 : decode cX1_isAhead 8 = .ok (.aload_n 0, 1) := by decide +kernel
theorem dX1_isAhead_9 : decode cX1_isAhead 9 = .ok (.iload_n 2, 1) := by decide +kernel
theorem dX1_isAhead_10 : decode cX1_isAhead 10 = .ok (.iload_n 3, 1) := by decide +kernel
theorem dX1_isAhead_11 : decode cX1_isAhead 11 = .ok (.invokevirtual 70, 3) := by decide +kernel
theorem dX1_isAhead_14 : decode cX1_isAhead 14 = .ok (.istore 5, 2) := by decide +kernel
theorem dX1_isAhead_16 : decode cX1_isAhead 16 = .ok (.iload 4, 2) := by decide +kernel
theorem dX1_isAhead_18 : decode cX1_isAhead 18 = .ok (.iload 5, 2) := by decide +kernel
theorem dX1_isAhead_20 : decode cX1_isAhead 20 = .ok (.if_icmp .eq 16, 3) := by decide +kernel
theorem dX1_isAhead_23 : decode cX1_isAhead 23 = .ok (.iload 4, 2) := by decide +kernel
theorem dX1_isAhead_25 : decode cX1_isAhead 25 = .ok (.iload 5, 2) := by decide +kernel
theorem dX1_isAhead_27 : decode cX1_isAhead 27 = .ok (.if_icmp .le 7, 3) := by decide +kernel
theorem dX1_isAhead_30 : decode cX1_isAhead 30 = .ok (.iconst 1, 1) := by decide +kernel
theorem dX1_isAhead_31 : decode cX1_isAhead 31 = .ok (.goto 4, 3) := by decide +kernel
theorem dX1_isAhead_34 : decode cX1_isAhead 34 = .ok (.iconst 0, 1) := by decide +kernel
theorem dX1_isAhead_35 : decode cX1_isAhead 35 = .ok (.ireturn, 1) := by decide +kernel
theorem dX1_isAhead_36 : decode cX1_isAhead 36 = .ok (.aload_n 0, 1) := by decide +kernel
theorem dX1_isAhead_37 : decode cX1_isAhead 37 = .ok (.getfield 18, 3) := by decide +kernel
theorem dX1_isAhead_40 : decode cX1_isAhead 40 = .ok (.iload_n 1, 1) := by decide +kernel
theorem dX1_isAhead_41 : decode cX1_isAhead 41 = .ok (.iaload, 1) := by decide +kernel
theorem dX1_isAhead_42 : decode cX1_isAhead 42 = .ok (.aload_n 0, 1) := by decide +kernel
theorem dX1_isAhead_43 : decode cX1_isAhead 43 = .ok (.getfield 18, 3) := by decide +kernel
theorem dX1_isAhead_46 : decode cX1_isAhead 46 = .ok (.iload_n 2, 1) := by decide +kernel
theorem dX1_isAhead_47 : decode cX1_isAhead 47 = .ok (.iaload, 1) := by decide +kernel
theorem dX1_isAhead_48 : decode cX1_isAhead 48 = .ok (.if_icmp .eq 24, 3) := by decide +kernel
theorem dX1_isAhead_51 : decode cX1_isAhead 51 = .ok (.aload_n 0, 1) := by decide +kernel
theorem dX1_isAhead_52 : decode cX1_isAhead 52 = .ok (.getfield 18, 3) := by decide +kernel
theorem dX1_isAhead_55 : decode cX1_isAhead 55 = .ok (.iload_n 1, 1) := by decide +kernel
theorem dX1_isAhead_56 : decode cX1_isAhead 56 = .ok (.iaload, 1) := by decide +kernel
theorem dX1_isAhead_57 : decode cX1_isAhead 57 = .ok (.aload_n 0, 1) := by decide +kernel
theorem dX1_isAhead_58 : decode cX1_isAhead 58 = .ok (.getfield 18, 3) := by decide +kernel
theorem dX1_isAhead_61 : decode cX1_isAhead 61 = .ok (.iload_n 2, 1) := by decide +kernel
theorem dX1_isAhead_62 : decode cX1_isAhead 62 = .ok (.iaload, 1) := by decide +kernel
theorem dX1_isAhead_63 : decode cX1_isAhead 63 = .ok (.if_icmp .le 7, 3) := by decide +kernel
theorem dX1_isAhead_66 : decode cX1_isAhead 66 = .ok (.iconst 1, 1) := by decide +kernel
theorem dX1_isAhead_67 : decode cX1_isAhead 67 = .ok (.goto 4, 3) := by decide +kernel
theorem dX1_isAhead_70 : decode cX1_isAhead 70 = .ok (.iconst 0, 1) := by decide +kernel
theorem dX1_isAhead_71 : decode cX1_isAhead 71 = .ok (.ireturn, 1) := by decide +kernel
theorem dX1_isAhead_72 : decode cX1_isAhead 72 = .ok (.iload_n 1, 1) := by decide +kernel
theorem dX1_isAhead_73 : decode cX1_isAhead 73 = .ok (.iload_n 2, 1) := by decide +kernel
theorem dX1_isAhead_74 : decode cX1_isAhead 74 = .ok (.if_icmp .le 7, 3) := by decide +kernel
theorem dX1_isAhead_77 : decode cX1_isAhead 77 = .ok (.iconst 1, 1) := by decide +kernel
theorem dX1_isAhead_78 : decode cX1_isAhead 78 = .ok (.goto 4, 3) := by decide +kernel
theorem dX1_isAhead_81 : decode cX1_isAhead 81 = .ok (.iconst 0, 1) := by decide +kernel
theorem dX1_isAhead_82 : decode cX1_isAhead 82 = .ok (.ireturn, 1) := by decide +kernel
theorem dX2_init_0 : decode cX2_init 0 = .ok (.aload_n 0, 1) := by decide +kernel
theorem dX2_init_1 : decode cX2_init 1 = .ok (.invokespecial 1, 3) := by decide +kernel
theorem dX2_init_4 : decode cX2_init 4 = .ok (.return_, 1) := by decide +kernel
theorem dX2_findClusters_0 : decode cX2_findClusters 0 = .ok (.iconst 0, 1) := by decide +kernel
theorem dX2_findClusters_1 : decode cX2_findClusters 1 = .ok (.istore_n 3, 1) := by decide +kernel
theorem dX2_findClusters_2 : decode cX2_findClusters 2 = .ok (.iload_n 3, 1) := by decide +kernel
theorem dX2_findClusters_3 : decode cX2_findClusters 3 = .ok (.aload_n 1, 1) := by decide +kernel
theorem dX2_findClusters_4 : decode cX2_findClusters 4 = .ok (.getfield 7, 3) := by decide +kernel
theorem dX2_findClusters_7 : decode cX2_findClusters 7 = .ok (.if_icmp .ge 72, 3) := by decide +kernel
theorem dX2_findClusters_10 : decode cX2_findClusters 10 = .ok (.iconst 0, 1) := by decide +kernel
theorem dX2_findClusters_11 : decode cX2_findClusters 11 = .ok (.istore 4, 2) := by decide +kernel
theorem dX2_findClusters_13 : decode cX2_findClusters 13 = .ok (.iload 4, 2) := by decide +kernel
theorem dX2_findClusters_15 : decode cX2_findClusters 15 = .ok (.iload_n 3, 1) := by decide +kernel
theorem dX2_findClusters_16 : decode cX2_findClusters 16 = .ok (.if_icmp .ge 57, 3) := by decide +kernel
theorem dX2_findClusters_19 : decode cX2_findClusters 19 = .ok (.aload_n 1, 1) := by decide +kernel
theorem dX2_findClusters_20 : decode cX2_findClusters 20 = .ok (.iload_n 3, 1) := by decide +kernel
theorem dX2_findClusters_21 : decode cX2_findClusters 21 = .ok (.iload 4, 2) := by decide +kernel
theorem dX2_findClusters_23 : decode cX2_findClusters 23 = .ok (.iload_n 2, 1) := by decide +kernel
theorem dX2_findClusters_24 : decode cX2_findClusters 24 = .ok (.invokevirtual 13, 3) := by decide +kernel
theorem dX2_findClusters_27 : decode cX2_findClusters 27 = .ok (.ifCond .eq 40, 3) := by decide +kernel
theorem dX2_findClusters_30 : decode cX2_findClusters 30 = .ok (.aload_n 0, 1) := by decide +kernel
theorem dX2_findClusters_31 : decode cX2_findClusters 31 = .ok (.getfield 17, 3) := by decide +kernel
theorem dX2_findClusters_34 : decode cX2_findClusters 34 = .ok (.iload_n 3, 1) := by decide +kernel
theorem dX2_findClusters_35 : decode cX2_findClusters 35 = .ok (.iaload, 1) := by decide +kernel
theorem dX2_findClusters_36 : decode cX2_findClusters 36 = .ok (.aload_n 0, 1) := by decide +kernel
theorem dX2_findClusters_37 : decode cX2_findClusters 37 = .ok (.getfield 17, 3) := by decide +kernel
theorem dX2_findClusters_40 : decode cX2_findClusters 40 = .ok (.iload 4, 2) := by decide +kernel
theorem dX2_findClusters_42 : decode cX2_findClusters 42 = .ok (.iaload, 1) := by decide +kernel
theorem dX2_findClusters_43 : decode cX2_findClusters 43 = .ok (.if_icmp .eq 24, 3) := by decide +kernel
theorem dX2_findClusters_46 : decode cX2_findClusters 46 = .ok (.aload_n 0, 1) := by decide +kernel
theorem dX2_findClusters_47 : decode cX2_findClusters 47 = .ok (.aload_n 0, 1) := by decide +kernel
theorem dX2_findClusters_48 : decode cX2_findClusters 48 = .ok (.getfield 17, 3) := by decide +kernel
theorem dX2_findClusters_51 : decode cX2_findClusters 51 = .ok (.iload_n 3, 1) := by decide +kernel
theorem dX2_findClusters_52 : decode cX2_findClusters 52 = .ok (.iaload, 1) := by decide +kernel
theorem dX2_findClusters_53 : decode cX2_findClusters 53 = .ok (.aload_n 0, 1) := by decide +kernel
theorem dX2_findClusters_54 : decode cX2_findClusters 54 = .ok (.getfield 17, 3) := by decide +kernel
theorem dX2_findClusters_57 : decode cX2_findClusters 57 = .ok (.iload 4, 2) := by decide +kernel
theorem dX2_findClusters_59 : decode cX2_findClusters 59 = .ok (.iaload, 1) := by decide +kernel
theorem dX2_findClusters_60 : decode cX2_findClusters 60 = .ok (.aload_n 1, 1) := by decide +kernel
theorem dX2_findClusters_61 : decode cX2_findClusters 61 = .ok (.getfield 7, 3) := by decide +kernel
theorem dX2_findClusters_64 : decode cX2_findClusters 64 = .ok (.invokevirtual 23, 3) := by decide +kernel
theorem dX2_findClusters_67 : decode cX2_findClusters 67 = .ok (.iinc 4 1, 3) := by decide +kernel
theorem dX2_findClusters_70 : decode cX2_findClusters 70 = .ok (.goto (-57), 3) := by decide +kernel
theorem dX2_findClusters_73 : decode cX2_findClusters 73 = .ok (.iinc 3 1, 3) := by decide +kernel
theorem dX2_findClusters_76 : decode cX2_findClusters 76 = .ok (.goto (-74), 3) := by decide +kernel
theorem dX2_findClusters_79 : decode cX2_findClusters 79 = .ok (.return_, 1) := by decide +kernel
theorem dX2_joinTwo_0 : decode cX2_joinTwo 0 = .ok (.iload_n 1, 1) := by decide +kernel
theorem dX2_joinTwo_1 : decode cX2_joinTwo 1 = .ok (.iload_n 2, 1) := by decide +kernel
theorem dX2_joinTwo_2 : decode cX2_joinTwo 2 = .ok (.invokestatic 27, 3) := by decide +kernel
theorem dX2_joinTwo_5 : decode cX2_joinTwo 5 = .ok (.istore 4, 2) := by decide +kernel
theorem dX2_joinTwo_7 : decode cX2_joinTwo 7 = .ok (.iload_n 1, 1) := by decide +kernel
theorem dX2_joinTwo_8 : decode cX2_joinTwo 8 = .ok (.iload_n 2, 1) := by decide +kernel
theorem dX2_joinTwo_9 : decode cX2_joinTwo 9 = .ok (.invokestatic 33, 3) := by decide +kernel
theorem dX2_joinTwo_12 : decode cX2_joinTwo 12 = .ok (.istore 5, 2) := by decide +kernel
theorem dX2_joinTwo_14 : decode cX2_joinTwo 14 = .ok (.iconst 0, 1) := by decide +kernel
theorem dX2_joinTwo_15 : decode cX2_joinTwo 15 = .ok (.istore 6, 2) := by decide +kernel
theorem dX2_joinTwo_17 : decode cX2_joinTwo 17 = .ok (.iload 6, 2) := by decide +kernel
theorem dX2_joinTwo_19 : decode cX2_joinTwo 19 = .ok (.iload_n 3, 1) := by decide +kernel
theorem dX2_joinTwo_20 : decode cX2_joinTwo 20 = .ok (.if_icmp .ge 30, 3) := by decide +kernel
theorem dX2_joinTwo_23 : decode cX2_joinTwo 23 = .ok (.aload_n 0, 1) := by decide +kernel
theorem dX2_joinTwo_24 : decode cX2_joinTwo 24 = .ok (.getfield 17, 3) := by decide +kernel
theorem dX2_joinTwo_27 : decode cX2_joinTwo 27 = .ok (.iload 6, 2) := by decide +kernel
theorem dX2_joinTwo_29 : decode cX2_joinTwo 29 = .ok (.iaload, 1) := by decide +kernel
theorem dX2_joinTwo_30 : decode cX2_joinTwo 30 = .ok (.iload 5, 2) := by decide +kernel
theorem dX2_joinTwo_32 : decode cX2_joinTwo 32 = .ok (.if_icmp .ne 12, 3) := by decide +kernel
theorem dX2_joinTwo_35 : decode cX2_joinTwo 35 = .ok (.aload_n 0, 1) := by decide +kernel
theorem dX2_joinTwo_36 : decode cX2_joinTwo 36 = .ok (.getfield 17, 3) := by decide +kernel
theorem dX2_joinTwo_39 : decode cX2_joinTwo 39 = .ok (.iload 6, 2) := by decide +kernel
theorem dX2_joinTwo_41 : decode cX2_joinTwo 41 = .ok (.iload 4, 2) := by decide +kernel
theorem dX2_joinTwo_43 : decode cX2_joinTwo 43 = .ok (.iastore, 1) := by decide +kernel
theorem dX2_joinTwo_44 : decode cX2_joinTwo 44 = .ok (.iinc 6 1, 3) := by decide +kernel
theorem dX2_joinTwo_47 : decode cX2_joinTwo 47 = .ok (.goto (-30), 3) := by decide +kernel
theorem dX2_joinTwo_50 : decode cX2_joinTwo 50 = .ok (.return_, 1) := by decide +kernel
theorem dX3_init_0 : decode cX3_init 0 = .ok (.aload_n 0, 1) := by decide +kernel
theorem dX3_init_1 : decode cX3_init 1 = .ok (.invokespecial 3, 3) := by decide +kernel
theorem dX3_init_4 : decode cX3_init 4 = .ok (.return_, 1) := by decide +kernel
theorem dX3_findClusters_0 : decode cX3_findClusters 0 = .ok (.iconst 1, 1) := by decide +kernel
theorem dX3_findClusters_1 : decode cX3_findClusters 1 = .ok (.istore_n 3, 1) := by decide +kernel
theorem dX3_findClusters_2 : decode cX3_findClusters 2 = .ok (.iconst 0, 1) := by decide +kernel
theorem dX3_findClusters_3 : decode cX3_findClusters 3 = .ok (.istore 4, 2) := by decide +kernel
theorem dX3_findClusters_5 : decode cX3_findClusters 5 = .ok (.iload_n 3, 1) := by decide +kernel
theorem dX3_findClusters_6 : decode cX3_findClusters 6 = .ok (.ifCond .eq 23, 3) := by decide +kernel
theorem dX3_findClusters_9 : decode cX3_findClusters 9 = .ok (.iload 4, 2) := by decide +kernel
theorem dX3_findClusters_11 : decode cX3_findClusters 11 = .ok (.bipush 24, 2) := by decide +kernel
theorem dX3_findClusters_13 : decode cX3_findClusters 13 = .ok (.if_icmp .ge 16, 3) := by decide +kernel
theorem dX3_findClusters_16 : decode cX3_findClusters 16 = .ok (.aload_n 0, 1) := by decide +kernel
theorem dX3_findClusters_17 : decode cX3_findClusters 17 = .ok (.aload_n 1, 1) := by decide +kernel
theorem dX3_findClusters_18 : decode cX3_findClusters 18 = .ok (.iload_n 2, 1) := by decide +kernel
theorem dX3_findClusters_19 : decode cX3_findClusters 19 = .ok (.invokevirtual 9, 3) := by decide +kernel
theorem dX3_findClusters_22 : decode cX3_findClusters 22 = .ok (.istore_n 3, 1) := by decide +kernel
theorem dX3_findClusters_23 : decode cX3_findClusters 23 = .ok (.iinc 4 1, 3) := by decide +kernel
theorem dX3_findClusters_26 : decode cX3_findClusters 26 = .ok (.goto (-21), 3) := by decide +kernel
theorem dX3_findClusters_29 : decode cX3_findClusters 29 = .ok (.return_, 1) := by decide +kernel
theorem dX3_spreadOnce_0 : decode cX3_spreadOnce 0 = .ok (.iconst 0, 1) := by decide +kernel
theorem dX3_spreadOnce_1 : decode cX3_spreadOnce 1 = .ok (.istore_n 3, 1) := by decide +kernel
theorem dX3_spreadOnce_2 : decode cX3_spreadOnce 2 = .ok (.iconst 0, 1) := by decide +kernel
theorem dX3_spreadOnce_3 : decode cX3_spreadOnce 3 = .ok (.istore 4, 2) := by decide +kernel
theorem dX3_spreadOnce_5 : decode cX3_spreadOnce 5 = .ok (.iload 4, 2) := by decide +kernel
theorem dX3_spreadOnce_7 : decode cX3_spreadOnce 7 = .ok (.aload_n 1, 1) := by decide +kernel
theorem dX3_spreadOnce_8 : decode cX3_spreadOnce 8 = .ok (.getfield 15, 3) := by decide +kernel
theorem dX3_spreadOnce_11 : decode cX3_spreadOnce 11 = .ok (.if_icmp .ge 73, 3) := by decide +kernel
theorem dX3_spreadOnce_14 : decode cX3_spreadOnce 14 = .ok (.iconst 0, 1) := by decide +kernel
theorem dX3_spreadOnce_15 : decode cX3_spreadOnce 15 = .ok (.istore 5, 2) := by decide +kernel
theorem dX3_spreadOnce_17 : decode cX3_spreadOnce 17 = .ok (.iload 5, 2) := by decide +kernel
theorem dX3_spreadOnce_19 : decode cX3_spreadOnce 19 = .ok (.aload_n 1, 1) := by decide +kernel
theorem dX3_spreadOnce_20 : decode cX3_spreadOnce 20 = .ok (.getfield 15, 3) := by decide +kernel
theorem dX3_spreadOnce_23 : decode cX3_spreadOnce 23 = .ok (.if_icmp .ge 55, 3) := by decide +kernel
theorem dX3_spreadOnce_26 : decode cX3_spreadOnce 26 = .ok (.aload_n 0, 1) := by decide +kernel
theorem dX3_spreadOnce_27 : decode cX3_spreadOnce 27 = .ok (.getfield 21, 3) := by decide +kernel
theorem dX3_spreadOnce_30 : decode cX3_spreadOnce 30 = .ok (.iload 5, 2) := by decide +kernel
theorem dX3_spreadOnce_32 : decode cX3_spreadOnce 32 = .ok (.iaload, 1) := by decide +kernel
theorem dX3_spreadOnce_33 : decode cX3_spreadOnce 33 = .ok (.aload_n 0, 1) := by decide +kernel
theorem dX3_spreadOnce_34 : decode cX3_spreadOnce 34 = .ok (.getfield 21, 3) := by decide +kernel
theorem dX3_spreadOnce_37 : decode cX3_spreadOnce 37 = .ok (.iload 4, 2) := by decide +kernel
theorem dX3_spreadOnce_39 : decode cX3_spreadOnce 39 = .ok (.iaload, 1) := by decide +kernel
theorem dX3_spreadOnce_40 : decode cX3_spreadOnce 40 = .ok (.if_icmp .ge 32, 3) := by decide +kernel
theorem dX3_spreadOnce_43 : decode cX3_spreadOnce 43 = .ok (.aload_n 0, 1) := by decide +kernel
theorem dX3_spreadOnce_44 : decode cX3_spreadOnce 44 = .ok (.iload 4, 2) := by decide +kernel
theorem dX3_spreadOnce_46 : decode cX3_spreadOnce 46 = .ok (.iload 5, 2) := by decide +kernel
theorem dX3_spreadOnce_48 : decode cX3_spreadOnce 48 = .ok (.aload_n 1, 1) := by decide +kernel
theorem dX3_spreadOnce_49 : decode cX3_spreadOnce 49 = .ok (.iload_n 2, 1) := by decide +kernel
theorem dX3_spreadOnce_50 : decode cX3_spreadOnce 50 = .ok (.invokevirtual 25, 3) := by decide +kernel
theorem dX3_spreadOnce_53 : decode cX3_spreadOnce 53 = .ok (.ifCond .eq 19, 3) := by decide +kernel
theorem dX3_spreadOnce_56 : decode cX3_spreadOnce 56 = .ok (.aload_n 0, 1) := by decide +kernel
theorem dX3_spreadOnce_57 : decode cX3_spreadOnce 57 = .ok (.getfield 21, 3) := by decide +kernel
theorem dX3_spreadOnce_60 : decode cX3_spreadOnce 60 = .ok (.iload 4, 2) := by decide +kernel
theorem dX3_spreadOnce_62 : decode cX3_spreadOnce 62 = .ok (.aload_n 0, 1) := by decide +kernel
theorem dX3_spreadOnce_63 : decode cX3_spreadOnce 63 = .ok (.getfield 21, 3) := by decide +kernel
theorem dX3_spreadOnce_66 : decode cX3_spreadOnce 66 = .ok (.iload 5, 2) := by decide +kernel
theorem dX3_spreadOnce_68 : decode cX3_spreadOnce 68 = .ok (.iaload, 1) := by decide +kernel
theorem dX3_spreadOnce_69 : decode cX3_spreadOnce 69 = .ok (.iastore, 1) := by decide +kernel
theorem dX3_spreadOnce_70 : decode cX3_spreadOnce 70 = .ok (.iconst 1, 1) := by decide +kernel
theorem dX3_spreadOnce_71 : decode cX3_spreadOnce 71 = .ok (.istore_n 3, 1) := by decide +kernel
theorem dX3_spreadOnce_72 : decode cX3_spreadOnce 72 = .ok (.iinc 5 1, 3) := by decide +kernel
theorem dX3_spreadOnce_75 : decode cX3_spreadOnce 75 = .ok (.goto (-58), 3) := by decide +kernel
theorem dX3_spreadOnce_78 : decode cX3_spreadOnce 78 = .ok (.iinc 4 1, 3) := by decide +kernel
theorem dX3_spreadOnce_81 : decode cX3_spreadOnce 81 = .ok (.goto (-76), 3) := by decide +kernel
theorem dX3_spreadOnce_84 : decode cX3_spreadOnce 84 = .ok (.iload_n 3, 1) := by decide +kernel
theorem dX3_spreadOnce_85 : decode cX3_spreadOnce 85 = .ok (.ireturn, 1) := by decide +kernel
theorem dX3_areLinked_0 : decode cX3_areLinked 0 = .ok (.aload_n 0, 1) := by decide +kernel
theorem dX3_areLinked_1 : decode cX3_areLinked 1 = .ok (.iload_n 1, 1) := by decide +kernel
theorem dX3_areLinked_2 : decode cX3_areLinked 2 = .ok (.iload 4, 2) := by decide +kernel
theorem dX3_areLinked_4 : decode cX3_areLinked 4 = .ok (.invokevirtual 29, 3) := by decide +kernel
theorem dX3_areLinked_7 : decode cX3_areLinked 7 = .ok (.aload_n 0, 1) := by decide +kernel
theorem dX3_areLinked_8 : decode cX3_areLinked 8 = .ok (.iload_n 2, 1) := by decide +kernel
theorem dX3_areLinked_9 : decode cX3_areLinked 9 = .ok (.iload 4, 2) := by decide +kernel
theorem dX3_areLinked_11 : decode cX3_areLinked 11 = .ok (.invokevirtual 29, 3) := by decide +kernel
theorem dX3_areLinked_14 : decode cX3_areLinked 14 = .ok (.if_icmp .eq 14, 3) := by decide +kernel
theorem dX3_areLinked_17 : decode cX3_areLinked 17 = .ok (.aload_n 3, 1) := by decide +kernel
theorem dX3_areLinked_18 : decode cX3_areLinked 18 = .ok (.iload_n 1, 1) := by decide +kernel
theorem dX3_areLinked_19 : decode cX3_areLinked 19 = .ok (.iload_n 2, 1) := by decide +kernel
theorem dX3_areLinked_20 : decode cX3_areLinked 20 = .ok (.iload 4, 2) := by decide +kernel
theorem dX3_areLinked_22 : decode cX3_areLinked 22 = .ok (.invokevirtual 33, 3) := by decide +kernel
theorem dX3_areLinked_25 : decode cX3_areLinked 25 = .ok (.ifCond .eq 7, 3) := by decide +kernel
theorem dX3_areLinked_28 : decode cX3_areLinked 28 = .ok (.iconst 1, 1) := by decide +kernel
theorem dX3_areLinked_29 : decode cX3_areLinked 29 = .ok (.goto 4, 3) := by decide +kernel
theorem dX3_areLinked_32 : decode cX3_areLinked 32 = .ok (.iconst 0, 1) := by decide +kernel
theorem dX3_areLinked_33 : decode cX3_areLinked 33 = .ok (.ireturn, 1) := by decide +kernel
theorem dX4_init_0 : decode cX4_init 0 = .ok (.aload_n 0, 1) := by decide +kernel
theorem dX4_init_1 : decode cX4_init 1 = .ok (.invokespecial 3, 3) := by decide +kernel
theorem dX4_init_4 : decode cX4_init 4 = .ok (.aload_n 0, 1) := by decide +kernel
theorem dX4_init_5 : decode cX4_init 5 = .ok (.new 9, 3) := by decide +kernel
theorem dX4_init_8 : decode cX4_init 8 = .ok (.dup, 1) := by decide +kernel
theorem dX4_init_9 : decode cX4_init 9 = .ok (.invokespecial 11, 3) := by decide +kernel
theorem dX4_init_12 : decode cX4_init 12 = .ok (.putfield 12, 3) := by decide +kernel
theorem dX4_init_15 : decode cX4_init 15 = .ok (.aload_n 0, 1) := by decide +kernel
theorem dX4_init_16 : decode cX4_init 16 = .ok (.new 16, 3) := by decide +kernel
theorem dX4_init_19 : decode cX4_init 19 = .ok (.dup, 1) := by decide +kernel
theorem dX4_init_20 : decode cX4_init 20 = .ok (.invokespecial 18, 3) := by decide +kernel
theorem dX4_init_23 : decode cX4_init 23 = .ok (.putfield 19, 3) := by decide +kernel
theorem dX4_init_26 : decode cX4_init 26 = .ok (.aload_n 0, 1) := by decide +kernel
theorem dX4_init_27 : decode cX4_init 27 = .ok (.new 23, 3) := by decide +kernel
theorem dX4_init_30 : decode cX4_init 30 = .ok (.dup, 1) := by decide +kernel
theorem dX4_init_31 : decode cX4_init 31 = .ok (.invokespecial 25, 3) := by decide +kernel
theorem dX4_init_34 : decode cX4_init 34 = .ok (.putfield 26, 3) := by decide +kernel
theorem dX4_init_37 : decode cX4_init 37 = .ok (.aload_n 0, 1) := by decide +kernel
theorem dX4_init_38 : decode cX4_init 38 = .ok (.bipush 24, 2) := by decide +kernel
theorem dX4_init_40 : decode cX4_init 40 = .ok (.newarray .int, 2) := by decide +kernel
theorem dX4_init_42 : decode cX4_init 42 = .ok (.putfield 30, 3) := by decide +kernel
theorem dX4_init_45 : decode cX4_init 45 = .ok (.aload_n 0, 1) := by decide +kernel
theorem dX4_init_46 : decode cX4_init 46 = .ok (.bipush 30, 2) := by decide +kernel
theorem dX4_init_48 : decode cX4_init 48 = .ok (.putfield 34, 3) := by decide +kernel
theorem dX4_init_51 : decode cX4_init 51 = .ok (.return_, 1) := by decide +kernel
theorem dX4_addSource_0 : decode cX4_addSource 0 = .ok (.iload_n 1, 1) := by decide +kernel
theorem dX4_addSource_1 : decode cX4_addSource 1 = .ok (.iconst 1, 1) := by decide +kernel
theorem dX4_addSource_2 : decode cX4_addSource 2 = .ok (.bipush 9, 2) := by decide +kernel
theorem dX4_addSource_4 : decode cX4_addSource 4 = .ok (.invokestatic 38, 3) := by decide +kernel
theorem dX4_addSource_7 : decode cX4_addSource 7 = .ok (.aload_n 0, 1) := by decide +kernel
theorem dX4_addSource_8 : decode cX4_addSource 8 = .ok (.getfield 12, 3) := by decide +kernel
theorem dX4_addSource_11 : decode cX4_addSource 11 = .ok (.getfield 42, 3) := by decide +kernel
theorem dX4_addSource_14 : decode cX4_addSource 14 = .ok (.iconst 4, 1) := by decide +kernel
theorem dX4_addSource_15 : decode cX4_addSource 15 = .ok (.if_icmp .lt 13, 3) := by decide +kernel
theorem dX4_addSource_18 : decode cX4_addSource 18 = .ok (.new 45, 3) := by decide +kernel
theorem dX4_addSource_21 : decode cX4_addSource 21 = .ok (.dup, 1) := by decide +kernel
theorem dX4_addSource_22 : decode cX4_addSource 22 = .ok (.ldc 47, 2) := by decide +kernel
theorem dX4_addSource_24 : decode cX4_addSource 24 = .ok (.invokespecial 49, 3) := by decide +kernel
theorem dX4_addSource_27 : decode cX4_addSource 27 = .ok (.athrow, 1) := by decide +kernel
theorem dX4_addSource_28 : decode cX4_addSource 28 = .ok (.aload_n 0, 1) := by decide +kernel
theorem dX4_addSource_29 : decode cX4_addSource 29 = .ok (.getfield 12, 3) := by decide +kernel
theorem dX4_addSource_32 : decode cX4_addSource 32 = .ok (.iload_n 1, 1) := by decide +kernel
theorem dX4_addSource_33 : decode cX4_addSource 33 = .ok (.invokevirtual 52, 3) := by decide +kernel
theorem dX4_addSource_36 : decode cX4_addSource 36 = .ok (.ireturn, 1) := by decide +kernel
theorem dX4_setTrust_0 : decode cX4_setTrust 0 = .ok (.aload_n 0, 1) := by decide +kernel
theorem dX4_setTrust_1 : decode cX4_setTrust 1 = .ok (.iload_n 1, 1) := by decide +kernel
theorem dX4_setTrust_2 : decode cX4_setTrust 2 = .ok (.invokevirtual 56, 3) := by decide +kernel
theorem dX4_setTrust_5 : decode cX4_setTrust 5 = .ok (.iload_n 2, 1) := by decide +kernel
theorem dX4_setTrust_6 : decode cX4_setTrust 6 = .ok (.iconst 1, 1) := by decide +kernel
theorem dX4_setTrust_7 : decode cX4_setTrust 7 = .ok (.bipush 9, 2) := by decide +kernel
theorem dX4_setTrust_9 : decode cX4_setTrust 9 = .ok (.invokestatic 38, 3) := by decide +kernel
theorem dX4_setTrust_12 : decode cX4_setTrust 12 = .ok (.aload_n 0, 1) := by decide +kernel
theorem dX4_setTrust_13 : decode cX4_setTrust 13 = .ok (.getfield 12, 3) := by decide +kernel
theorem dX4_setTrust_16 : decode cX4_setTrust 16 = .ok (.getfield 60, 3) := by decide +kernel
theorem dX4_setTrust_19 : decode cX4_setTrust 19 = .ok (.iload_n 1, 1) := by decide +kernel
theorem dX4_setTrust_20 : decode cX4_setTrust 20 = .ok (.iaload, 1) := by decide +kernel
theorem dX4_setTrust_21 : decode cX4_setTrust 21 = .ok (.istore_n 3, 1) := by decide +kernel
theorem dX4_setTrust_22 : decode cX4_setTrust 22 = .ok (.aload_n 0, 1) := by decide +kernel
theorem dX4_setTrust_23 : decode cX4_setTrust 23 = .ok (.getfield 12, 3) := by decide +kernel
theorem dX4_setTrust_26 : decode cX4_setTrust 26 = .ok (.getfield 60, 3) := by decide +kernel
theorem dX4_setTrust_29 : decode cX4_setTrust 29 = .ok (.iload_n 1, 1) := by decide +kernel
theorem dX4_setTrust_30 : decode cX4_setTrust 30 = .ok (.iload_n 2, 1) := by decide +kernel
theorem dX4_setTrust_31 : decode cX4_setTrust 31 = .ok (.iastore, 1) := by decide +kernel
theorem dX4_setTrust_32 : decode cX4_setTrust 32 = .ok (.iload_n 3, 1) := by decide +kernel
theorem dX4_setTrust_33 : decode cX4_setTrust 33 = .ok (.ireturn, 1) := by decide +kernel
theorem dX4_addRecord_0 : decode cX4_addRecord 0 = .ok (.aload_n 0, 1) := by decide +kernel
theorem dX4_addRecord_1 : decode cX4_addRecord 1 = .ok (.iload_n 1, 1) := by decide +kernel
theorem dX4_addRecord_2 : decode cX4_addRecord 2 = .ok (.invokevirtual 56, 3) := by decide +kernel
theorem dX4_addRecord_5 : decode cX4_addRecord 5 = .ok (.iload_n 2, 1) := by decide +kernel
theorem dX4_addRecord_6 : decode cX4_addRecord 6 = .ok (.iconst (-1), 1) := by decide +kernel
theorem dX4_addRecord_7 : decode cX4_addRecord 7 = .ok (.bipush 99, 2) := by decide +kernel
theorem dX4_addRecord_9 : decode cX4_addRecord 9 = .ok (.invokestatic 38, 3) := by decide +kernel
theorem dX4_addRecord_12 : decode cX4_addRecord 12 = .ok (.iload_n 3, 1) := by decide +kernel
theorem dX4_addRecord_13 : decode cX4_addRecord 13 = .ok (.iconst (-1), 1) := by decide +kernel
theorem dX4_addRecord_14 : decode cX4_addRecord 14 = .ok (.bipush 99, 2) := by decide +kernel
theorem dX4_addRecord_16 : decode cX4_addRecord 16 = .ok (.invokestatic 38, 3) := by decide +kernel
theorem dX4_addRecord_19 : decode cX4_addRecord 19 = .ok (.iload 4, 2) := by decide +kernel
theorem dX4_addRecord_21 : decode cX4_addRecord 21 = .ok (.iconst (-1), 1) := by decide +kernel
theorem dX4_addRecord_22 : decode cX4_addRecord 22 = .ok (.bipush 99, 2) := by decide +kernel
theorem dX4_addRecord_24 : decode cX4_addRecord 24 = .ok (.invokestatic 38, 3) := by decide +kernel
theorem dX4_addRecord_27 : decode cX4_addRecord 27 = .ok (.aload_n 0, 1) := by decide +kernel
theorem dX4_addRecord_28 : decode cX4_addRecord 28 = .ok (.getfield 12, 3) := by decide +kernel
theorem dX4_addRecord_31 : decode cX4_addRecord 31 = .ok (.getfield 63, 3) := by decide +kernel
theorem dX4_addRecord_34 : decode cX4_addRecord 34 = .ok (.bipush 24, 2) := by decide +kernel
theorem dX4_addRecord_36 : decode cX4_addRecord 36 = .ok (.if_icmp .lt 13, 3) := by decide +kernel
theorem dX4_addRecord_39 : decode cX4_addRecord 39 = .ok (.new 45, 3) := by decide +kernel
theorem dX4_addRecord_42 : decode cX4_addRecord 42 = .ok (.dup, 1) := by decide +kernel
theorem dX4_addRecord_43 : decode cX4_addRecord 43 = .ok (.ldc 66, 2) := by decide +kernel
theorem dX4_addRecord_45 : decode cX4_addRecord 45 = .ok (.invokespecial 49, 3) := by decide +kernel
theorem dX4_addRecord_48 : decode cX4_addRecord 48 = .ok (.athrow, 1) := by decide +kernel
theorem dX4_addRecord_49 : decode cX4_addRecord 49 = .ok (.aload_n 0, 1) := by decide +kernel
theorem dX4_addRecord_50 : decode cX4_addRecord 50 = .ok (.getfield 12, 3) := by decide +kernel
theorem dX4_addRecord_53 : decode cX4_addRecord 53 = .ok (.iload_n 1, 1) := by decide +kernel
theorem dX4_addRecord_54 : decode cX4_addRecord 54 = .ok (.aload_n 0, 1) := by decide +kernel
theorem dX4_addRecord_55 : decode cX4_addRecord 55 = .ok (.getfield 68, 3) := by decide +kernel
theorem dX4_addRecord_58 : decode cX4_addRecord 58 = .ok (.invokevirtual 71, 3) := by decide +kernel
theorem dX4_addRecord_61 : decode cX4_addRecord 61 = .ok (.istore 5, 2) := by decide +kernel
theorem dX4_addRecord_63 : decode cX4_addRecord 63 = .ok (.aload_n 0, 1) := by decide +kernel
theorem dX4_addRecord_64 : decode cX4_addRecord 64 = .ok (.getfield 12, 3) := by decide +kernel
theorem dX4_addRecord_67 : decode cX4_addRecord 67 = .ok (.getfield 75, 3) := by decide +kernel
theorem dX4_addRecord_70 : decode cX4_addRecord 70 = .ok (.iconst 0, 1) := by decide +kernel
theorem dX4_addRecord_71 : decode cX4_addRecord 71 = .ok (.aaload, 1) := by decide +kernel
theorem dX4_addRecord_72 : decode cX4_addRecord 72 = .ok (.iload 5, 2) := by decide +kernel
theorem dX4_addRecord_74 : decode cX4_addRecord 74 = .ok (.iload_n 2, 1) := by decide +kernel
theorem dX4_addRecord_75 : decode cX4_addRecord 75 = .ok (.iastore, 1) := by decide +kernel
theorem dX4_addRecord_76 : decode cX4_addRecord 76 = .ok (.aload_n 0, 1) := by decide +kernel
theorem dX4_addRecord_77 : decode cX4_addRecord 77 = .ok (.getfield 12, 3) := by decide +kernel
theorem dX4_addRecord_80 : decode cX4_addRecord 80 = .ok (.getfield 75, 3) := by decide +kernel
theorem dX4_addRecord_83 : decode cX4_addRecord 83 = .ok (.iconst 1, 1) := by decide +kernel
theorem dX4_addRecord_84 : decode cX4_addRecord 84 = .ok (.aaload, 1) := by decide +kernel
theorem dX4_addRecord_85 : decode cX4_addRecord 85 = .ok (.iload 5, 2) := by decide +kernel
theorem dX4_addRecord_87 : decode cX4_addRecord 87 = .ok (.iload_n 3, 1) := by decide +kernel
theorem dX4_addRecord_88 : decode cX4_addRecord 88 = .ok (.iastore, 1) := by decide +kernel
theorem dX4_addRecord_89 : decode cX4_addRecord 89 = .ok (.aload_n 0, 1) := by decide +kernel
theorem dX4_addRecord_90 : decode cX4_addRecord 90 = .ok (.getfield 12, 3) := by decide +kernel
theorem dX4_addRecord_93 : decode cX4_addRecord 93 = .ok (.getfield 75, 3) := by decide +kernel
theorem dX4_addRecord_96 : decode cX4_addRecord 96 = .ok (.iconst 2, 1) := by decide +kernel
theorem dX4_addRecord_97 : decode cX4_addRecord 97 = .ok (.aaload, 1) := by decide +kernel
theorem dX4_addRecord_98 : decode cX4_addRecord 98 = .ok (.iload 5, 2) := by decide +kernel
theorem dX4_addRecord_100 : decode cX4_addRecord 100 = .ok (.iload 4, 2) := by decide +kernel
theorem dX4_addRecord_102 : decode cX4_addRecord 102 = .ok (.iastore, 1) := by decide +kernel
theorem dX4_addRecord_103 : decode cX4_addRecord 103 = .ok (.iload 5, 2) := by decide +kernel
theorem dX4_addRecord_105 : decode cX4_addRecord 105 = .ok (.ireturn, 1) := by decide +kernel
theorem dX4_setKey_0 : decode cX4_setKey 0 = .ok (.aload_n 0, 1) := by decide +kernel
theorem dX4_setKey_1 : decode cX4_setKey 1 = .ok (.iload_n 1, 1) := by decide +kernel
theorem dX4_setKey_2 : decode cX4_setKey 2 = .ok (.invokevirtual 79, 3) := by decide +kernel
theorem dX4_setKey_5 : decode cX4_setKey 5 = .ok (.iload_n 2, 1) := by decide +kernel
theorem dX4_setKey_6 : decode cX4_setKey 6 = .ok (.invokestatic 82, 3) := by decide +kernel
theorem dX4_setKey_9 : decode cX4_setKey 9 = .ok (.iload_n 3, 1) := by decide +kernel
theorem dX4_setKey_10 : decode cX4_setKey 10 = .ok (.iconst (-1), 1) := by decide +kernel
theorem dX4_setKey_11 : decode cX4_setKey 11 = .ok (.bipush 99, 2) := by decide +kernel
theorem dX4_setKey_13 : decode cX4_setKey 13 = .ok (.invokestatic 38, 3) := by decide +kernel
theorem dX4_setKey_16 : decode cX4_setKey 16 = .ok (.aload_n 0, 1) := by decide +kernel
theorem dX4_setKey_17 : decode cX4_setKey 17 = .ok (.getfield 12, 3) := by decide +kernel
theorem dX4_setKey_20 : decode cX4_setKey 20 = .ok (.getfield 75, 3) := by decide +kernel
theorem dX4_setKey_23 : decode cX4_setKey 23 = .ok (.iload_n 2, 1) := by decide +kernel
theorem dX4_setKey_24 : decode cX4_setKey 24 = .ok (.aaload, 1) := by decide +kernel
theorem dX4_setKey_25 : decode cX4_setKey 25 = .ok (.iload_n 1, 1) := by decide +kernel
theorem dX4_setKey_26 : decode cX4_setKey 26 = .ok (.iaload, 1) := by decide +kernel
theorem dX4_setKey_27 : decode cX4_setKey 27 = .ok (.istore 4, 2) := by decide +kernel
theorem dX4_setKey_29 : decode cX4_setKey 29 = .ok (.aload_n 0, 1) := by decide +kernel
theorem dX4_setKey_30 : decode cX4_setKey 30 = .ok (.getfield 12, 3) := by decide +kernel
theorem dX4_setKey_33 : decode cX4_setKey 33 = .ok (.getfield 75, 3) := by decide +kernel
theorem dX4_setKey_36 : decode cX4_setKey 36 = .ok (.iload_n 2, 1) := by decide +kernel
theorem dX4_setKey_37 : decode cX4_setKey 37 = .ok (.aaload, 1) := by decide +kernel
theorem dX4_setKey_38 : decode cX4_setKey 38 = .ok (.iload_n 1, 1) := by decide +kernel
theorem dX4_setKey_39 : decode cX4_setKey 39 = .ok (.iload_n 3, 1) := by decide +kernel
theorem dX4_setKey_40 : decode cX4_setKey 40 = .ok (.iastore, 1) := by decide +kernel
theorem dX4_setKey_41 : decode cX4_setKey 41 = .ok (.iload 4, 2) := by decide +kernel
theorem dX4_setKey_43 : decode cX4_setKey 43 = .ok (.ireturn, 1) := by decide +kernel
theorem dX4_setFact_0 : decode cX4_setFact 0 = .ok (.aload_n 0, 1) := by decide +kernel
theorem dX4_setFact_1 : decode cX4_setFact 1 = .ok (.iload_n 1, 1) := by decide +kernel
theorem dX4_setFact_2 : decode cX4_setFact 2 = .ok (.invokevirtual 79, 3) := by decide +kernel
theorem dX4_setFact_5 : decode cX4_setFact 5 = .ok (.iload_n 2, 1) := by decide +kernel
theorem dX4_setFact_6 : decode cX4_setFact 6 = .ok (.invokestatic 85, 3) := by decide +kernel
theorem dX4_setFact_9 : decode cX4_setFact 9 = .ok (.iload_n 3, 1) := by decide +kernel
theorem dX4_setFact_10 : decode cX4_setFact 10 = .ok (.iconst (-1), 1) := by decide +kernel
theorem dX4_setFact_11 : decode cX4_setFact 11 = .ok (.sipush 999, 3) := by decide +kernel
theorem dX4_setFact_14 : decode cX4_setFact 14 = .ok (.invokestatic 38, 3) := by decide +kernel
theorem dX4_setFact_17 : decode cX4_setFact 17 = .ok (.aload_n 0, 1) := by decide +kernel
theorem dX4_setFact_18 : decode cX4_setFact 18 = .ok (.getfield 12, 3) := by decide +kernel
theorem dX4_setFact_21 : decode cX4_setFact 21 = .ok (.getfield 88, 3) := by decide +kernel
theorem dX4_setFact_24 : decode cX4_setFact 24 = .ok (.iload_n 2, 1) := by decide +kernel
theorem dX4_setFact_25 : decode cX4_setFact 25 = .ok (.aaload, 1) := by decide +kernel
theorem dX4_setFact_26 : decode cX4_setFact 26 = .ok (.iload_n 1, 1) := by decide +kernel
theorem dX4_setFact_27 : decode cX4_setFact 27 = .ok (.iaload, 1) := by decide +kernel
theorem dX4_setFact_28 : decode cX4_setFact 28 = .ok (.istore 4, 2) := by decide +kernel
theorem dX4_setFact_30 : decode cX4_setFact 30 = .ok (.aload_n 0, 1) := by decide +kernel
theorem dX4_setFact_31 : decode cX4_setFact 31 = .ok (.getfield 12, 3) := by decide +kernel
theorem dX4_setFact_34 : decode cX4_setFact 34 = .ok (.getfield 88, 3) := by decide +kernel
theorem dX4_setFact_37 : decode cX4_setFact 37 = .ok (.iload_n 2, 1) := by decide +kernel
theorem dX4_setFact_38 : decode cX4_setFact 38 = .ok (.aaload, 1) := by decide +kernel
theorem dX4_setFact_39 : decode cX4_setFact 39 = .ok (.iload_n 1, 1) := by decide +kernel
theorem dX4_setFact_40 : decode cX4_setFact 40 = .ok (.iload_n 3, 1) := by decide +kernel
theorem dX4_setFact_41 : decode cX4_setFact 41 = .ok (.iastore, 1) := by decide +kernel
theorem dX4_setFact_42 : decode cX4_setFact 42 = .ok (.iload 4, 2) := by decide +kernel
theorem dX4_setFact_44 : decode cX4_setFact 44 = .ok (.ireturn, 1) := by decide +kernel
theorem dX4_see_0 : decode cX4_see 0 = .ok (.aload_n 0, 1) := by decide +kernel
theorem dX4_see_1 : decode cX4_see 1 = .ok (.iload_n 1, 1) := by decide +kernel
theorem dX4_see_2 : decode cX4_see 2 = .ok (.invokevirtual 79, 3) := by decide +kernel
theorem dX4_see_5 : decode cX4_see 5 = .ok (.aload_n 0, 1) := by decide +kernel
theorem dX4_see_6 : decode cX4_see 6 = .ok (.getfield 12, 3) := by decide +kernel
theorem dX4_see_9 : decode cX4_see 9 = .ok (.getfield 91, 3) := by decide +kernel
theorem dX4_see_12 : decode cX4_see 12 = .ok (.iload_n 1, 1) := by decide +kernel
theorem dX4_see_13 : decode cX4_see 13 = .ok (.iaload, 1) := by decide +kernel
theorem dX4_see_14 : decode cX4_see 14 = .ok (.istore_n 2, 1) := by decide +kernel
theorem dX4_see_15 : decode cX4_see 15 = .ok (.aload_n 0, 1) := by decide +kernel
theorem dX4_see_16 : decode cX4_see 16 = .ok (.getfield 12, 3) := by decide +kernel
theorem dX4_see_19 : decode cX4_see 19 = .ok (.getfield 91, 3) := by decide +kernel
theorem dX4_see_22 : decode cX4_see 22 = .ok (.iload_n 1, 1) := by decide +kernel
theorem dX4_see_23 : decode cX4_see 23 = .ok (.aload_n 0, 1) := by decide +kernel
theorem dX4_see_24 : decode cX4_see 24 = .ok (.getfield 68, 3) := by decide +kernel
theorem dX4_see_27 : decode cX4_see 27 = .ok (.iastore, 1) := by decide +kernel
theorem dX4_see_28 : decode cX4_see 28 = .ok (.iload_n 2, 1) := by decide +kernel
theorem dX4_see_29 : decode cX4_see 29 = .ok (.ireturn, 1) := by decide +kernel
theorem dX4_drop_0 : decode cX4_drop 0 = .ok (.aload_n 0, 1) := by decide +kernel
theorem dX4_drop_1 : decode cX4_drop 1 = .ok (.iload_n 1, 1) := by decide +kernel
theorem dX4_drop_2 : decode cX4_drop 2 = .ok (.invokevirtual 79, 3) := by decide +kernel
theorem dX4_drop_5 : decode cX4_drop 5 = .ok (.aload_n 0, 1) := by decide +kernel
theorem dX4_drop_6 : decode cX4_drop 6 = .ok (.getfield 12, 3) := by decide +kernel
theorem dX4_drop_9 : decode cX4_drop 9 = .ok (.iload_n 1, 1) := by decide +kernel
theorem dX4_drop_10 : decode cX4_drop 10 = .ok (.invokevirtual 94, 3) := by decide +kernel
theorem dX4_drop_13 : decode cX4_drop 13 = .ok (.aload_n 0, 1) := by decide +kernel
theorem dX4_drop_14 : decode cX4_drop 14 = .ok (.getfield 12, 3) := by decide +kernel
theorem dX4_drop_17 : decode cX4_drop 17 = .ok (.invokevirtual 97, 3) := by decide +kernel
theorem dX4_drop_20 : decode cX4_drop 20 = .ok (.ireturn, 1) := by decide +kernel
theorem dX4_forbid_0 : decode cX4_forbid 0 = .ok (.aload_n 0, 1) := by decide +kernel
theorem dX4_forbid_1 : decode cX4_forbid 1 = .ok (.iload_n 1, 1) := by decide +kernel
theorem dX4_forbid_2 : decode cX4_forbid 2 = .ok (.invokevirtual 79, 3) := by decide +kernel
theorem dX4_forbid_5 : decode cX4_forbid 5 = .ok (.aload_n 0, 1) := by decide +kernel
theorem dX4_forbid_6 : decode cX4_forbid 6 = .ok (.iload_n 2, 1) := by decide +kernel
theorem dX4_forbid_7 : decode cX4_forbid 7 = .ok (.invokevirtual 79, 3) := by decide +kernel
theorem dX4_forbid_10 : decode cX4_forbid 10 = .ok (.iload_n 1, 1) := by decide +kernel
theorem dX4_forbid_11 : decode cX4_forbid 11 = .ok (.iload_n 2, 1) := by decide +kernel
theorem dX4_forbid_12 : decode cX4_forbid 12 = .ok (.invokestatic 101, 3) := by decide +kernel
theorem dX4_forbid_15 : decode cX4_forbid 15 = .ok (.aload_n 0, 1) := by decide +kernel
theorem dX4_forbid_16 : decode cX4_forbid 16 = .ok (.getfield 12, 3) := by decide +kernel
theorem dX4_forbid_19 : decode cX4_forbid 19 = .ok (.iload_n 1, 1) := by decide +kernel
theorem dX4_forbid_20 : decode cX4_forbid 20 = .ok (.iload_n 2, 1) := by decide +kernel
theorem dX4_forbid_21 : decode cX4_forbid 21 = .ok (.invokevirtual 105, 3) := by decide +kernel
theorem dX4_forbid_24 : decode cX4_forbid 24 = .ok (.ifCond .eq 13, 3) := by decide +kernel
theorem dX4_forbid_27 : decode cX4_forbid 27 = .ok (.new 45, 3) := by decide +kernel
theorem dX4_forbid_30 : decode cX4_forbid 30 = .ok (.dup, 1) := by decide +kernel
theorem dX4_forbid_31 : decode cX4_forbid 31 = .ok (.ldc 109, 2) := by decide +kernel
theorem dX4_forbid_33 : decode cX4_forbid 33 = .ok (.invokespecial 49, 3) := by decide +kernel
theorem dX4_forbid_36 : decode cX4_forbid 36 = .ok (.athrow, 1) := by decide +kernel
theorem dX4_forbid_37 : decode cX4_forbid 37 = .ok (.aload_n 0, 1) := by decide +kernel
theorem dX4_forbid_38 : decode cX4_forbid 38 = .ok (.getfield 12, 3) := by decide +kernel
theorem dX4_forbid_41 : decode cX4_forbid 41 = .ok (.getfield 111, 3) := by decide +kernel
theorem dX4_forbid_44 : decode cX4_forbid 44 = .ok (.bipush 12, 2) := by decide +kernel
theorem dX4_forbid_46 : decode cX4_forbid 46 = .ok (.if_icmp .lt 13, 3) := by decide +kernel
theorem dX4_forbid_49 : decode cX4_forbid 49 = .ok (.new 45, 3) := by decide +kernel
theorem dX4_forbid_52 : decode cX4_forbid 52 = .ok (.dup, 1) := by decide +kernel
theorem dX4_forbid_53 : decode cX4_forbid 53 = .ok (.ldc 114, 2) := by decide +kernel
theorem dX4_forbid_55 : decode cX4_forbid 55 = .ok (.invokespecial 49, 3) := by decide +kernel
theorem dX4_forbid_58 : decode cX4_forbid 58 = .ok (.athrow, 1) := by decide +kernel
theorem dX4_forbid_59 : decode cX4_forbid 59 = .ok (.aload_n 0, 1) := by decide +kernel
theorem dX4_forbid_60 : decode cX4_forbid 60 = .ok (.getfield 12, 3) := by decide +kernel
theorem dX4_forbid_63 : decode cX4_forbid 63 = .ok (.iload_n 1, 1) := by decide +kernel
theorem dX4_forbid_64 : decode cX4_forbid 64 = .ok (.iload_n 2, 1) := by decide +kernel
theorem dX4_forbid_65 : decode cX4_forbid 65 = .ok (.invokevirtual 116, 3) := by decide +kernel
theorem dX4_forbid_68 : decode cX4_forbid 68 = .ok (.aload_n 0, 1) := by decide +kernel
theorem dX4_forbid_69 : decode cX4_forbid 69 = .ok (.getfield 12, 3) := by decide +kernel
theorem dX4_forbid_72 : decode cX4_forbid 72 = .ok (.dup, 1) := by decide +kernel
theorem dX4_forbid_73 : decode cX4_forbid 73 = .ok (.getfield 111, 3) := by decide +kernel
theorem dX4_forbid_76 : decode cX4_forbid 76 = .ok (.iconst 1, 1) := by decide +kernel
theorem dX4_forbid_77 : decode cX4_forbid 77 = .ok (.iadd, 1) := by decide +kernel
theorem dX4_forbid_78 : decode cX4_forbid 78 = .ok (.putfield 111, 3) := by decide +kernel
theorem dX4_forbid_81 : decode cX4_forbid 81 = .ok (.aload_n 0, 1) := by decide +kernel
theorem dX4_forbid_82 : decode cX4_forbid 82 = .ok (.getfield 12, 3) := by decide +kernel
theorem dX4_forbid_85 : decode cX4_forbid 85 = .ok (.invokevirtual 119, 3) := by decide +kernel
theorem dX4_forbid_88 : decode cX4_forbid 88 = .ok (.ireturn, 1) := by decide +kernel
theorem dX4_allow_0 : decode cX4_allow 0 = .ok (.aload_n 0, 1) := by decide +kernel
theorem dX4_allow_1 : decode cX4_allow 1 = .ok (.iload_n 1, 1) := by decide +kernel
theorem dX4_allow_2 : decode cX4_allow 2 = .ok (.invokevirtual 79, 3) := by decide +kernel
theorem dX4_allow_5 : decode cX4_allow 5 = .ok (.aload_n 0, 1) := by decide +kernel
theorem dX4_allow_6 : decode cX4_allow 6 = .ok (.iload_n 2, 1) := by decide +kernel
theorem dX4_allow_7 : decode cX4_allow 7 = .ok (.invokevirtual 79, 3) := by decide +kernel
theorem dX4_allow_10 : decode cX4_allow 10 = .ok (.aload_n 0, 1) := by decide +kernel
theorem dX4_allow_11 : decode cX4_allow 11 = .ok (.iload_n 1, 1) := by decide +kernel
theorem dX4_allow_12 : decode cX4_allow 12 = .ok (.iload_n 2, 1) := by decide +kernel
theorem dX4_allow_13 : decode cX4_allow 13 = .ok (.invokevirtual 122, 3) := by decide +kernel
theorem dX4_allow_16 : decode cX4_allow 16 = .ok (.aload_n 0, 1) := by decide +kernel
theorem dX4_allow_17 : decode cX4_allow 17 = .ok (.getfield 12, 3) := by decide +kernel
theorem dX4_allow_20 : decode cX4_allow 20 = .ok (.iload_n 1, 1) := by decide +kernel
theorem dX4_allow_21 : decode cX4_allow 21 = .ok (.iload_n 2, 1) := by decide +kernel
theorem dX4_allow_22 : decode cX4_allow 22 = .ok (.invokevirtual 125, 3) := by decide +kernel
theorem dX4_allow_25 : decode cX4_allow 25 = .ok (.aload_n 0, 1) := by decide +kernel
theorem dX4_allow_26 : decode cX4_allow 26 = .ok (.getfield 12, 3) := by decide +kernel
theorem dX4_allow_29 : decode cX4_allow 29 = .ok (.dup, 1) := by decide +kernel
theorem dX4_allow_30 : decode cX4_allow 30 = .ok (.getfield 111, 3) := by decide +kernel
theorem dX4_allow_33 : decode cX4_allow 33 = .ok (.iconst 1, 1) := by decide +kernel
theorem dX4_allow_34 : decode cX4_allow 34 = .ok (.isub, 1) := by decide +kernel
theorem dX4_allow_35 : decode cX4_allow 35 = .ok (.putfield 111, 3) := by decide +kernel
theorem dX4_allow_38 : decode cX4_allow 38 = .ok (.aload_n 0, 1) := by decide +kernel
theorem dX4_allow_39 : decode cX4_allow 39 = .ok (.getfield 12, 3) := by decide +kernel
theorem dX4_allow_42 : decode cX4_allow 42 = .ok (.invokevirtual 119, 3) := by decide +kernel
theorem dX4_allow_45 : decode cX4_allow 45 = .ok (.ireturn, 1) := by decide +kernel
theorem dX4_records_0 : decode cX4_records 0 = .ok (.aload_n 0, 1) := by decide +kernel
theorem dX4_records_1 : decode cX4_records 1 = .ok (.getfield 12, 3) := by decide +kernel
theorem dX4_records_4 : decode cX4_records 4 = .ok (.invokevirtual 97, 3) := by decide +kernel
theorem dX4_records_7 : decode cX4_records 7 = .ok (.ireturn, 1) := by decide +kernel
theorem dX4_key_0 : decode cX4_key 0 = .ok (.aload_n 0, 1) := by decide +kernel
theorem dX4_key_1 : decode cX4_key 1 = .ok (.iload_n 1, 1) := by decide +kernel
theorem dX4_key_2 : decode cX4_key 2 = .ok (.invokevirtual 79, 3) := by decide +kernel
theorem dX4_key_5 : decode cX4_key 5 = .ok (.iload_n 2, 1) := by decide +kernel
theorem dX4_key_6 : decode cX4_key 6 = .ok (.invokestatic 82, 3) := by decide +kernel
theorem dX4_key_9 : decode cX4_key 9 = .ok (.aload_n 0, 1) := by decide +kernel
theorem dX4_key_10 : decode cX4_key 10 = .ok (.getfield 12, 3) := by decide +kernel
theorem dX4_key_13 : decode cX4_key 13 = .ok (.getfield 75, 3) := by decide +kernel
theorem dX4_key_16 : decode cX4_key 16 = .ok (.iload_n 2, 1) := by decide +kernel
theorem dX4_key_17 : decode cX4_key 17 = .ok (.aaload, 1) := by decide +kernel
theorem dX4_key_18 : decode cX4_key 18 = .ok (.iload_n 1, 1) := by decide +kernel
theorem dX4_key_19 : decode cX4_key 19 = .ok (.iaload, 1) := by decide +kernel
theorem dX4_key_20 : decode cX4_key 20 = .ok (.ireturn, 1) := by decide +kernel
theorem dX4_seen_0 : decode cX4_seen 0 = .ok (.aload_n 0, 1) := by decide +kernel
theorem dX4_seen_1 : decode cX4_seen 1 = .ok (.iload_n 1, 1) := by decide +kernel
theorem dX4_seen_2 : decode cX4_seen 2 = .ok (.invokevirtual 79, 3) := by decide +kernel
theorem dX4_seen_5 : decode cX4_seen 5 = .ok (.aload_n 0, 1) := by decide +kernel
theorem dX4_seen_6 : decode cX4_seen 6 = .ok (.getfield 12, 3) := by decide +kernel
theorem dX4_seen_9 : decode cX4_seen 9 = .ok (.getfield 91, 3) := by decide +kernel
theorem dX4_seen_12 : decode cX4_seen 12 = .ok (.iload_n 1, 1) := by decide +kernel
theorem dX4_seen_13 : decode cX4_seen 13 = .ok (.iaload, 1) := by decide +kernel
theorem dX4_seen_14 : decode cX4_seen 14 = .ok (.ireturn, 1) := by decide +kernel
theorem dX4_thing_0 : decode cX4_thing 0 = .ok (.aload_n 0, 1) := by decide +kernel
theorem dX4_thing_1 : decode cX4_thing 1 = .ok (.iload_n 1, 1) := by decide +kernel
theorem dX4_thing_2 : decode cX4_thing 2 = .ok (.invokevirtual 79, 3) := by decide +kernel
theorem dX4_thing_5 : decode cX4_thing 5 = .ok (.aload_n 0, 1) := by decide +kernel
theorem dX4_thing_6 : decode cX4_thing 6 = .ok (.iload_n 1, 1) := by decide +kernel
theorem dX4_thing_7 : decode cX4_thing 7 = .ok (.invokevirtual 128, 3) := by decide +kernel
theorem dX4_thing_10 : decode cX4_thing 10 = .ok (.ireturn, 1) := by decide +kernel
theorem dX4_thingByRounds_0 : decode cX4_thingByRounds 0 = .ok (.aload_n 0, 1) := by decide +kernel
theorem dX4_thingByRounds_1 : decode cX4_thingByRounds 1 = .ok (.iload_n 1, 1) := by decide +kernel
theorem dX4_thingByRounds_2 : decode cX4_thingByRounds 2 = .ok (.invokevirtual 79, 3) := by decide +kernel
theorem dX4_thingByRounds_5 : decode cX4_thingByRounds 5 = .ok (.aload_n 0, 1) := by decide +kernel
theorem dX4_thingByRounds_6 : decode cX4_thingByRounds 6 = .ok (.getfield 26, 3) := by decide +kernel
theorem dX4_thingByRounds_9 : decode cX4_thingByRounds 9 = .ok (.aload_n 0, 1) := by decide +kernel
theorem dX4_thingByRounds_10 : decode cX4_thingByRounds 10 = .ok (.getfield 12, 3) := by decide +kernel
theorem dX4_thingByRounds_13 : decode cX4_thingByRounds 13 = .ok (.invokevirtual 131, 3) := by decide +kernel
theorem dX4_thingByRounds_16 : decode cX4_thingByRounds 16 = .ok (.aload_n 0, 1) := by decide +kernel
theorem dX4_thingByRounds_17 : decode cX4_thingByRounds 17 = .ok (.getfield 26, 3) := by decide +kernel
theorem dX4_thingByRounds_20 : decode cX4_thingByRounds 20 = .ok (.getfield 135, 3) := by decide +kernel
theorem dX4_thingByRounds_23 : decode cX4_thingByRounds 23 = .ok (.iconst 2, 1) := by decide +kernel
theorem dX4_thingByRounds_24 : decode cX4_thingByRounds 24 = .ok (.aaload, 1) := by decide +kernel
theorem dX4_thingByRounds_25 : decode cX4_thingByRounds 25 = .ok (.iload_n 1, 1) := by decide +kernel
theorem dX4_thingByRounds_26 : decode cX4_thingByRounds 26 = .ok (.iaload, 1) := by decide +kernel
theorem dX4_thingByRounds_27 : decode cX4_thingByRounds 27 = .ok (.ireturn, 1) := by decide +kernel
theorem dX4_things_0 : decode cX4_things 0 = .ok (.aload_n 0, 1) := by decide +kernel
theorem dX4_things_1 : decode cX4_things 1 = .ok (.invokevirtual 138, 3) := by decide +kernel
theorem dX4_things_4 : decode cX4_things 4 = .ok (.ireturn, 1) := by decide +kernel
theorem dX4_size_0 : decode cX4_size 0 = .ok (.aload_n 0, 1) := by decide +kernel
theorem dX4_size_1 : decode cX4_size 1 = .ok (.iload_n 1, 1) := by decide +kernel
theorem dX4_size_2 : decode cX4_size 2 = .ok (.invokevirtual 79, 3) := by decide +kernel
theorem dX4_size_5 : decode cX4_size 5 = .ok (.aload_n 0, 1) := by decide +kernel
theorem dX4_size_6 : decode cX4_size 6 = .ok (.aload_n 0, 1) := by decide +kernel
theorem dX4_size_7 : decode cX4_size 7 = .ok (.iload_n 1, 1) := by decide +kernel
theorem dX4_size_8 : decode cX4_size 8 = .ok (.invokevirtual 128, 3) := by decide +kernel
theorem dX4_size_11 : decode cX4_size 11 = .ok (.invokevirtual 141, 3) := by decide +kernel
theorem dX4_size_14 : decode cX4_size 14 = .ok (.ireturn, 1) := by decide +kernel
theorem dX4_member_0 : decode cX4_member 0 = .ok (.aload_n 0, 1) := by decide +kernel
theorem dX4_member_1 : decode cX4_member 1 = .ok (.iload_n 1, 1) := by decide +kernel
theorem dX4_member_2 : decode cX4_member 2 = .ok (.invokevirtual 79, 3) := by decide +kernel
theorem dX4_member_5 : decode cX4_member 5 = .ok (.aload_n 0, 1) := by decide +kernel
theorem dX4_member_6 : decode cX4_member 6 = .ok (.aload_n 0, 1) := by decide +kernel
theorem dX4_member_7 : decode cX4_member 7 = .ok (.iload_n 1, 1) := by decide +kernel
theorem dX4_member_8 : decode cX4_member 8 = .ok (.invokevirtual 128, 3) := by decide +kernel
theorem dX4_member_11 : decode cX4_member 11 = .ok (.iload_n 2, 1) := by decide +kernel
theorem dX4_member_12 : decode cX4_member 12 = .ok (.invokevirtual 144, 3) := by decide +kernel
theorem dX4_member_15 : decode cX4_member 15 = .ok (.istore_n 3, 1) := by decide +kernel
theorem dX4_member_16 : decode cX4_member 16 = .ok (.iload_n 3, 1) := by decide +kernel
theorem dX4_member_17 : decode cX4_member 17 = .ok (.iconst (-1), 1) := by decide +kernel
theorem dX4_member_18 : decode cX4_member 18 = .ok (.if_icmp .ne 13, 3) := by decide +kernel
theorem dX4_member_21 : decode cX4_member 21 = .ok (.new 147, 3) := by decide +kernel
theorem dX4_member_24 : decode cX4_member 24 = .ok (.dup, 1) := by decide +kernel
theorem dX4_member_25 : decode cX4_member 25 = .ok (.ldc 149, 2) := by decide +kernel
theorem dX4_member_27 : decode cX4_member 27 = .ok (.invokespecial 151, 3) := by decide +kernel
theorem dX4_member_30 : decode cX4_member 30 = .ok (.athrow, 1) := by decide +kernel
theorem dX4_member_31 : decode cX4_member 31 = .ok (.iload_n 3, 1) := by decide +kernel
theorem dX4_member_32 : decode cX4_member 32 = .ok (.ireturn, 1) := by decide +kernel
theorem dX4_areTogether_0 : decode cX4_areTogether 0 = .ok (.aload_n 0, 1) := by decide +kernel
theorem dX4_areTogether_1 : decode cX4_areTogether 1 = .ok (.iload_n 1, 1) := by decide +kernel
theorem dX4_areTogether_2 : decode cX4_areTogether 2 = .ok (.invokevirtual 79, 3) := by decide +kernel
theorem dX4_areTogether_5 : decode cX4_areTogether 5 = .ok (.aload_n 0, 1) := by decide +kernel
theorem dX4_areTogether_6 : decode cX4_areTogether 6 = .ok (.iload_n 2, 1) := by decide +kernel
theorem dX4_areTogether_7 : decode cX4_areTogether 7 = .ok (.invokevirtual 79, 3) := by decide +kernel
theorem dX4_areTogether_10 : decode cX4_areTogether 10 = .ok (.aload_n 0, 1) := by decide +kernel
theorem dX4_areTogether_11 : decode cX4_areTogether 11 = .ok (.iload_n 1, 1) := by decide +kernel
theorem dX4_areTogether_12 : decode cX4_areTogether 12 = .ok (.invokevirtual 128, 3) := by decide +kernel
theorem dX4_areTogether_15 : decode cX4_areTogether 15 = .ok (.aload_n 0, 1) := by decide +kernel
theorem dX4_areTogether_16 : decode cX4_areTogether 16 = .ok (.getfield 19, 3) := by decide +kernel
theorem dX4_areTogether_19 : decode cX4_areTogether 19 = .ok (.getfield 152, 3) := by decide +kernel
theorem dX4_areTogether_22 : decode cX4_areTogether 22 = .ok (.iconst 2, 1) := by decide +kernel
theorem dX4_areTogether_23 : decode cX4_areTogether 23 = .ok (.aaload, 1) := by decide +kernel
theorem dX4_areTogether_24 : decode cX4_areTogether 24 = .ok (.iload_n 2, 1) := by decide +kernel
theorem dX4_areTogether_25 : decode cX4_areTogether 25 = .ok (.iaload, 1) := by decide +kernel
theorem dX4_areTogether_26 : decode cX4_areTogether 26 = .ok (.if_icmp .ne 7, 3) := by decide +kernel
theorem dX4_areTogether_29 : decode cX4_areTogether 29 = .ok (.iconst 1, 1) := by decide +kernel
theorem dX4_areTogether_30 : decode cX4_areTogether 30 = .ok (.goto 4, 3) := by decide +kernel
theorem dX4_areTogether_33 : decode cX4_areTogether 33 = .ok (.iconst 0, 1) := by decide +kernel
theorem dX4_areTogether_34 : decode cX4_areTogether 34 = .ok (.ireturn, 1) := by decide +kernel
theorem dX4_step_0 : decode cX4_step 0 = .ok (.aload_n 0, 1) := by decide +kernel
theorem dX4_step_1 : decode cX4_step 1 = .ok (.iload_n 1, 1) := by decide +kernel
theorem dX4_step_2 : decode cX4_step 2 = .ok (.invokevirtual 79, 3) := by decide +kernel
theorem dX4_step_5 : decode cX4_step 5 = .ok (.aload_n 0, 1) := by decide +kernel
theorem dX4_step_6 : decode cX4_step 6 = .ok (.iload_n 2, 1) := by decide +kernel
theorem dX4_step_7 : decode cX4_step 7 = .ok (.invokevirtual 79, 3) := by decide +kernel
theorem dX4_step_10 : decode cX4_step 10 = .ok (.iload_n 1, 1) := by decide +kernel
theorem dX4_step_11 : decode cX4_step 11 = .ok (.iload_n 2, 1) := by decide +kernel
theorem dX4_step_12 : decode cX4_step 12 = .ok (.invokestatic 101, 3) := by decide +kernel
theorem dX4_step_15 : decode cX4_step 15 = .ok (.aload_n 0, 1) := by decide +kernel
theorem dX4_step_16 : decode cX4_step 16 = .ok (.iload_n 1, 1) := by decide +kernel
theorem dX4_step_17 : decode cX4_step 17 = .ok (.iload_n 2, 1) := by decide +kernel
theorem dX4_step_18 : decode cX4_step 18 = .ok (.invokevirtual 153, 3) := by decide +kernel
theorem dX4_step_21 : decode cX4_step 21 = .ok (.istore_n 3, 1) := by decide +kernel
theorem dX4_step_22 : decode cX4_step 22 = .ok (.iload_n 3, 1) := by decide +kernel
theorem dX4_step_23 : decode cX4_step 23 = .ok (.iconst (-1), 1) := by decide +kernel
theorem dX4_step_24 : decode cX4_step 24 = .ok (.if_icmp .ne 13, 3) := by decide +kernel
theorem dX4_step_27 : decode cX4_step 27 = .ok (.new 147, 3) := by decide +kernel
theorem dX4_step_30 : decode cX4_step 30 = .ok (.dup, 1) := by decide +kernel
theorem dX4_step_31 : decode cX4_step 31 = .ok (.ldc 156, 2) := by decide +kernel
theorem dX4_step_33 : decode cX4_step 33 = .ok (.invokespecial 151, 3) := by decide +kernel
theorem dX4_step_36 : decode cX4_step 36 = .ok (.athrow, 1) := by decide +kernel
theorem dX4_step_37 : decode cX4_step 37 = .ok (.iload_n 3, 1) := by decide +kernel
theorem dX4_step_38 : decode cX4_step 38 = .ok (.ireturn, 1) := by decide +kernel
theorem dX4_shared_0 : decode cX4_shared 0 = .ok (.iload_n 1, 1) := by decide +kernel
theorem dX4_shared_1 : decode cX4_shared 1 = .ok (.invokestatic 82, 3) := by decide +kernel
theorem dX4_shared_4 : decode cX4_shared 4 = .ok (.aload_n 0, 1) := by decide +kernel
theorem dX4_shared_5 : decode cX4_shared 5 = .ok (.getfield 19, 3) := by decide +kernel
theorem dX4_shared_8 : decode cX4_shared 8 = .ok (.aload_n 0, 1) := by decide +kernel
theorem dX4_shared_9 : decode cX4_shared 9 = .ok (.getfield 12, 3) := by decide +kernel
theorem dX4_shared_12 : decode cX4_shared 12 = .ok (.invokevirtual 158, 3) := by decide +kernel
theorem dX4_shared_15 : decode cX4_shared 15 = .ok (.iconst 0, 1) := by decide +kernel
theorem dX4_shared_16 : decode cX4_shared 16 = .ok (.istore_n 2, 1) := by decide +kernel
theorem dX4_shared_17 : decode cX4_shared 17 = .ok (.iconst 0, 1) := by decide +kernel
theorem dX4_shared_18 : decode cX4_shared 18 = .ok (.istore_n 3, 1) := by decide +kernel
theorem dX4_shared_19 : decode cX4_shared 19 = .ok (.iload_n 3, 1) := by decide +kernel
theorem dX4_shared_20 : decode cX4_shared 20 = .ok (.aload_n 0, 1) := by decide +kernel
theorem dX4_shared_21 : decode cX4_shared 21 = .ok (.getfield 12, 3) := by decide +kernel
theorem dX4_shared_24 : decode cX4_shared 24 = .ok (.getfield 63, 3) := by decide +kernel
theorem dX4_shared_27 : decode cX4_shared 27 = .ok (.if_icmp .ge 33, 3) := by decide +kernel
theorem dX4_shared_30 : decode cX4_shared 30 = .ok (.aload_n 0, 1) := by decide +kernel
theorem dX4_shared_31 : decode cX4_shared 31 = .ok (.getfield 12, 3) := by decide +kernel
theorem dX4_shared_34 : decode cX4_shared 34 = .ok (.iload_n 3, 1) := by decide +kernel
theorem dX4_shared_35 : decode cX4_shared 35 = .ok (.iload_n 1, 1) := by decide +kernel
theorem dX4_shared_36 : decode cX4_shared 36 = .ok (.invokevirtual 159, 3) := by decide +kernel
theorem dX4_shared_39 : decode cX4_shared 39 = .ok (.ifCond .eq 15, 3) := by decide +kernel
theorem dX4_shared_42 : decode cX4_shared 42 = .ok (.aload_n 0, 1) := by decide +kernel
theorem dX4_shared_43 : decode cX4_shared 43 = .ok (.iload_n 3, 1) := by decide +kernel
theorem dX4_shared_44 : decode cX4_shared 44 = .ok (.iload_n 1, 1) := by decide +kernel
theorem dX4_shared_45 : decode cX4_shared 45 = .ok (.invokevirtual 162, 3) := by decide +kernel
theorem dX4_shared_48 : decode cX4_shared 48 = .ok (.ifCond .eq 6, 3) := by decide +kernel
theorem dX4_shared_51 : decode cX4_shared 51 = .ok (.iinc 2 1, 3) := by decide +kernel
theorem dX4_shared_54 : decode cX4_shared 54 = .ok (.iinc 3 1, 3) := by decide +kernel
theorem dX4_shared_57 : decode cX4_shared 57 = .ok (.goto (-38), 3) := by decide +kernel
theorem dX4_shared_60 : decode cX4_shared 60 = .ok (.iload_n 2, 1) := by decide +kernel
theorem dX4_shared_61 : decode cX4_shared 61 = .ok (.ireturn, 1) := by decide +kernel
theorem dX4_thingsWithout_0 : decode cX4_thingsWithout 0 = .ok (.aload_n 0, 1) := by decide +kernel
theorem dX4_thingsWithout_1 : decode cX4_thingsWithout 1 = .ok (.iload_n 1, 1) := by decide +kernel
theorem dX4_thingsWithout_2 : decode cX4_thingsWithout 2 = .ok (.invokevirtual 79, 3) := by decide +kernel
theorem dX4_thingsWithout_5 : decode cX4_thingsWithout 5 = .ok (.aload_n 0, 1) := by decide +kernel
theorem dX4_thingsWithout_6 : decode cX4_thingsWithout 6 = .ok (.getfield 12, 3) := by decide +kernel
theorem dX4_thingsWithout_9 : decode cX4_thingsWithout 9 = .ok (.iload_n 1, 1) := by decide +kernel
theorem dX4_thingsWithout_10 : decode cX4_thingsWithout 10 = .ok (.invokevirtual 94, 3) := by decide +kernel
theorem dX4_thingsWithout_13 : decode cX4_thingsWithout 13 = .ok (.aload_n 0, 1) := by decide +kernel
theorem dX4_thingsWithout_14 : decode cX4_thingsWithout 14 = .ok (.invokevirtual 138, 3) := by decide +kernel
theorem dX4_thingsWithout_17 : decode cX4_thingsWithout 17 = .ok (.istore_n 2, 1) := by decide +kernel
theorem dX4_thingsWithout_18 : decode cX4_thingsWithout 18 = .ok (.aload_n 0, 1) := by decide +kernel
theorem dX4_thingsWithout_19 : decode cX4_thingsWithout 19 = .ok (.getfield 12, 3) := by decide +kernel
theorem dX4_thingsWithout_22 : decode cX4_thingsWithout 22 = .ok (.iload_n 1, 1) := by decide +kernel
theorem dX4_thingsWithout_23 : decode cX4_thingsWithout 23 = .ok (.invokevirtual 165, 3) := by decide +kernel
theorem dX4_thingsWithout_26 : decode cX4_thingsWithout 26 = .ok (.iload_n 2, 1) := by decide +kernel
theorem dX4_thingsWithout_27 : decode cX4_thingsWithout 27 = .ok (.ireturn, 1) := by decide +kernel
theorem dX4_thingsIf_0 : decode cX4_thingsIf 0 = .ok (.aload_n 0, 1) := by decide +kernel
theorem dX4_thingsIf_1 : decode cX4_thingsIf 1 = .ok (.iload_n 1, 1) := by decide +kernel
theorem dX4_thingsIf_2 : decode cX4_thingsIf 2 = .ok (.invokevirtual 79, 3) := by decide +kernel
theorem dX4_thingsIf_5 : decode cX4_thingsIf 5 = .ok (.iload_n 2, 1) := by decide +kernel
theorem dX4_thingsIf_6 : decode cX4_thingsIf 6 = .ok (.invokestatic 82, 3) := by decide +kernel
theorem dX4_thingsIf_9 : decode cX4_thingsIf 9 = .ok (.iload_n 3, 1) := by decide +kernel
theorem dX4_thingsIf_10 : decode cX4_thingsIf 10 = .ok (.iconst (-1), 1) := by decide +kernel
theorem dX4_thingsIf_11 : decode cX4_thingsIf 11 = .ok (.bipush 99, 2) := by decide +kernel
theorem dX4_thingsIf_13 : decode cX4_thingsIf 13 = .ok (.invokestatic 38, 3) := by decide +kernel
theorem dX4_thingsIf_16 : decode cX4_thingsIf 16 = .ok (.aload_n 0, 1) := by decide +kernel
theorem dX4_thingsIf_17 : decode cX4_thingsIf 17 = .ok (.getfield 12, 3) := by decide +kernel
theorem dX4_thingsIf_20 : decode cX4_thingsIf 20 = .ok (.getfield 75, 3) := by decide +kernel
theorem dX4_thingsIf_23 : decode cX4_thingsIf 23 = .ok (.iload_n 2, 1) := by decide +kernel
theorem dX4_thingsIf_24 : decode cX4_thingsIf 24 = .ok (.aaload, 1) := by decide +kernel
theorem dX4_thingsIf_25 : decode cX4_thingsIf 25 = .ok (.iload_n 1, 1) := by decide +kernel
theorem dX4_thingsIf_26 : decode cX4_thingsIf 26 = .ok (.iaload, 1) := by decide +kernel
theorem dX4_thingsIf_27 : decode cX4_thingsIf 27 = .ok (.istore 4, 2) := by decide +kernel
theorem dX4_thingsIf_29 : decode cX4_thingsIf 29 = .ok (.aload_n 0, 1) := by decide +kernel
theorem dX4_thingsIf_30 : decode cX4_thingsIf 30 = .ok (.getfield 12, 3) := by decide +kernel
theorem dX4_thingsIf_33 : decode cX4_thingsIf 33 = .ok (.getfield 75, 3) := by decide +kernel
theorem dX4_thingsIf_36 : decode cX4_thingsIf 36 = .ok (.iload_n 2, 1) := by decide +kernel
theorem dX4_thingsIf_37 : decode cX4_thingsIf 37 = .ok (.aaload, 1) := by decide +kernel
theorem dX4_thingsIf_38 : decode cX4_thingsIf 38 = .ok (.iload_n 1, 1) := by decide +kernel
theorem dX4_thingsIf_39 : decode cX4_thingsIf 39 = .ok (.iload_n 3, 1) := by decide +kernel
theorem dX4_thingsIf_40 : decode cX4_thingsIf 40 = .ok (.iastore, 1) := by decide +kernel
theorem dX4_thingsIf_41 : decode cX4_thingsIf 41 = .ok (.aload_n 0, 1) := by decide +kernel
theorem dX4_thingsIf_42 : decode cX4_thingsIf 42 = .ok (.invokevirtual 138, 3) := by decide +kernel
theorem dX4_thingsIf_45 : decode cX4_thingsIf 45 = .ok (.istore 5, 2) := by decide +kernel
theorem dX4_thingsIf_47 : decode cX4_thingsIf 47 = .ok (.aload_n 0, 1) := by decide +kernel
theorem dX4_thingsIf_48 : decode cX4_thingsIf 48 = .ok (.getfield 12, 3) := by decide +kernel
theorem dX4_thingsIf_51 : decode cX4_thingsIf 51 = .ok (.getfield 75, 3) := by decide +kernel
theorem dX4_thingsIf_54 : decode cX4_thingsIf 54 = .ok (.iload_n 2, 1) := by decide +kernel
theorem dX4_thingsIf_55 : decode cX4_thingsIf 55 = .ok (.aaload, 1) := by decide +kernel
theorem dX4_thingsIf_56 : decode cX4_thingsIf 56 = .ok (.iload_n 1, 1) := by decide +kernel
theorem dX4_thingsIf_57 : decode cX4_thingsIf 57 = .ok (.iload 4, 2) := by decide +kernel
theorem dX4_thingsIf_59 : decode cX4_thingsIf 59 = .ok (.iastore, 1) := by decide +kernel
theorem dX4_thingsIf_60 : decode cX4_thingsIf 60 = .ok (.iload 5, 2) := by decide +kernel
theorem dX4_thingsIf_62 : decode cX4_thingsIf 62 = .ok (.ireturn, 1) := by decide +kernel
theorem dX4_thingsIfAllowed_0 : decode cX4_thingsIfAllowed 0 = .ok (.aload_n 0, 1) := by decide +kernel
theorem dX4_thingsIfAllowed_1 : decode cX4_thingsIfAllowed 1 = .ok (.iload_n 1, 1) := by decide +kernel
theorem dX4_thingsIfAllowed_2 : decode cX4_thingsIfAllowed 2 = .ok (.invokevirtual 79, 3) := by decide +kernel
theorem dX4_thingsIfAllowed_5 : decode cX4_thingsIfAllowed 5 = .ok (.aload_n 0, 1) := by decide +kernel
theorem dX4_thingsIfAllowed_6 : decode cX4_thingsIfAllowed 6 = .ok (.iload_n 2, 1) := by decide +kernel
theorem dX4_thingsIfAllowed_7 : decode cX4_thingsIfAllowed 7 = .ok (.invokevirtual 79, 3) := by decide +kernel
theorem dX4_thingsIfAllowed_10 : decode cX4_thingsIfAllowed 10 = .ok (.aload_n 0, 1) := by decide +kernel
theorem dX4_thingsIfAllowed_11 : decode cX4_thingsIfAllowed 11 = .ok (.iload_n 1, 1) := by decide +kernel
theorem dX4_thingsIfAllowed_12 : decode cX4_thingsIfAllowed 12 = .ok (.iload_n 2, 1) := by decide +kernel
theorem dX4_thingsIfAllowed_13 : decode cX4_thingsIfAllowed 13 = .ok (.invokevirtual 122, 3) := by decide +kernel
theorem dX4_thingsIfAllowed_16 : decode cX4_thingsIfAllowed 16 = .ok (.aload_n 0, 1) := by decide +kernel
theorem dX4_thingsIfAllowed_17 : decode cX4_thingsIfAllowed 17 = .ok (.getfield 12, 3) := by decide +kernel
theorem dX4_thingsIfAllowed_20 : decode cX4_thingsIfAllowed 20 = .ok (.iload_n 1, 1) := by decide +kernel
theorem dX4_thingsIfAllowed_21 : decode cX4_thingsIfAllowed 21 = .ok (.iload_n 2, 1) := by decide +kernel
theorem dX4_thingsIfAllowed_22 : decode cX4_thingsIfAllowed 22 = .ok (.invokevirtual 125, 3) := by decide +kernel
theorem dX4_thingsIfAllowed_25 : decode cX4_thingsIfAllowed 25 = .ok (.aload_n 0, 1) := by decide +kernel
theorem dX4_thingsIfAllowed_26 : decode cX4_thingsIfAllowed 26 = .ok (.invokevirtual 138, 3) := by decide +kernel
theorem dX4_thingsIfAllowed_29 : decode cX4_thingsIfAllowed 29 = .ok (.istore_n 3, 1) := by decide +kernel
theorem dX4_thingsIfAllowed_30 : decode cX4_thingsIfAllowed 30 = .ok (.aload_n 0, 1) := by decide +kernel
theorem dX4_thingsIfAllowed_31 : decode cX4_thingsIfAllowed 31 = .ok (.getfield 12, 3) := by decide +kernel
theorem dX4_thingsIfAllowed_34 : decode cX4_thingsIfAllowed 34 = .ok (.iload_n 1, 1) := by decide +kernel
theorem dX4_thingsIfAllowed_35 : decode cX4_thingsIfAllowed 35 = .ok (.iload_n 2, 1) := by decide +kernel
theorem dX4_thingsIfAllowed_36 : decode cX4_thingsIfAllowed 36 = .ok (.invokevirtual 116, 3) := by decide +kernel
theorem dX4_thingsIfAllowed_39 : decode cX4_thingsIfAllowed 39 = .ok (.iload_n 3, 1) := by decide +kernel
theorem dX4_thingsIfAllowed_40 : decode cX4_thingsIfAllowed 40 = .ok (.ireturn, 1) := by decide +kernel
theorem dX4_weight_0 : decode cX4_weight 0 = .ok (.aload_n 0, 1) := by decide +kernel
theorem dX4_weight_1 : decode cX4_weight 1 = .ok (.iload_n 1, 1) := by decide +kernel
theorem dX4_weight_2 : decode cX4_weight 2 = .ok (.invokevirtual 79, 3) := by decide +kernel
theorem dX4_weight_5 : decode cX4_weight 5 = .ok (.aload_n 0, 1) := by decide +kernel
theorem dX4_weight_6 : decode cX4_weight 6 = .ok (.getfield 12, 3) := by decide +kernel
theorem dX4_weight_9 : decode cX4_weight 9 = .ok (.iload_n 1, 1) := by decide +kernel
theorem dX4_weight_10 : decode cX4_weight 10 = .ok (.aload_n 0, 1) := by decide +kernel
theorem dX4_weight_11 : decode cX4_weight 11 = .ok (.getfield 68, 3) := by decide +kernel
theorem dX4_weight_14 : decode cX4_weight 14 = .ok (.invokevirtual 168, 3) := by decide +kernel
theorem dX4_weight_17 : decode cX4_weight 17 = .ok (.ireturn, 1) := by decide +kernel
theorem dX4_fact_0 : decode cX4_fact 0 = .ok (.aload_n 0, 1) := by decide +kernel
theorem dX4_fact_1 : decode cX4_fact 1 = .ok (.iload_n 1, 1) := by decide +kernel
theorem dX4_fact_2 : decode cX4_fact 2 = .ok (.invokevirtual 79, 3) := by decide +kernel
theorem dX4_fact_5 : decode cX4_fact 5 = .ok (.iload_n 2, 1) := by decide +kernel
theorem dX4_fact_6 : decode cX4_fact 6 = .ok (.invokestatic 85, 3) := by decide +kernel
theorem dX4_fact_9 : decode cX4_fact 9 = .ok (.aload_n 0, 1) := by decide +kernel
theorem dX4_fact_10 : decode cX4_fact 10 = .ok (.aload_n 0, 1) := by decide +kernel
theorem dX4_fact_11 : decode cX4_fact 11 = .ok (.iload_n 1, 1) := by decide +kernel
theorem dX4_fact_12 : decode cX4_fact 12 = .ok (.invokevirtual 128, 3) := by decide +kernel
theorem dX4_fact_15 : decode cX4_fact 15 = .ok (.iload_n 2, 1) := by decide +kernel
theorem dX4_fact_16 : decode cX4_fact 16 = .ok (.invokevirtual 171, 3) := by decide +kernel
theorem dX4_fact_19 : decode cX4_fact 19 = .ok (.istore_n 3, 1) := by decide +kernel
theorem dX4_fact_20 : decode cX4_fact 20 = .ok (.iload_n 3, 1) := by decide +kernel
theorem dX4_fact_21 : decode cX4_fact 21 = .ok (.invokestatic 174, 3) := by decide +kernel
theorem dX4_fact_24 : decode cX4_fact 24 = .ok (.aload_n 0, 1) := by decide +kernel
theorem dX4_fact_25 : decode cX4_fact 25 = .ok (.getfield 12, 3) := by decide +kernel
theorem dX4_fact_28 : decode cX4_fact 28 = .ok (.getfield 88, 3) := by decide +kernel
theorem dX4_fact_31 : decode cX4_fact 31 = .ok (.iload_n 2, 1) := by decide +kernel
theorem dX4_fact_32 : decode cX4_fact 32 = .ok (.aaload, 1) := by decide +kernel
theorem dX4_fact_33 : decode cX4_fact 33 = .ok (.iload_n 3, 1) := by decide +kernel
theorem dX4_fact_34 : decode cX4_fact 34 = .ok (.iaload, 1) := by decide +kernel
theorem dX4_fact_35 : decode cX4_fact 35 = .ok (.ireturn, 1) := by decide +kernel
theorem dX4_factByPairs_0 : decode cX4_factByPairs 0 = .ok (.aload_n 0, 1) := by decide +kernel
theorem dX4_factByPairs_1 : decode cX4_factByPairs 1 = .ok (.iload_n 1, 1) := by decide +kernel
theorem dX4_factByPairs_2 : decode cX4_factByPairs 2 = .ok (.invokevirtual 79, 3) := by decide +kernel
theorem dX4_factByPairs_5 : decode cX4_factByPairs 5 = .ok (.iload_n 2, 1) := by decide +kernel
theorem dX4_factByPairs_6 : decode cX4_factByPairs 6 = .ok (.invokestatic 85, 3) := by decide +kernel
theorem dX4_factByPairs_9 : decode cX4_factByPairs 9 = .ok (.aload_n 0, 1) := by decide +kernel
theorem dX4_factByPairs_10 : decode cX4_factByPairs 10 = .ok (.aload_n 0, 1) := by decide +kernel
theorem dX4_factByPairs_11 : decode cX4_factByPairs 11 = .ok (.iload_n 1, 1) := by decide +kernel
theorem dX4_factByPairs_12 : decode cX4_factByPairs 12 = .ok (.invokevirtual 128, 3) := by decide +kernel
theorem dX4_factByPairs_15 : decode cX4_factByPairs 15 = .ok (.iload_n 2, 1) := by decide +kernel
theorem dX4_factByPairs_16 : decode cX4_factByPairs 16 = .ok (.invokevirtual 177, 3) := by decide +kernel
theorem dX4_factByPairs_19 : decode cX4_factByPairs 19 = .ok (.istore_n 3, 1) := by decide +kernel
theorem dX4_factByPairs_20 : decode cX4_factByPairs 20 = .ok (.iload_n 3, 1) := by decide +kernel
theorem dX4_factByPairs_21 : decode cX4_factByPairs 21 = .ok (.invokestatic 174, 3) := by decide +kernel
theorem dX4_factByPairs_24 : decode cX4_factByPairs 24 = .ok (.aload_n 0, 1) := by decide +kernel
theorem dX4_factByPairs_25 : decode cX4_factByPairs 25 = .ok (.getfield 12, 3) := by decide +kernel
theorem dX4_factByPairs_28 : decode cX4_factByPairs 28 = .ok (.getfield 88, 3) := by decide +kernel
theorem dX4_factByPairs_31 : decode cX4_factByPairs 31 = .ok (.iload_n 2, 1) := by decide +kernel
theorem dX4_factByPairs_32 : decode cX4_factByPairs 32 = .ok (.aaload, 1) := by decide +kernel
theorem dX4_factByPairs_33 : decode cX4_factByPairs 33 = .ok (.iload_n 3, 1) := by decide +kernel
theorem dX4_factByPairs_34 : decode cX4_factByPairs 34 = .ok (.iaload, 1) := by decide +kernel
theorem dX4_factByPairs_35 : decode cX4_factByPairs 35 = .ok (.ireturn, 1) := by decide +kernel
theorem dX4_factFrom_0 : decode cX4_factFrom 0 = .ok (.aload_n 0, 1) := by decide +kernel
theorem dX4_factFrom_1 : decode cX4_factFrom 1 = .ok (.iload_n 1, 1) := by decide +kernel
theorem dX4_factFrom_2 : decode cX4_factFrom 2 = .ok (.invokevirtual 79, 3) := by decide +kernel
theorem dX4_factFrom_5 : decode cX4_factFrom 5 = .ok (.iload_n 2, 1) := by decide +kernel
theorem dX4_factFrom_6 : decode cX4_factFrom 6 = .ok (.invokestatic 85, 3) := by decide +kernel
theorem dX4_factFrom_9 : decode cX4_factFrom 9 = .ok (.aload_n 0, 1) := by decide +kernel
theorem dX4_factFrom_10 : decode cX4_factFrom 10 = .ok (.aload_n 0, 1) := by decide +kernel
theorem dX4_factFrom_11 : decode cX4_factFrom 11 = .ok (.iload_n 1, 1) := by decide +kernel
theorem dX4_factFrom_12 : decode cX4_factFrom 12 = .ok (.invokevirtual 128, 3) := by decide +kernel
theorem dX4_factFrom_15 : decode cX4_factFrom 15 = .ok (.iload_n 2, 1) := by decide +kernel
theorem dX4_factFrom_16 : decode cX4_factFrom 16 = .ok (.invokevirtual 171, 3) := by decide +kernel
theorem dX4_factFrom_19 : decode cX4_factFrom 19 = .ok (.istore_n 3, 1) := by decide +kernel
theorem dX4_factFrom_20 : decode cX4_factFrom 20 = .ok (.iload_n 3, 1) := by decide +kernel
theorem dX4_factFrom_21 : decode cX4_factFrom 21 = .ok (.invokestatic 174, 3) := by decide +kernel
theorem dX4_factFrom_24 : decode cX4_factFrom 24 = .ok (.iload_n 3, 1) := by decide +kernel
theorem dX4_factFrom_25 : decode cX4_factFrom 25 = .ok (.ireturn, 1) := by decide +kernel
theorem dX4_agreement_0 : decode cX4_agreement 0 = .ok (.aload_n 0, 1) := by decide +kernel
theorem dX4_agreement_1 : decode cX4_agreement 1 = .ok (.iload_n 1, 1) := by decide +kernel
theorem dX4_agreement_2 : decode cX4_agreement 2 = .ok (.invokevirtual 79, 3) := by decide +kernel
theorem dX4_agreement_5 : decode cX4_agreement 5 = .ok (.iload_n 2, 1) := by decide +kernel
theorem dX4_agreement_6 : decode cX4_agreement 6 = .ok (.invokestatic 85, 3) := by decide +kernel
theorem dX4_agreement_9 : decode cX4_agreement 9 = .ok (.aload_n 0, 1) := by decide +kernel
theorem dX4_agreement_10 : decode cX4_agreement 10 = .ok (.iload_n 1, 1) := by decide +kernel
theorem dX4_agreement_11 : decode cX4_agreement 11 = .ok (.invokevirtual 128, 3) := by decide +kernel
theorem dX4_agreement_14 : decode cX4_agreement 14 = .ok (.istore_n 3, 1) := by decide +kernel
theorem dX4_agreement_15 : decode cX4_agreement 15 = .ok (.aload_n 0, 1) := by decide +kernel
theorem dX4_agreement_16 : decode cX4_agreement 16 = .ok (.iload_n 3, 1) := by decide +kernel
theorem dX4_agreement_17 : decode cX4_agreement 17 = .ok (.iload_n 2, 1) := by decide +kernel
theorem dX4_agreement_18 : decode cX4_agreement 18 = .ok (.invokevirtual 171, 3) := by decide +kernel
theorem dX4_agreement_21 : decode cX4_agreement 21 = .ok (.istore 4, 2) := by decide +kernel
theorem dX4_agreement_23 : decode cX4_agreement 23 = .ok (.iload 4, 2) := by decide +kernel
theorem dX4_agreement_25 : decode cX4_agreement 25 = .ok (.invokestatic 174, 3) := by decide +kernel
theorem dX4_agreement_28 : decode cX4_agreement 28 = .ok (.iconst 0, 1) := by decide +kernel
theorem dX4_agreement_29 : decode cX4_agreement 29 = .ok (.istore 5, 2) := by decide +kernel
theorem dX4_agreement_31 : decode cX4_agreement 31 = .ok (.iconst 0, 1) := by decide +kernel
theorem dX4_agreement_32 : decode cX4_agreement 32 = .ok (.istore 6, 2) := by decide +kernel
theorem dX4_agreement_34 : decode cX4_agreement 34 = .ok (.iconst 0, 1) := by decide +kernel
theorem dX4_agreement_35 : decode cX4_agreement 35 = .ok (.istore 7, 2) := by decide +kernel
theorem dX4_agreement_37 : decode cX4_agreement 37 = .ok (.iload 7, 2) := by decide +kernel
theorem dX4_agreement_39 : decode cX4_agreement 39 = .ok (.aload_n 0, 1) := by decide +kernel
theorem dX4_agreement_40 : decode cX4_agreement 40 = .ok (.getfield 12, 3) := by decide +kernel
theorem dX4_agreement_43 : decode cX4_agreement 43 = .ok (.getfield 63, 3) := by decide +kernel
theorem dX4_agreement_46 : decode cX4_agreement 46 = .ok (.if_icmp .ge 60, 3) := by decide +kernel
theorem dX4_agreement_49 : decode cX4_agreement 49 = .ok (.aload_n 0, 1) := by decide +kernel
theorem dX4_agreement_50 : decode cX4_agreement 50 = .ok (.iload 7, 2) := by decide +kernel
theorem dX4_agreement_52 : decode cX4_agreement 52 = .ok (.iload_n 3, 1) := by decide +kernel
theorem dX4_agreement_53 : decode cX4_agreement 53 = .ok (.iload_n 2, 1) := by decide +kernel
theorem dX4_agreement_54 : decode cX4_agreement 54 = .ok (.invokevirtual 180, 3) := by decide +kernel
theorem dX4_agreement_57 : decode cX4_agreement 57 = .ok (.ifCond .eq 43, 3) := by decide +kernel
theorem dX4_agreement_60 : decode cX4_agreement 60 = .ok (.iinc 5 1, 3) := by decide +kernel
theorem dX4_agreement_63 : decode cX4_agreement 63 = .ok (.iload 6, 2) := by decide +kernel
theorem dX4_agreement_65 : decode cX4_agreement 65 = .ok (.aload_n 0, 1) := by decide +kernel
theorem dX4_agreement_66 : decode cX4_agreement 66 = .ok (.getfield 12, 3) := by decide +kernel
theorem dX4_agreement_69 : decode cX4_agreement 69 = .ok (.getfield 88, 3) := by decide +kernel
theorem dX4_agreement_72 : decode cX4_agreement 72 = .ok (.iload_n 2, 1) := by decide +kernel
theorem dX4_agreement_73 : decode cX4_agreement 73 = .ok (.aaload, 1) := by decide +kernel
theorem dX4_agreement_74 : decode cX4_agreement 74 = .ok (.iload 7, 2) := by decide +kernel
theorem dX4_agreement_76 : decode cX4_agreement 76 = .ok (.iaload, 1) := by decide +kernel
theorem dX4_agreement_77 : decode cX4_agreement 77 = .ok (.aload_n 0, 1) := by decide +kernel
theorem dX4_agreement_78 : decode cX4_agreement 78 = .ok (.getfield 12, 3) := by decide +kernel
theorem dX4_agreement_81 : decode cX4_agreement 81 = .ok (.getfield 88, 3) := by decide +kernel
theorem dX4_agreement_84 : decode cX4_agreement 84 = .ok (.iload_n 2, 1) := by decide +kernel
theorem dX4_agreement_85 : decode cX4_agreement 85 = .ok (.aaload, 1) := by decide +kernel
theorem dX4_agreement_86 : decode cX4_agreement 86 = .ok (.iload 4, 2) := by decide +kernel
theorem dX4_agreement_88 : decode cX4_agreement 88 = .ok (.iaload, 1) := by decide +kernel
theorem dX4_agreement_89 : decode cX4_agreement 89 = .ok (.if_icmp .ne 7, 3) := by decide +kernel
theorem dX4_agreement_92 : decode cX4_agreement 92 = .ok (.iconst 1, 1) := by decide +kernel
theorem dX4_agreement_93 : decode cX4_agreement 93 = .ok (.goto 4, 3) := by decide +kernel
theorem dX4_agreement_96 : decode cX4_agreement 96 = .ok (.iconst 0, 1) := by decide +kernel
theorem dX4_agreement_97 : decode cX4_agreement 97 = .ok (.iadd, 1) := by decide +kernel
theorem dX4_agreement_98 : decode cX4_agreement 98 = .ok (.istore 6, 2) := by decide +kernel
theorem dX4_agreement_100 : decode cX4_agreement 100 = .ok (.iinc 7 1, 3) := by decide +kernel
theorem dX4_agreement_103 : decode cX4_agreement 103 = .ok (.goto (-66), 3) := by decide +kernel
theorem dX4_agreement_106 : decode cX4_agreement 106 = .ok (.iload 5, 2) := by decide +kernel
theorem dX4_agreement_108 : decode cX4_agreement 108 = .ok (.ifCond .ne 7, 3) := by decide +kernel
theorem dX4_agreement_111 : decode cX4_agreement 111 = .ok (.fconst 0, 1) := by decide +kernel
theorem dX4_agreement_112 : decode cX4_agreement 112 = .ok (.goto 10, 3) := by decide +kernel
theorem dX4_agreement_115 : decode cX4_agreement 115 = .ok (.iload 6, 2) := by decide +kernel
theorem dX4_agreement_117 : decode cX4_agreement 117 = .ok (.i2f, 1) := by decide +kernel
theorem dX4_agreement_118 : decode cX4_agreement 118 = .ok (.iload 5, 2) := by decide +kernel
theorem dX4_agreement_120 : decode cX4_agreement 120 = .ok (.i2f, 1) := by decide +kernel
theorem dX4_agreement_121 : decode cX4_agreement 121 = .ok (.fdiv, 1) := by decide +kernel
theorem dX4_agreement_122 : decode cX4_agreement 122 = .ok (.freturn, 1) := by decide +kernel
theorem dX4_setLimit_0 : decode cX4_setLimit 0 = .ok (.iload_n 1, 1) := by decide +kernel
theorem dX4_setLimit_1 : decode cX4_setLimit 1 = .ok (.iconst 1, 1) := by decide +kernel
theorem dX4_setLimit_2 : decode cX4_setLimit 2 = .ok (.bipush 99, 2) := by decide +kernel
theorem dX4_setLimit_4 : decode cX4_setLimit 4 = .ok (.invokestatic 38, 3) := by decide +kernel
theorem dX4_setLimit_7 : decode cX4_setLimit 7 = .ok (.aload_n 0, 1) := by decide +kernel
theorem dX4_setLimit_8 : decode cX4_setLimit 8 = .ok (.getfield 34, 3) := by decide +kernel
theorem dX4_setLimit_11 : decode cX4_setLimit 11 = .ok (.istore_n 2, 1) := by decide +kernel
theorem dX4_setLimit_12 : decode cX4_setLimit 12 = .ok (.aload_n 0, 1) := by decide +kernel
theorem dX4_setLimit_13 : decode cX4_setLimit 13 = .ok (.iload_n 1, 1) := by decide +kernel
theorem dX4_setLimit_14 : decode cX4_setLimit 14 = .ok (.putfield 34, 3) := by decide +kernel
theorem dX4_setLimit_17 : decode cX4_setLimit 17 = .ok (.iload_n 2, 1) := by decide +kernel
theorem dX4_setLimit_18 : decode cX4_setLimit 18 = .ok (.ireturn, 1) := by decide +kernel
theorem dX4_isGhost_0 : decode cX4_isGhost 0 = .ok (.aload_n 0, 1) := by decide +kernel
theorem dX4_isGhost_1 : decode cX4_isGhost 1 = .ok (.iload_n 1, 1) := by decide +kernel
theorem dX4_isGhost_2 : decode cX4_isGhost 2 = .ok (.invokevirtual 79, 3) := by decide +kernel
theorem dX4_isGhost_5 : decode cX4_isGhost 5 = .ok (.aload_n 0, 1) := by decide +kernel
theorem dX4_isGhost_6 : decode cX4_isGhost 6 = .ok (.aload_n 0, 1) := by decide +kernel
theorem dX4_isGhost_7 : decode cX4_isGhost 7 = .ok (.iload_n 1, 1) := by decide +kernel
theorem dX4_isGhost_8 : decode cX4_isGhost 8 = .ok (.invokevirtual 128, 3) := by decide +kernel
theorem dX4_isGhost_11 : decode cX4_isGhost 11 = .ok (.aload_n 0, 1) := by decide +kernel
theorem dX4_isGhost_12 : decode cX4_isGhost 12 = .ok (.getfield 68, 3) := by decide +kernel
theorem dX4_isGhost_15 : decode cX4_isGhost 15 = .ok (.invokevirtual 184, 3) := by decide +kernel
theorem dX4_isGhost_18 : decode cX4_isGhost 18 = .ok (.ireturn, 1) := by decide +kernel
theorem dX4_ghosts_0 : decode cX4_ghosts 0 = .ok (.aload_n 0, 1) := by decide +kernel
theorem dX4_ghosts_1 : decode cX4_ghosts 1 = .ok (.getfield 19, 3) := by decide +kernel
theorem dX4_ghosts_4 : decode cX4_ghosts 4 = .ok (.aload_n 0, 1) := by decide +kernel
theorem dX4_ghosts_5 : decode cX4_ghosts 5 = .ok (.getfield 12, 3) := by decide +kernel
theorem dX4_ghosts_8 : decode cX4_ghosts 8 = .ok (.invokevirtual 158, 3) := by decide +kernel
theorem dX4_ghosts_11 : decode cX4_ghosts 11 = .ok (.iconst 0, 1) := by decide +kernel
theorem dX4_ghosts_12 : decode cX4_ghosts 12 = .ok (.istore_n 1, 1) := by decide +kernel
theorem dX4_ghosts_13 : decode cX4_ghosts 13 = .ok (.iconst 0, 1) := by decide +kernel
theorem dX4_ghosts_14 : decode cX4_ghosts 14 = .ok (.istore_n 2, 1) := by decide +kernel
theorem dX4_ghosts_15 : decode cX4_ghosts 15 = .ok (.iload_n 2, 1) := by decide +kernel
theorem dX4_ghosts_16 : decode cX4_ghosts 16 = .ok (.aload_n 0, 1) := by decide +kernel
theorem dX4_ghosts_17 : decode cX4_ghosts 17 = .ok (.getfield 12, 3) := by decide +kernel
theorem dX4_ghosts_20 : decode cX4_ghosts 20 = .ok (.getfield 63, 3) := by decide +kernel
theorem dX4_ghosts_23 : decode cX4_ghosts 23 = .ok (.if_icmp .ge 32, 3) := by decide +kernel
theorem dX4_ghosts_26 : decode cX4_ghosts 26 = .ok (.aload_n 0, 1) := by decide +kernel
theorem dX4_ghosts_27 : decode cX4_ghosts 27 = .ok (.iload_n 2, 1) := by decide +kernel
theorem dX4_ghosts_28 : decode cX4_ghosts 28 = .ok (.invokevirtual 187, 3) := by decide +kernel
theorem dX4_ghosts_31 : decode cX4_ghosts 31 = .ok (.ifCond .eq 18, 3) := by decide +kernel
theorem dX4_ghosts_34 : decode cX4_ghosts 34 = .ok (.aload_n 0, 1) := by decide +kernel
theorem dX4_ghosts_35 : decode cX4_ghosts 35 = .ok (.iload_n 2, 1) := by decide +kernel
theorem dX4_ghosts_36 : decode cX4_ghosts 36 = .ok (.aload_n 0, 1) := by decide +kernel
theorem dX4_ghosts_37 : decode cX4_ghosts 37 = .ok (.getfield 68, 3) := by decide +kernel
theorem dX4_ghosts_40 : decode cX4_ghosts 40 = .ok (.invokevirtual 184, 3) := by decide +kernel
theorem dX4_ghosts_43 : decode cX4_ghosts 43 = .ok (.ifCond .eq 6, 3) := by decide +kernel
theorem dX4_ghosts_46 : decode cX4_ghosts 46 = .ok (.iinc 1 1, 3) := by decide +kernel
theorem dX4_ghosts_49 : decode cX4_ghosts 49 = .ok (.iinc 2 1, 3) := by decide +kernel
theorem dX4_ghosts_52 : decode cX4_ghosts 52 = .ok (.goto (-37), 3) := by decide +kernel
theorem dX4_ghosts_55 : decode cX4_ghosts 55 = .ok (.iload_n 1, 1) := by decide +kernel
theorem dX4_ghosts_56 : decode cX4_ghosts 56 = .ok (.ireturn, 1) := by decide +kernel
theorem dX4_nextGhost_0 : decode cX4_nextGhost 0 = .ok (.aload_n 0, 1) := by decide +kernel
theorem dX4_nextGhost_1 : decode cX4_nextGhost 1 = .ok (.getfield 19, 3) := by decide +kernel
theorem dX4_nextGhost_4 : decode cX4_nextGhost 4 = .ok (.aload_n 0, 1) := by decide +kernel
theorem dX4_nextGhost_5 : decode cX4_nextGhost 5 = .ok (.getfield 12, 3) := by decide +kernel
theorem dX4_nextGhost_8 : decode cX4_nextGhost 8 = .ok (.invokevirtual 158, 3) := by decide +kernel
theorem dX4_nextGhost_11 : decode cX4_nextGhost 11 = .ok (.iconst (-1), 1) := by decide +kernel
theorem dX4_nextGhost_12 : decode cX4_nextGhost 12 = .ok (.istore_n 1, 1) := by decide +kernel
theorem dX4_nextGhost_13 : decode cX4_nextGhost 13 = .ok (.iconst 0, 1) := by decide +kernel
theorem dX4_nextGhost_14 : decode cX4_nextGhost 14 = .ok (.istore_n 2, 1) := by decide +kernel
theorem dX4_nextGhost_15 : decode cX4_nextGhost 15 = .ok (.iload_n 2, 1) := by decide +kernel
theorem dX4_nextGhost_16 : decode cX4_nextGhost 16 = .ok (.aload_n 0, 1) := by decide +kernel
theorem dX4_nextGhost_17 : decode cX4_nextGhost 17 = .ok (.getfield 12, 3) := by decide +kernel
theorem dX4_nextGhost_20 : decode cX4_nextGhost 20 = .ok (.getfield 63, 3) := by decide +kernel
theorem dX4_nextGhost_23 : decode cX4_nextGhost 23 = .ok (.if_icmp .ge 57, 3) := by decide +kernel
theorem dX4_nextGhost_26 : decode cX4_nextGhost 26 = .ok (.aload_n 0, 1) := by decide +kernel
theorem dX4_nextGhost_27 : decode cX4_nextGhost 27 = .ok (.iload_n 2, 1) := by decide +kernel
theorem dX4_nextGhost_28 : decode cX4_nextGhost 28 = .ok (.invokevirtual 187, 3) := by decide +kernel
theorem dX4_nextGhost_31 : decode cX4_nextGhost 31 = .ok (.ifCond .eq 43, 3) := by decide +kernel
theorem dX4_nextGhost_34 : decode cX4_nextGhost 34 = .ok (.aload_n 0, 1) := by decide +kernel
theorem dX4_nextGhost_35 : decode cX4_nextGhost 35 = .ok (.iload_n 2, 1) := by decide +kernel
theorem dX4_nextGhost_36 : decode cX4_nextGhost 36 = .ok (.invokevirtual 191, 3) := by decide +kernel
theorem dX4_nextGhost_39 : decode cX4_nextGhost 39 = .ok (.aload_n 0, 1) := by decide +kernel
theorem dX4_nextGhost_40 : decode cX4_nextGhost 40 = .ok (.getfield 34, 3) := by decide +kernel
theorem dX4_nextGhost_43 : decode cX4_nextGhost 43 = .ok (.iadd, 1) := by decide +kernel
theorem dX4_nextGhost_44 : decode cX4_nextGhost 44 = .ok (.iconst 1, 1) := by decide +kernel
theorem dX4_nextGhost_45 : decode cX4_nextGhost 45 = .ok (.iadd, 1) := by decide +kernel
theorem dX4_nextGhost_46 : decode cX4_nextGhost 46 = .ok (.istore_n 3, 1) := by decide +kernel
theorem dX4_nextGhost_47 : decode cX4_nextGhost 47 = .ok (.iload_n 3, 1) := by decide +kernel
theorem dX4_nextGhost_48 : decode cX4_nextGhost 48 = .ok (.aload_n 0, 1) := by decide +kernel
theorem dX4_nextGhost_49 : decode cX4_nextGhost 49 = .ok (.getfield 68, 3) := by decide +kernel
theorem dX4_nextGhost_52 : decode cX4_nextGhost 52 = .ok (.if_icmp .le 22, 3) := by decide +kernel
theorem dX4_nextGhost_55 : decode cX4_nextGhost 55 = .ok (.iload_n 3, 1) := by decide +kernel
theorem dX4_nextGhost_56 : decode cX4_nextGhost 56 = .ok (.sipush 999, 3) := by decide +kernel
theorem dX4_nextGhost_59 : decode cX4_nextGhost 59 = .ok (.if_icmp .gt 15, 3) := by decide +kernel
theorem dX4_nextGhost_62 : decode cX4_nextGhost 62 = .ok (.iload_n 1, 1) := by decide +kernel
theorem dX4_nextGhost_63 : decode cX4_nextGhost 63 = .ok (.iconst (-1), 1) := by decide +kernel
theorem dX4_nextGhost_64 : decode cX4_nextGhost 64 = .ok (.if_icmp .eq 8, 3) := by decide +kernel
theorem dX4_nextGhost_67 : decode cX4_nextGhost 67 = .ok (.iload_n 3, 1) := by decide +kernel
theorem dX4_nextGhost_68 : decode cX4_nextGhost 68 = .ok (.iload_n 1, 1) := by decide +kernel
theorem dX4_nextGhost_69 : decode cX4_nextGhost 69 = .ok (.if_icmp .ge 5, 3) := by decide +kernel
theorem dX4_nextGhost_72 : decode cX4_nextGhost 72 = .ok (.iload_n 3, 1) := by decide +kernel
theorem dX4_nextGhost_73 : decode cX4_nextGhost 73 = .ok (.istore_n 1, 1) := by decide +kernel
theorem dX4_nextGhost_74 : decode cX4_nextGhost 74 = .ok (.iinc 2 1, 3) := by decide +kernel
theorem dX4_nextGhost_77 : decode cX4_nextGhost 77 = .ok (.goto (-62), 3) := by decide +kernel
theorem dX4_nextGhost_80 : decode cX4_nextGhost 80 = .ok (.iload_n 1, 1) := by decide +kernel
theorem dX4_nextGhost_81 : decode cX4_nextGhost 81 = .ok (.ireturn, 1) := by decide +kernel
theorem dX4_nextGhostByDays_0 : decode cX4_nextGhostByDays 0 = .ok (.aload_n 0, 1) := by decide +kernel
theorem dX4_nextGhostByDays_1 : decode cX4_nextGhostByDays 1 = .ok (.getfield 19, 3) := by decide +kernel
theorem dX4_nextGhostByDays_4 : decode cX4_nextGhostByDays 4 = .ok (.aload_n 0, 1) := by decide +kernel
theorem dX4_nextGhostByDays_5 : decode cX4_nextGhostByDays 5 = .ok (.getfield 12, 3) := by decide +kernel
theorem dX4_nextGhostByDays_8 : decode cX4_nextGhostByDays 8 = .ok (.invokevirtual 158, 3) := by decide +kernel
theorem dX4_nextGhostByDays_11 : decode cX4_nextGhostByDays 11 = .ok (.sipush 999, 3) := by decide +kernel
theorem dX4_nextGhostByDays_14 : decode cX4_nextGhostByDays 14 = .ok (.aload_n 0, 1) := by decide +kernel
theorem dX4_nextGhostByDays_15 : decode cX4_nextGhostByDays 15 = .ok (.getfield 68, 3) := by decide +kernel
theorem dX4_nextGhostByDays_18 : decode cX4_nextGhostByDays 18 = .ok (.aload_n 0, 1) := by decide +kernel
theorem dX4_nextGhostByDays_19 : decode cX4_nextGhostByDays 19 = .ok (.getfield 34, 3) := by decide +kernel
theorem dX4_nextGhostByDays_22 : decode cX4_nextGhostByDays 22 = .ok (.iadd, 1) := by decide +kernel
theorem dX4_nextGhostByDays_23 : decode cX4_nextGhostByDays 23 = .ok (.iconst 1, 1) := by decide +kernel
theorem dX4_nextGhostByDays_24 : decode cX4_nextGhostByDays 24 = .ok (.iadd, 1) := by decide +kernel
theorem dX4_nextGhostByDays_25 : decode cX4_nextGhostByDays 25 = .ok (.invokestatic 194, 3) := by decide +kernel
theorem dX4_nextGhostByDays_28 : decode cX4_nextGhostByDays 28 = .ok (.istore_n 1, 1) := by decide +kernel
theorem dX4_nextGhostByDays_29 : decode cX4_nextGhostByDays 29 = .ok (.aload_n 0, 1) := by decide +kernel
theorem dX4_nextGhostByDays_30 : decode cX4_nextGhostByDays 30 = .ok (.getfield 68, 3) := by decide +kernel
theorem dX4_nextGhostByDays_33 : decode cX4_nextGhostByDays 33 = .ok (.iconst 1, 1) := by decide +kernel
theorem dX4_nextGhostByDays_34 : decode cX4_nextGhostByDays 34 = .ok (.iadd, 1) := by decide +kernel
theorem dX4_nextGhostByDays_35 : decode cX4_nextGhostByDays 35 = .ok (.istore_n 2, 1) := by decide +kernel
theorem dX4_nextGhostByDays_36 : decode cX4_nextGhostByDays 36 = .ok (.iload_n 2, 1) := by decide +kernel
theorem dX4_nextGhostByDays_37 : decode cX4_nextGhostByDays 37 = .ok (.iload_n 1, 1) := by decide +kernel
theorem dX4_nextGhostByDays_38 : decode cX4_nextGhostByDays 38 = .ok (.if_icmp .gt 19, 3) := by decide +kernel
theorem dX4_nextGhostByDays_41 : decode cX4_nextGhostByDays 41 = .ok (.aload_n 0, 1) := by decide +kernel
theorem dX4_nextGhostByDays_42 : decode cX4_nextGhostByDays 42 = .ok (.iload_n 2, 1) := by decide +kernel
theorem dX4_nextGhostByDays_43 : decode cX4_nextGhostByDays 43 = .ok (.invokevirtual 199, 3) := by decide +kernel
theorem dX4_nextGhostByDays_46 : decode cX4_nextGhostByDays 46 = .ok (.ifCond .eq 5, 3) := by decide +kernel
theorem dX4_nextGhostByDays_49 : decode cX4_nextGhostByDays 49 = .ok (.iload_n 2, 1) := by decide +kernel
theorem dX4_nextGhostByDays_50 : decode cX4_nextGhostByDays 50 = .ok (.ireturn, 1) := by decide +kernel
theorem dX4_nextGhostByDays_51 : decode cX4_nextGhostByDays 51 = .ok (.iinc 2 1, 3) := by decide +kernel
theorem dX4_nextGhostByDays_54 : decode cX4_nextGhostByDays 54 = .ok (.goto (-18), 3) := by decide +kernel
theorem dX4_nextGhostByDays_57 : decode cX4_nextGhostByDays 57 = .ok (.iconst (-1), 1) := by decide +kernel
theorem dX4_nextGhostByDays_58 : decode cX4_nextGhostByDays 58 = .ok (.ireturn, 1) := by decide +kernel
theorem dX4_pass_0 : decode cX4_pass 0 = .ok (.iload_n 1, 1) := by decide +kernel
theorem dX4_pass_1 : decode cX4_pass 1 = .ok (.iconst 1, 1) := by decide +kernel
theorem dX4_pass_2 : decode cX4_pass 2 = .ok (.bipush 99, 2) := by decide +kernel
theorem dX4_pass_4 : decode cX4_pass 4 = .ok (.invokestatic 38, 3) := by decide +kernel
theorem dX4_pass_7 : decode cX4_pass 7 = .ok (.aload_n 0, 1) := by decide +kernel
theorem dX4_pass_8 : decode cX4_pass 8 = .ok (.getfield 68, 3) := by decide +kernel
theorem dX4_pass_11 : decode cX4_pass 11 = .ok (.iload_n 1, 1) := by decide +kernel
theorem dX4_pass_12 : decode cX4_pass 12 = .ok (.iadd, 1) := by decide +kernel
theorem dX4_pass_13 : decode cX4_pass 13 = .ok (.iconst 0, 1) := by decide +kernel
theorem dX4_pass_14 : decode cX4_pass 14 = .ok (.sipush 999, 3) := by decide +kernel
theorem dX4_pass_17 : decode cX4_pass 17 = .ok (.invokestatic 38, 3) := by decide +kernel
theorem dX4_pass_20 : decode cX4_pass 20 = .ok (.aload_n 0, 1) := by decide +kernel
theorem dX4_pass_21 : decode cX4_pass 21 = .ok (.dup, 1) := by decide +kernel
theorem dX4_pass_22 : decode cX4_pass 22 = .ok (.getfield 68, 3) := by decide +kernel
theorem dX4_pass_25 : decode cX4_pass 25 = .ok (.iload_n 1, 1) := by decide +kernel
theorem dX4_pass_26 : decode cX4_pass 26 = .ok (.iadd, 1) := by decide +kernel
theorem dX4_pass_27 : decode cX4_pass 27 = .ok (.putfield 68, 3) := by decide +kernel
theorem dX4_pass_30 : decode cX4_pass 30 = .ok (.aload_n 0, 1) := by decide +kernel
theorem dX4_pass_31 : decode cX4_pass 31 = .ok (.getfield 68, 3) := by decide +kernel
theorem dX4_pass_34 : decode cX4_pass 34 = .ok (.ireturn, 1) := by decide +kernel
theorem dX4_today_0 : decode cX4_today 0 = .ok (.aload_n 0, 1) := by decide +kernel
theorem dX4_today_1 : decode cX4_today 1 = .ok (.getfield 68, 3) := by decide +kernel
theorem dX4_today_4 : decode cX4_today 4 = .ok (.ireturn, 1) := by decide +kernel
theorem dX4_mark_0 : decode cX4_mark 0 = .ok (.aload_n 0, 1) := by decide +kernel
theorem dX4_mark_1 : decode cX4_mark 1 = .ok (.getfield 19, 3) := by decide +kernel
theorem dX4_mark_4 : decode cX4_mark 4 = .ok (.aload_n 0, 1) := by decide +kernel
theorem dX4_mark_5 : decode cX4_mark 5 = .ok (.getfield 12, 3) := by decide +kernel
theorem dX4_mark_8 : decode cX4_mark 8 = .ok (.invokevirtual 158, 3) := by decide +kernel
theorem dX4_mark_11 : decode cX4_mark 11 = .ok (.lconst 0, 1) := by decide +kernel
theorem dX4_mark_12 : decode cX4_mark 12 = .ok (.lstore_n 1, 1) := by decide +kernel
theorem dX4_mark_13 : decode cX4_mark 13 = .ok (.iconst 0, 1) := by decide +kernel
theorem dX4_mark_14 : decode cX4_mark 14 = .ok (.istore_n 3, 1) := by decide +kernel
theorem dX4_mark_15 : decode cX4_mark 15 = .ok (.iload_n 3, 1) := by decide +kernel
theorem dX4_mark_16 : decode cX4_mark 16 = .ok (.aload_n 0, 1) := by decide +kernel
theorem dX4_mark_17 : decode cX4_mark 17 = .ok (.getfield 12, 3) := by decide +kernel
theorem dX4_mark_20 : decode cX4_mark 20 = .ok (.getfield 63, 3) := by decide +kernel
theorem dX4_mark_23 : decode cX4_mark 23 = .ok (.if_icmp .ge 42, 3) := by decide +kernel
theorem dX4_mark_26 : decode cX4_mark 26 = .ok (.aload_n 0, 1) := by decide +kernel
theorem dX4_mark_27 : decode cX4_mark 27 = .ok (.iload_n 3, 1) := by decide +kernel
theorem dX4_mark_28 : decode cX4_mark 28 = .ok (.invokevirtual 187, 3) := by decide +kernel
theorem dX4_mark_31 : decode cX4_mark 31 = .ok (.ifCond .eq 28, 3) := by decide +kernel
theorem dX4_mark_34 : decode cX4_mark 34 = .ok (.aload_n 0, 1) := by decide +kernel
theorem dX4_mark_35 : decode cX4_mark 35 = .ok (.iload_n 3, 1) := by decide +kernel
theorem dX4_mark_36 : decode cX4_mark 36 = .ok (.invokevirtual 141, 3) := by decide +kernel
theorem dX4_mark_39 : decode cX4_mark 39 = .ok (.i2l, 1) := by decide +kernel
theorem dX4_mark_40 : decode cX4_mark 40 = .ok (.lstore 4, 2) := by decide +kernel
theorem dX4_mark_42 : decode cX4_mark 42 = .ok (.lload_n 1, 1) := by decide +kernel
theorem dX4_mark_43 : decode cX4_mark 43 = .ok (.lload 4, 2) := by decide +kernel
theorem dX4_mark_45 : decode cX4_mark 45 = .ok (.lload 4, 2) := by decide +kernel
theorem dX4_mark_47 : decode cX4_mark 47 = .ok (.lmul, 1) := by decide +kernel
theorem dX4_mark_48 : decode cX4_mark 48 = .ok (.aload_n 0, 1) := by decide +kernel
theorem dX4_mark_49 : decode cX4_mark 49 = .ok (.iload_n 3, 1) := by decide +kernel
theorem dX4_mark_50 : decode cX4_mark 50 = .ok (.invokevirtual 202, 3) := by decide +kernel
theorem dX4_mark_53 : decode cX4_mark 53 = .ok (.i2l, 1) := by decide +kernel
theorem dX4_mark_54 : decode cX4_mark 54 = .ok (.lmul, 1) := by decide +kernel
theorem dX4_mark_55 : decode cX4_mark 55 = .ok (.lconst 1, 1) := by decide +kernel
theorem dX4_mark_56 : decode cX4_mark 56 = .ok (.ladd, 1) := by decide +kernel
theorem dX4_mark_57 : decode cX4_mark 57 = .ok (.ladd, 1) := by decide +kernel
theorem dX4_mark_58 : decode cX4_mark 58 = .ok (.lstore_n 1, 1) := by decide +kernel
theorem dX4_mark_59 : decode cX4_mark 59 = .ok (.iinc 3 1, 3) := by decide +kernel
theorem dX4_mark_62 : decode cX4_mark 62 = .ok (.goto (-47), 3) := by decide +kernel
theorem dX4_mark_65 : decode cX4_mark 65 = .ok (.lload_n 1, 1) := by decide +kernel
theorem dX4_mark_66 : decode cX4_mark 66 = .ok (.lreturn, 1) := by decide +kernel
theorem dX4_checkSource_0 : decode cX4_checkSource 0 = .ok (.iload_n 1, 1) := by decide +kernel
theorem dX4_checkSource_1 : decode cX4_checkSource 1 = .ok (.ifCond .lt 14, 3) := by decide +kernel
theorem dX4_checkSource_4 : decode cX4_checkSource 4 = .ok (.iload_n 1, 1) := by decide +kernel
theorem dX4_checkSource_5 : decode cX4_checkSource 5 = .ok (.aload_n 0, 1) := by decide +kernel
theorem dX4_checkSource_6 : decode cX4_checkSource 6 = .ok (.getfield 12, 3) := by decide +kernel
theorem dX4_checkSource_9 : decode cX4_checkSource 9 = .ok (.getfield 42, 3) := by decide +kernel
theorem dX4_checkSource_12 : decode cX4_checkSource 12 = .ok (.if_icmp .lt 13, 3) := by decide +kernel
theorem dX4_checkSource_15 : decode cX4_checkSource 15 = .ok (.new 205, 3) := by decide +kernel
theorem dX4_checkSource_18 : decode cX4_checkSource 18 = .ok (.dup, 1) := by decide +kernel
theorem dX4_checkSource_19 : decode cX4_checkSource 19 = .ok (.ldc 207, 2) := by decide +kernel
theorem dX4_checkSource_21 : decode cX4_checkSource 21 = .ok (.invokespecial 209, 3) := by decide +kernel
theorem dX4_checkSource_24 : decode cX4_checkSource 24 = .ok (.athrow, 1) := by decide +kernel
theorem dX4_checkSource_25 : decode cX4_checkSource 25 = .ok (.return_, 1) := by decide +kernel
theorem dX4_checkRecord_0 : decode cX4_checkRecord 0 = .ok (.aload_n 0, 1) := by decide +kernel
theorem dX4_checkRecord_1 : decode cX4_checkRecord 1 = .ok (.getfield 12, 3) := by decide +kernel
theorem dX4_checkRecord_4 : decode cX4_checkRecord 4 = .ok (.iload_n 1, 1) := by decide +kernel
theorem dX4_checkRecord_5 : decode cX4_checkRecord 5 = .ok (.invokevirtual 210, 3) := by decide +kernel
theorem dX4_checkRecord_8 : decode cX4_checkRecord 8 = .ok (.ifCond .ne 13, 3) := by decide +kernel
theorem dX4_checkRecord_11 : decode cX4_checkRecord 11 = .ok (.new 205, 3) := by decide +kernel
theorem dX4_checkRecord_14 : decode cX4_checkRecord 14 = .ok (.dup, 1) := by decide +kernel
theorem dX4_checkRecord_15 : decode cX4_checkRecord 15 = .ok (.ldc 213, 2) := by decide +kernel
theorem dX4_checkRecord_17 : decode cX4_checkRecord 17 = .ok (.invokespecial 209, 3) := by decide +kernel
theorem dX4_checkRecord_20 : decode cX4_checkRecord 20 = .ok (.athrow, 1) := by decide +kernel
theorem dX4_checkRecord_21 : decode cX4_checkRecord 21 = .ok (.return_, 1) := by decide +kernel
theorem dX4_checkKind_0 : decode cX4_checkKind 0 = .ok (.iload_n 0, 1) := by decide +kernel
theorem dX4_checkKind_1 : decode cX4_checkKind 1 = .ok (.ifCond .lt 8, 3) := by decide +kernel
theorem dX4_checkKind_4 : decode cX4_checkKind 4 = .ok (.iload_n 0, 1) := by decide +kernel
theorem dX4_checkKind_5 : decode cX4_checkKind 5 = .ok (.iconst 3, 1) := by decide +kernel
theorem dX4_checkKind_6 : decode cX4_checkKind 6 = .ok (.if_icmp .lt 13, 3) := by decide +kernel
theorem dX4_checkKind_9 : decode cX4_checkKind 9 = .ok (.new 205, 3) := by decide +kernel
theorem dX4_checkKind_12 : decode cX4_checkKind 12 = .ok (.dup, 1) := by decide +kernel
theorem dX4_checkKind_13 : decode cX4_checkKind 13 = .ok (.ldc 215, 2) := by decide +kernel
theorem dX4_checkKind_15 : decode cX4_checkKind 15 = .ok (.invokespecial 209, 3) := by decide +kernel
theorem dX4_checkKind_18 : decode cX4_checkKind 18 = .ok (.athrow, 1) := by decide +kernel
theorem dX4_checkKind_19 : decode cX4_checkKind 19 = .ok (.return_, 1) := by decide +kernel
theorem dX4_checkField_0 : decode cX4_checkField 0 = .ok (.iload_n 0, 1) := by decide +kernel
theorem dX4_checkField_1 : decode cX4_checkField 1 = .ok (.ifCond .lt 8, 3) := by decide +kernel
theorem dX4_checkField_4 : decode cX4_checkField 4 = .ok (.iload_n 0, 1) := by decide +kernel
theorem dX4_checkField_5 : decode cX4_checkField 5 = .ok (.iconst 3, 1) := by decide +kernel
theorem dX4_checkField_6 : decode cX4_checkField 6 = .ok (.if_icmp .lt 13, 3) := by decide +kernel
theorem dX4_checkField_9 : decode cX4_checkField 9 = .ok (.new 205, 3) := by decide +kernel
theorem dX4_checkField_12 : decode cX4_checkField 12 = .ok (.dup, 1) := by decide +kernel
theorem dX4_checkField_13 : decode cX4_checkField 13 = .ok (.ldc 217, 2) := by decide +kernel
theorem dX4_checkField_15 : decode cX4_checkField 15 = .ok (.invokespecial 209, 3) := by decide +kernel
theorem dX4_checkField_18 : decode cX4_checkField 18 = .ok (.athrow, 1) := by decide +kernel
theorem dX4_checkField_19 : decode cX4_checkField 19 = .ok (.return_, 1) := by decide +kernel
theorem dX4_checkRange_0 : decode cX4_checkRange 0 = .ok (.iload_n 0, 1) := by decide +kernel
theorem dX4_checkRange_1 : decode cX4_checkRange 1 = .ok (.iload_n 1, 1) := by decide +kernel
theorem dX4_checkRange_2 : decode cX4_checkRange 2 = .ok (.if_icmp .lt 8, 3) := by decide +kernel
theorem dX4_checkRange_5 : decode cX4_checkRange 5 = .ok (.iload_n 0, 1) := by decide +kernel
theorem dX4_checkRange_6 : decode cX4_checkRange 6 = .ok (.iload_n 2, 1) := by decide +kernel
theorem dX4_checkRange_7 : decode cX4_checkRange 7 = .ok (.if_icmp .le 13, 3) := by decide +kernel
theorem dX4_checkRange_10 : decode cX4_checkRange 10 = .ok (.new 219, 3) := by decide +kernel
theorem dX4_checkRange_13 : decode cX4_checkRange 13 = .ok (.dup, 1) := by decide +kernel
theorem dX4_checkRange_14 : decode cX4_checkRange 14 = .ok (.ldc 221, 2) := by decide +kernel
theorem dX4_checkRange_16 : decode cX4_checkRange 16 = .ok (.invokespecial 223, 3) := by decide +kernel
theorem dX4_checkRange_19 : decode cX4_checkRange 19 = .ok (.athrow, 1) := by decide +kernel
theorem dX4_checkRange_20 : decode cX4_checkRange 20 = .ok (.return_, 1) := by decide +kernel
theorem dX4_checkDifferent_0 : decode cX4_checkDifferent 0 = .ok (.iload_n 0, 1) := by decide +kernel
theorem dX4_checkDifferent_1 : decode cX4_checkDifferent 1 = .ok (.iload_n 1, 1) := by decide +kernel
theorem dX4_checkDifferent_2 : decode cX4_checkDifferent 2 = .ok (.if_icmp .ne 13, 3) := by decide +kernel
theorem dX4_checkDifferent_5 : decode cX4_checkDifferent 5 = .ok (.new 219, 3) := by decide +kernel
theorem dX4_checkDifferent_8 : decode cX4_checkDifferent 8 = .ok (.dup, 1) := by decide +kernel
theorem dX4_checkDifferent_9 : decode cX4_checkDifferent 9 = .ok (.ldc 224, 2) := by decide +kernel
theorem dX4_checkDifferent_11 : decode cX4_checkDifferent 11 = .ok (.invokespecial 223, 3) := by decide +kernel
theorem dX4_checkDifferent_14 : decode cX4_checkDifferent 14 = .ok (.athrow, 1) := by decide +kernel
theorem dX4_checkDifferent_15 : decode cX4_checkDifferent 15 = .ok (.return_, 1) := by decide +kernel
theorem dX4_checkForbidden_0 : decode cX4_checkForbidden 0 = .ok (.aload_n 0, 1) := by decide +kernel
theorem dX4_checkForbidden_1 : decode cX4_checkForbidden 1 = .ok (.getfield 12, 3) := by decide +kernel
theorem dX4_checkForbidden_4 : decode cX4_checkForbidden 4 = .ok (.iload_n 1, 1) := by decide +kernel
theorem dX4_checkForbidden_5 : decode cX4_checkForbidden 5 = .ok (.iload_n 2, 1) := by decide +kernel
theorem dX4_checkForbidden_6 : decode cX4_checkForbidden 6 = .ok (.invokevirtual 105, 3) := by decide +kernel
theorem dX4_checkForbidden_9 : decode cX4_checkForbidden 9 = .ok (.ifCond .ne 13, 3) := by decide +kernel
theorem dX4_checkForbidden_12 : decode cX4_checkForbidden 12 = .ok (.new 147, 3) := by decide +kernel
theorem dX4_checkForbidden_15 : decode cX4_checkForbidden 15 = .ok (.dup, 1) := by decide +kernel
theorem dX4_checkForbidden_16 : decode cX4_checkForbidden 16 = .ok (.ldc 226, 2) := by decide +kernel
theorem dX4_checkForbidden_18 : decode cX4_checkForbidden 18 = .ok (.invokespecial 151, 3) := by decide +kernel
theorem dX4_checkForbidden_21 : decode cX4_checkForbidden 21 = .ok (.athrow, 1) := by decide +kernel
theorem dX4_checkForbidden_22 : decode cX4_checkForbidden 22 = .ok (.return_, 1) := by decide +kernel
theorem dX4_checkFactRecord_0 : decode cX4_checkFactRecord 0 = .ok (.iload_n 0, 1) := by decide +kernel
theorem dX4_checkFactRecord_1 : decode cX4_checkFactRecord 1 = .ok (.ifCond .lt 9, 3) := by decide +kernel
theorem dX4_checkFactRecord_4 : decode cX4_checkFactRecord 4 = .ok (.iload_n 0, 1) := by decide +kernel
theorem dX4_checkFactRecord_5 : decode cX4_checkFactRecord 5 = .ok (.bipush 24, 2) := by decide +kernel
theorem dX4_checkFactRecord_7 : decode cX4_checkFactRecord 7 = .ok (.if_icmp .lt 13, 3) := by decide +kernel
theorem dX4_checkFactRecord_10 : decode cX4_checkFactRecord 10 = .ok (.new 147, 3) := by decide +kernel
theorem dX4_checkFactRecord_13 : decode cX4_checkFactRecord 13 = .ok (.dup, 1) := by decide +kernel
theorem dX4_checkFactRecord_14 : decode cX4_checkFactRecord 14 = .ok (.ldc 228, 2) := by decide +kernel
theorem dX4_checkFactRecord_16 : decode cX4_checkFactRecord 16 = .ok (.invokespecial 151, 3) := by decide +kernel
theorem dX4_checkFactRecord_19 : decode cX4_checkFactRecord 19 = .ok (.athrow, 1) := by decide +kernel
theorem dX4_checkFactRecord_20 : decode cX4_checkFactRecord 20 = .ok (.return_, 1) := by decide +kernel
theorem dX4_findThing_0 : decode cX4_findThing 0 = .ok (.aload_n 0, 1) := by decide +kernel
theorem dX4_findThing_1 : decode cX4_findThing 1 = .ok (.getfield 19, 3) := by decide +kernel
theorem dX4_findThing_4 : decode cX4_findThing 4 = .ok (.aload_n 0, 1) := by decide +kernel
theorem dX4_findThing_5 : decode cX4_findThing 5 = .ok (.getfield 12, 3) := by decide +kernel
theorem dX4_findThing_8 : decode cX4_findThing 8 = .ok (.invokevirtual 158, 3) := by decide +kernel
theorem dX4_findThing_11 : decode cX4_findThing 11 = .ok (.aload_n 0, 1) := by decide +kernel
theorem dX4_findThing_12 : decode cX4_findThing 12 = .ok (.getfield 19, 3) := by decide +kernel
theorem dX4_findThing_15 : decode cX4_findThing 15 = .ok (.getfield 152, 3) := by decide +kernel
theorem dX4_findThing_18 : decode cX4_findThing 18 = .ok (.iconst 2, 1) := by decide +kernel
theorem dX4_findThing_19 : decode cX4_findThing 19 = .ok (.aaload, 1) := by decide +kernel
theorem dX4_findThing_20 : decode cX4_findThing 20 = .ok (.iload_n 1, 1) := by decide +kernel
theorem dX4_findThing_21 : decode cX4_findThing 21 = .ok (.iaload, 1) := by decide +kernel
theorem dX4_findThing_22 : decode cX4_findThing 22 = .ok (.ireturn, 1) := by decide +kernel
theorem dX4_countThings_0 : decode cX4_countThings 0 = .ok (.aload_n 0, 1) := by decide +kernel
theorem dX4_countThings_1 : decode cX4_countThings 1 = .ok (.getfield 19, 3) := by decide +kernel
theorem dX4_countThings_4 : decode cX4_countThings 4 = .ok (.aload_n 0, 1) := by decide +kernel
theorem dX4_countThings_5 : decode cX4_countThings 5 = .ok (.getfield 12, 3) := by decide +kernel
theorem dX4_countThings_8 : decode cX4_countThings 8 = .ok (.invokevirtual 158, 3) := by decide +kernel
theorem dX4_countThings_11 : decode cX4_countThings 11 = .ok (.iconst 0, 1) := by decide +kernel
theorem dX4_countThings_12 : decode cX4_countThings 12 = .ok (.istore_n 1, 1) := by decide +kernel
theorem dX4_countThings_13 : decode cX4_countThings 13 = .ok (.iconst 0, 1) := by decide +kernel
theorem dX4_countThings_14 : decode cX4_countThings 14 = .ok (.istore_n 2, 1) := by decide +kernel
theorem dX4_countThings_15 : decode cX4_countThings 15 = .ok (.iload_n 2, 1) := by decide +kernel
theorem dX4_countThings_16 : decode cX4_countThings 16 = .ok (.aload_n 0, 1) := by decide +kernel
theorem dX4_countThings_17 : decode cX4_countThings 17 = .ok (.getfield 12, 3) := by decide +kernel
theorem dX4_countThings_20 : decode cX4_countThings 20 = .ok (.getfield 63, 3) := by decide +kernel
theorem dX4_countThings_23 : decode cX4_countThings 23 = .ok (.if_icmp .ge 20, 3) := by decide +kernel
theorem dX4_countThings_26 : decode cX4_countThings 26 = .ok (.aload_n 0, 1) := by decide +kernel
theorem dX4_countThings_27 : decode cX4_countThings 27 = .ok (.iload_n 2, 1) := by decide +kernel
theorem dX4_countThings_28 : decode cX4_countThings 28 = .ok (.invokevirtual 187, 3) := by decide +kernel
theorem dX4_countThings_31 : decode cX4_countThings 31 = .ok (.ifCond .eq 6, 3) := by decide +kernel
theorem dX4_countThings_34 : decode cX4_countThings 34 = .ok (.iinc 1 1, 3) := by decide +kernel
theorem dX4_countThings_37 : decode cX4_countThings 37 = .ok (.iinc 2 1, 3) := by decide +kernel
theorem dX4_countThings_40 : decode cX4_countThings 40 = .ok (.goto (-25), 3) := by decide +kernel
theorem dX4_countThings_43 : decode cX4_countThings 43 = .ok (.iload_n 1, 1) := by decide +kernel
theorem dX4_countThings_44 : decode cX4_countThings 44 = .ok (.ireturn, 1) := by decide +kernel
theorem dX4_findStep_0 : decode cX4_findStep 0 = .ok (.aload_n 0, 1) := by decide +kernel
theorem dX4_findStep_1 : decode cX4_findStep 1 = .ok (.getfield 19, 3) := by decide +kernel
theorem dX4_findStep_4 : decode cX4_findStep 4 = .ok (.aload_n 0, 1) := by decide +kernel
theorem dX4_findStep_5 : decode cX4_findStep 5 = .ok (.getfield 12, 3) := by decide +kernel
theorem dX4_findStep_8 : decode cX4_findStep 8 = .ok (.invokevirtual 158, 3) := by decide +kernel
theorem dX4_findStep_11 : decode cX4_findStep 11 = .ok (.iconst 0, 1) := by decide +kernel
theorem dX4_findStep_12 : decode cX4_findStep 12 = .ok (.istore_n 3, 1) := by decide +kernel
theorem dX4_findStep_13 : decode cX4_findStep 13 = .ok (.iload_n 3, 1) := by decide +kernel
theorem dX4_findStep_14 : decode cX4_findStep 14 = .ok (.iconst 3, 1) := by decide +kernel
theorem dX4_findStep_15 : decode cX4_findStep 15 = .ok (.if_icmp .ge 36, 3) := by decide +kernel
theorem dX4_findStep_18 : decode cX4_findStep 18 = .ok (.aload_n 0, 1) := by decide +kernel
theorem dX4_findStep_19 : decode cX4_findStep 19 = .ok (.getfield 19, 3) := by decide +kernel
theorem dX4_findStep_22 : decode cX4_findStep 22 = .ok (.getfield 152, 3) := by decide +kernel
theorem dX4_findStep_25 : decode cX4_findStep 25 = .ok (.iload_n 3, 1) := by decide +kernel
theorem dX4_findStep_26 : decode cX4_findStep 26 = .ok (.aaload, 1) := by decide +kernel
theorem dX4_findStep_27 : decode cX4_findStep 27 = .ok (.iload_n 1, 1) := by decide +kernel
theorem dX4_findStep_28 : decode cX4_findStep 28 = .ok (.iaload, 1) := by decide +kernel
theorem dX4_findStep_29 : decode cX4_findStep 29 = .ok (.aload_n 0, 1) := by decide +kernel
theorem dX4_findStep_30 : decode cX4_findStep 30 = .ok (.getfield 19, 3) := by decide +kernel
theorem dX4_findStep_33 : decode cX4_findStep 33 = .ok (.getfield 152, 3) := by decide +kernel
theorem dX4_findStep_36 : decode cX4_findStep 36 = .ok (.iload_n 3, 1) := by decide +kernel
theorem dX4_findStep_37 : decode cX4_findStep 37 = .ok (.aaload, 1) := by decide +kernel
theorem dX4_findStep_38 : decode cX4_findStep 38 = .ok (.iload_n 2, 1) := by decide +kernel
theorem dX4_findStep_39 : decode cX4_findStep 39 = .ok (.iaload, 1) := by decide +kernel
theorem dX4_findStep_40 : decode cX4_findStep 40 = .ok (.if_icmp .ne 5, 3) := by decide +kernel
theorem dX4_findStep_43 : decode cX4_findStep 43 = .ok (.iload_n 3, 1) := by decide +kernel
theorem dX4_findStep_44 : decode cX4_findStep 44 = .ok (.ireturn, 1) := by decide +kernel
theorem dX4_findStep_45 : decode cX4_findStep 45 = .ok (.iinc 3 1, 3) := by decide +kernel
theorem dX4_findStep_48 : decode cX4_findStep 48 = .ok (.goto (-35), 3) := by decide +kernel
theorem dX4_findStep_51 : decode cX4_findStep 51 = .ok (.iconst (-1), 1) := by decide +kernel
theorem dX4_findStep_52 : decode cX4_findStep 52 = .ok (.ireturn, 1) := by decide +kernel
theorem dX4_isThing_0 : decode cX4_isThing 0 = .ok (.aload_n 0, 1) := by decide +kernel
theorem dX4_isThing_1 : decode cX4_isThing 1 = .ok (.iload_n 1, 1) := by decide +kernel
theorem dX4_isThing_2 : decode cX4_isThing 2 = .ok (.iload_n 1, 1) := by decide +kernel
theorem dX4_isThing_3 : decode cX4_isThing 3 = .ok (.invokevirtual 230, 3) := by decide +kernel
theorem dX4_isThing_6 : decode cX4_isThing 6 = .ok (.ireturn, 1) := by decide +kernel
theorem dX4_isMember_0 : decode cX4_isMember 0 = .ok (.aload_n 0, 1) := by decide +kernel
theorem dX4_isMember_1 : decode cX4_isMember 1 = .ok (.getfield 12, 3) := by decide +kernel
theorem dX4_isMember_4 : decode cX4_isMember 4 = .ok (.iload_n 1, 1) := by decide +kernel
theorem dX4_isMember_5 : decode cX4_isMember 5 = .ok (.invokevirtual 210, 3) := by decide +kernel
theorem dX4_isMember_8 : decode cX4_isMember 8 = .ok (.ifCond .eq 22, 3) := by decide +kernel
theorem dX4_isMember_11 : decode cX4_isMember 11 = .ok (.aload_n 0, 1) := by decide +kernel
theorem dX4_isMember_12 : decode cX4_isMember 12 = .ok (.getfield 19, 3) := by decide +kernel
theorem dX4_isMember_15 : decode cX4_isMember 15 = .ok (.getfield 152, 3) := by decide +kernel
theorem dX4_isMember_18 : decode cX4_isMember 18 = .ok (.iconst 2, 1) := by decide +kernel
theorem dX4_isMember_19 : decode cX4_isMember 19 = .ok (.aaload, 1) := by decide +kernel
theorem dX4_isMember_20 : decode cX4_isMember 20 = .ok (.iload_n 1, 1) := by decide +kernel
theorem dX4_isMember_21 : decode cX4_isMember 21 = .ok (.iaload, 1) := by decide +kernel
theorem dX4_isMember_22 : decode cX4_isMember 22 = .ok (.iload_n 2, 1) := by decide +kernel
theorem dX4_isMember_23 : decode cX4_isMember 23 = .ok (.if_icmp .ne 7, 3) := by decide +kernel
theorem dX4_isMember_26 : decode cX4_isMember 26 = .ok (.iconst 1, 1) := by decide +kernel
theorem dX4_isMember_27 : decode cX4_isMember 27 = .ok (.goto 4, 3) := by decide +kernel
theorem dX4_isMember_30 : decode cX4_isMember 30 = .ok (.iconst 0, 1) := by decide +kernel
theorem dX4_isMember_31 : decode cX4_isMember 31 = .ok (.ireturn, 1) := by decide +kernel
theorem dX4_countMembers_0 : decode cX4_countMembers 0 = .ok (.iconst 0, 1) := by decide +kernel
theorem dX4_countMembers_1 : decode cX4_countMembers 1 = .ok (.istore_n 2, 1) := by decide +kernel
theorem dX4_countMembers_2 : decode cX4_countMembers 2 = .ok (.iconst 0, 1) := by decide +kernel
theorem dX4_countMembers_3 : decode cX4_countMembers 3 = .ok (.istore_n 3, 1) := by decide +kernel
theorem dX4_countMembers_4 : decode cX4_countMembers 4 = .ok (.iload_n 3, 1) := by decide +kernel
theorem dX4_countMembers_5 : decode cX4_countMembers 5 = .ok (.aload_n 0, 1) := by decide +kernel
theorem dX4_countMembers_6 : decode cX4_countMembers 6 = .ok (.getfield 12, 3) := by decide +kernel
theorem dX4_countMembers_9 : decode cX4_countMembers 9 = .ok (.getfield 63, 3) := by decide +kernel
theorem dX4_countMembers_12 : decode cX4_countMembers 12 = .ok (.if_icmp .ge 21, 3) := by decide +kernel
theorem dX4_countMembers_15 : decode cX4_countMembers 15 = .ok (.aload_n 0, 1) := by decide +kernel
theorem dX4_countMembers_16 : decode cX4_countMembers 16 = .ok (.iload_n 3, 1) := by decide +kernel
theorem dX4_countMembers_17 : decode cX4_countMembers 17 = .ok (.iload_n 1, 1) := by decide +kernel
theorem dX4_countMembers_18 : decode cX4_countMembers 18 = .ok (.invokevirtual 230, 3) := by decide +kernel
theorem dX4_countMembers_21 : decode cX4_countMembers 21 = .ok (.ifCond .eq 6, 3) := by decide +kernel
theorem dX4_countMembers_24 : decode cX4_countMembers 24 = .ok (.iinc 2 1, 3) := by decide +kernel
theorem dX4_countMembers_27 : decode cX4_countMembers 27 = .ok (.iinc 3 1, 3) := by decide +kernel
theorem dX4_countMembers_30 : decode cX4_countMembers 30 = .ok (.goto (-26), 3) := by decide +kernel
theorem dX4_countMembers_33 : decode cX4_countMembers 33 = .ok (.iload_n 2, 1) := by decide +kernel
theorem dX4_countMembers_34 : decode cX4_countMembers 34 = .ok (.ireturn, 1) := by decide +kernel
theorem dX4_sumMembers_0 : decode cX4_sumMembers 0 = .ok (.iconst 0, 1) := by decide +kernel
theorem dX4_sumMembers_1 : decode cX4_sumMembers 1 = .ok (.istore_n 2, 1) := by decide +kernel
theorem dX4_sumMembers_2 : decode cX4_sumMembers 2 = .ok (.iconst 0, 1) := by decide +kernel
theorem dX4_sumMembers_3 : decode cX4_sumMembers 3 = .ok (.istore_n 3, 1) := by decide +kernel
theorem dX4_sumMembers_4 : decode cX4_sumMembers 4 = .ok (.iload_n 3, 1) := by decide +kernel
theorem dX4_sumMembers_5 : decode cX4_sumMembers 5 = .ok (.aload_n 0, 1) := by decide +kernel
theorem dX4_sumMembers_6 : decode cX4_sumMembers 6 = .ok (.getfield 12, 3) := by decide +kernel
theorem dX4_sumMembers_9 : decode cX4_sumMembers 9 = .ok (.getfield 63, 3) := by decide +kernel
theorem dX4_sumMembers_12 : decode cX4_sumMembers 12 = .ok (.if_icmp .ge 22, 3) := by decide +kernel
theorem dX4_sumMembers_15 : decode cX4_sumMembers 15 = .ok (.aload_n 0, 1) := by decide +kernel
theorem dX4_sumMembers_16 : decode cX4_sumMembers 16 = .ok (.iload_n 3, 1) := by decide +kernel
theorem dX4_sumMembers_17 : decode cX4_sumMembers 17 = .ok (.iload_n 1, 1) := by decide +kernel
theorem dX4_sumMembers_18 : decode cX4_sumMembers 18 = .ok (.invokevirtual 230, 3) := by decide +kernel
theorem dX4_sumMembers_21 : decode cX4_sumMembers 21 = .ok (.ifCond .eq 7, 3) := by decide +kernel
theorem dX4_sumMembers_24 : decode cX4_sumMembers 24 = .ok (.iload_n 2, 1) := by decide +kernel
theorem dX4_sumMembers_25 : decode cX4_sumMembers 25 = .ok (.iload_n 3, 1) := by decide +kernel
theorem dX4_sumMembers_26 : decode cX4_sumMembers 26 = .ok (.iadd, 1) := by decide +kernel
theorem dX4_sumMembers_27 : decode cX4_sumMembers 27 = .ok (.istore_n 2, 1) := by decide +kernel
theorem dX4_sumMembers_28 : decode cX4_sumMembers 28 = .ok (.iinc 3 1, 3) := by decide +kernel
theorem dX4_sumMembers_31 : decode cX4_sumMembers 31 = .ok (.goto (-27), 3) := by decide +kernel
theorem dX4_sumMembers_34 : decode cX4_sumMembers 34 = .ok (.iload_n 2, 1) := by decide +kernel
theorem dX4_sumMembers_35 : decode cX4_sumMembers 35 = .ok (.ireturn, 1) := by decide +kernel
theorem dX4_findMember_0 : decode cX4_findMember 0 = .ok (.iconst 0, 1) := by decide +kernel
theorem dX4_findMember_1 : decode cX4_findMember 1 = .ok (.istore_n 3, 1) := by decide +kernel
theorem dX4_findMember_2 : decode cX4_findMember 2 = .ok (.iconst 0, 1) := by decide +kernel
theorem dX4_findMember_3 : decode cX4_findMember 3 = .ok (.istore 4, 2) := by decide +kernel
theorem dX4_findMember_5 : decode cX4_findMember 5 = .ok (.iload 4, 2) := by decide +kernel
theorem dX4_findMember_7 : decode cX4_findMember 7 = .ok (.aload_n 0, 1) := by decide +kernel
theorem dX4_findMember_8 : decode cX4_findMember 8 = .ok (.getfield 12, 3) := by decide +kernel
theorem dX4_findMember_11 : decode cX4_findMember 11 = .ok (.getfield 63, 3) := by decide +kernel
theorem dX4_findMember_14 : decode cX4_findMember 14 = .ok (.if_icmp .ge 30, 3) := by decide +kernel
theorem dX4_findMember_17 : decode cX4_findMember 17 = .ok (.aload_n 0, 1) := by decide +kernel
theorem dX4_findMember_18 : decode cX4_findMember 18 = .ok (.iload 4, 2) := by decide +kernel
theorem dX4_findMember_20 : decode cX4_findMember 20 = .ok (.iload_n 1, 1) := by decide +kernel
theorem dX4_findMember_21 : decode cX4_findMember 21 = .ok (.invokevirtual 230, 3) := by decide +kernel
theorem dX4_findMember_24 : decode cX4_findMember 24 = .ok (.ifCond .eq 14, 3) := by decide +kernel
theorem dX4_findMember_27 : decode cX4_findMember 27 = .ok (.iload_n 3, 1) := by decide +kernel
theorem dX4_findMember_28 : decode cX4_findMember 28 = .ok (.iload_n 2, 1) := by decide +kernel
theorem dX4_findMember_29 : decode cX4_findMember 29 = .ok (.if_icmp .ne 6, 3) := by decide +kernel
theorem dX4_findMember_32 : decode cX4_findMember 32 = .ok (.iload 4, 2) := by decide +kernel
theorem dX4_findMember_34 : decode cX4_findMember 34 = .ok (.ireturn, 1) := by decide +kernel
theorem dX4_findMember_35 : decode cX4_findMember 35 = .ok (.iinc 3 1, 3) := by decide +kernel
theorem dX4_findMember_38 : decode cX4_findMember 38 = .ok (.iinc 4 1, 3) := by decide +kernel
theorem dX4_findMember_41 : decode cX4_findMember 41 = .ok (.goto (-36), 3) := by decide +kernel
theorem dX4_findMember_44 : decode cX4_findMember 44 = .ok (.iconst (-1), 1) := by decide +kernel
theorem dX4_findMember_45 : decode cX4_findMember 45 = .ok (.ireturn, 1) := by decide +kernel
theorem dX4_isKeyElsewhere_0 : decode cX4_isKeyElsewhere 0 = .ok (.aload_n 0, 1) := by decide +kernel
theorem dX4_isKeyElsewhere_1 : decode cX4_isKeyElsewhere 1 = .ok (.getfield 19, 3) := by decide +kernel
theorem dX4_isKeyElsewhere_4 : decode cX4_isKeyElsewhere 4 = .ok (.getfield 152, 3) := by decide +kernel
theorem dX4_isKeyElsewhere_7 : decode cX4_isKeyElsewhere 7 = .ok (.iconst 2, 1) := by decide +kernel
theorem dX4_isKeyElsewhere_8 : decode cX4_isKeyElsewhere 8 = .ok (.aaload, 1) := by decide +kernel
theorem dX4_isKeyElsewhere_9 : decode cX4_isKeyElsewhere 9 = .ok (.iload_n 1, 1) := by decide +kernel
theorem dX4_isKeyElsewhere_10 : decode cX4_isKeyElsewhere 10 = .ok (.iaload, 1) := by decide +kernel
theorem dX4_isKeyElsewhere_11 : decode cX4_isKeyElsewhere 11 = .ok (.istore_n 3, 1) := by decide +kernel
theorem dX4_isKeyElsewhere_12 : decode cX4_isKeyElsewhere 12 = .ok (.iconst 0, 1) := by decide +kernel
theorem dX4_isKeyElsewhere_13 : decode cX4_isKeyElsewhere 13 = .ok (.istore 4, 2) := by decide +kernel
theorem dX4_isKeyElsewhere_15 : decode cX4_isKeyElsewhere 15 = .ok (.iload 4, 2) := by decide +kernel
theorem dX4_isKeyElsewhere_17 : decode cX4_isKeyElsewhere 17 = .ok (.aload_n 0, 1) := by decide +kernel
theorem dX4_isKeyElsewhere_18 : decode cX4_isKeyElsewhere 18 = .ok (.getfield 12, 3) := by decide +kernel
theorem dX4_isKeyElsewhere_21 : decode cX4_isKeyElsewhere 21 = .ok (.getfield 63, 3) := by decide +kernel
theorem dX4_isKeyElsewhere_24 : decode cX4_isKeyElsewhere 24 = .ok (.if_icmp .ge 41, 3) := by decide +kernel
theorem dX4_isKeyElsewhere_27 : decode cX4_isKeyElsewhere 27 = .ok (.aload_n 0, 1) := by decide +kernel
theorem dX4_isKeyElsewhere_28 : decode cX4_isKeyElsewhere 28 = .ok (.getfield 12, 3) := by decide +kernel
theorem dX4_isKeyElsewhere_31 : decode cX4_isKeyElsewhere 31 = .ok (.iload_n 1, 1) := by decide +kernel
theorem dX4_isKeyElsewhere_32 : decode cX4_isKeyElsewhere 32 = .ok (.iload 4, 2) := by decide +kernel
theorem dX4_isKeyElsewhere_34 : decode cX4_isKeyElsewhere 34 = .ok (.iload_n 2, 1) := by decide +kernel
theorem dX4_isKeyElsewhere_35 : decode cX4_isKeyElsewhere 35 = .ok (.invokevirtual 233, 3) := by decide +kernel
theorem dX4_isKeyElsewhere_38 : decode cX4_isKeyElsewhere 38 = .ok (.ifCond .eq 21, 3) := by decide +kernel
theorem dX4_isKeyElsewhere_41 : decode cX4_isKeyElsewhere 41 = .ok (.aload_n 0, 1) := by decide +kernel
theorem dX4_isKeyElsewhere_42 : decode cX4_isKeyElsewhere 42 = .ok (.getfield 19, 3) := by decide +kernel
theorem dX4_isKeyElsewhere_45 : decode cX4_isKeyElsewhere 45 = .ok (.getfield 152, 3) := by decide +kernel
theorem dX4_isKeyElsewhere_48 : decode cX4_isKeyElsewhere 48 = .ok (.iconst 2, 1) := by decide +kernel
theorem dX4_isKeyElsewhere_49 : decode cX4_isKeyElsewhere 49 = .ok (.aaload, 1) := by decide +kernel
theorem dX4_isKeyElsewhere_50 : decode cX4_isKeyElsewhere 50 = .ok (.iload 4, 2) := by decide +kernel
theorem dX4_isKeyElsewhere_52 : decode cX4_isKeyElsewhere 52 = .ok (.iaload, 1) := by decide +kernel
theorem dX4_isKeyElsewhere_53 : decode cX4_isKeyElsewhere 53 = .ok (.iload_n 3, 1) := by decide +kernel
theorem dX4_isKeyElsewhere_54 : decode cX4_isKeyElsewhere 54 = .ok (.if_icmp .eq 5, 3) := by decide +kernel
theorem dX4_isKeyElsewhere_57 : decode cX4_isKeyElsewhere 57 = .ok (.iconst 1, 1) := by decide +kernel
theorem dX4_isKeyElsewhere_58 : decode cX4_isKeyElsewhere 58 = .ok (.ireturn, 1) := by decide +kernel
theorem dX4_isKeyElsewhere_59 : decode cX4_isKeyElsewhere 59 = .ok (.iinc 4 1, 3) := by decide +kernel
theorem dX4_isKeyElsewhere_62 : decode cX4_isKeyElsewhere 62 = .ok (.goto (-47), 3) := by decide +kernel
theorem dX4_isKeyElsewhere_65 : decode cX4_isKeyElsewhere 65 = .ok (.iconst 0, 1) := by decide +kernel
theorem dX4_isKeyElsewhere_66 : decode cX4_isKeyElsewhere 66 = .ok (.ireturn, 1) := by decide +kernel
theorem dX4_tellsFact_0 : decode cX4_tellsFact 0 = .ok (.aload_n 0, 1) := by decide +kernel
theorem dX4_tellsFact_1 : decode cX4_tellsFact 1 = .ok (.iload_n 1, 1) := by decide +kernel
theorem dX4_tellsFact_2 : decode cX4_tellsFact 2 = .ok (.iload_n 2, 1) := by decide +kernel
theorem dX4_tellsFact_3 : decode cX4_tellsFact 3 = .ok (.invokevirtual 230, 3) := by decide +kernel
theorem dX4_tellsFact_6 : decode cX4_tellsFact 6 = .ok (.ifCond .eq 22, 3) := by decide +kernel
theorem dX4_tellsFact_9 : decode cX4_tellsFact 9 = .ok (.aload_n 0, 1) := by decide +kernel
theorem dX4_tellsFact_10 : decode cX4_tellsFact 10 = .ok (.getfield 12, 3) := by decide +kernel
theorem dX4_tellsFact_13 : decode cX4_tellsFact 13 = .ok (.getfield 88, 3) := by decide +kernel
theorem dX4_tellsFact_16 : decode cX4_tellsFact 16 = .ok (.iload_n 3, 1) := by decide +kernel
theorem dX4_tellsFact_17 : decode cX4_tellsFact 17 = .ok (.aaload, 1) := by decide +kernel
theorem dX4_tellsFact_18 : decode cX4_tellsFact 18 = .ok (.iload_n 1, 1) := by decide +kernel
theorem dX4_tellsFact_19 : decode cX4_tellsFact 19 = .ok (.iaload, 1) := by decide +kernel
theorem dX4_tellsFact_20 : decode cX4_tellsFact 20 = .ok (.iconst (-1), 1) := by decide +kernel
theorem dX4_tellsFact_21 : decode cX4_tellsFact 21 = .ok (.if_icmp .eq 7, 3) := by decide +kernel
theorem dX4_tellsFact_24 : decode cX4_tellsFact 24 = .ok (.iconst 1, 1) := by decide +kernel
theorem dX4_tellsFact_25 : decode cX4_tellsFact 25 = .ok (.goto 4, 3) := by decide +kernel
theorem dX4_tellsFact_28 : decode cX4_tellsFact 28 = .ok (.iconst 0, 1) := by decide +kernel
theorem dX4_tellsFact_29 : decode cX4_tellsFact 29 = .ok (.ireturn, 1) := by decide +kernel
theorem dX4_findFirstByOrder_0 : decode cX4_findFirstByOrder 0 = .ok (.aload_n 0, 1) := by decide +kernel
theorem dX4_findFirstByOrder_1 : decode cX4_findFirstByOrder 1 = .ok (.iload_n 1, 1) := by decide +kernel
theorem dX4_findFirstByOrder_2 : decode cX4_findFirstByOrder 2 = .ok (.invokevirtual 236, 3) := by decide +kernel
theorem dX4_findFirstByOrder_5 : decode cX4_findFirstByOrder 5 = .ok (.istore_n 3, 1) := by decide +kernel
theorem dX4_findFirstByOrder_6 : decode cX4_findFirstByOrder 6 = .ok (.iconst 0, 1) := by decide +kernel
theorem dX4_findFirstByOrder_7 : decode cX4_findFirstByOrder 7 = .ok (.istore 4, 2) := by decide +kernel
theorem dX4_findFirstByOrder_9 : decode cX4_findFirstByOrder 9 = .ok (.iload 4, 2) := by decide +kernel
theorem dX4_findFirstByOrder_11 : decode cX4_findFirstByOrder 11 = .ok (.iload_n 3, 1) := by decide +kernel
theorem dX4_findFirstByOrder_12 : decode cX4_findFirstByOrder 12 = .ok (.if_icmp .ge 38, 3) := by decide +kernel
theorem dX4_findFirstByOrder_15 : decode cX4_findFirstByOrder 15 = .ok (.aload_n 0, 1) := by decide +kernel
theorem dX4_findFirstByOrder_16 : decode cX4_findFirstByOrder 16 = .ok (.getfield 12, 3) := by decide +kernel
theorem dX4_findFirstByOrder_19 : decode cX4_findFirstByOrder 19 = .ok (.getfield 88, 3) := by decide +kernel
theorem dX4_findFirstByOrder_22 : decode cX4_findFirstByOrder 22 = .ok (.iload_n 2, 1) := by decide +kernel
theorem dX4_findFirstByOrder_23 : decode cX4_findFirstByOrder 23 = .ok (.aaload, 1) := by decide +kernel
theorem dX4_findFirstByOrder_24 : decode cX4_findFirstByOrder 24 = .ok (.aload_n 0, 1) := by decide +kernel
theorem dX4_findFirstByOrder_25 : decode cX4_findFirstByOrder 25 = .ok (.getfield 30, 3) := by decide +kernel
theorem dX4_findFirstByOrder_28 : decode cX4_findFirstByOrder 28 = .ok (.iload 4, 2) := by decide +kernel
theorem dX4_findFirstByOrder_30 : decode cX4_findFirstByOrder 30 = .ok (.iaload, 1) := by decide +kernel
theorem dX4_findFirstByOrder_31 : decode cX4_findFirstByOrder 31 = .ok (.iaload, 1) := by decide +kernel
theorem dX4_findFirstByOrder_32 : decode cX4_findFirstByOrder 32 = .ok (.iconst (-1), 1) := by decide +kernel
theorem dX4_findFirstByOrder_33 : decode cX4_findFirstByOrder 33 = .ok (.if_icmp .eq 11, 3) := by decide +kernel
theorem dX4_findFirstByOrder_36 : decode cX4_findFirstByOrder 36 = .ok (.aload_n 0, 1) := by decide +kernel
theorem dX4_findFirstByOrder_37 : decode cX4_findFirstByOrder 37 = .ok (.getfield 30, 3) := by decide +kernel
theorem dX4_findFirstByOrder_40 : decode cX4_findFirstByOrder 40 = .ok (.iload 4, 2) := by decide +kernel
theorem dX4_findFirstByOrder_42 : decode cX4_findFirstByOrder 42 = .ok (.iaload, 1) := by decide +kernel
theorem dX4_findFirstByOrder_43 : decode cX4_findFirstByOrder 43 = .ok (.ireturn, 1) := by decide +kernel
theorem dX4_findFirstByOrder_44 : decode cX4_findFirstByOrder 44 = .ok (.iinc 4 1, 3) := by decide +kernel
theorem dX4_findFirstByOrder_47 : decode cX4_findFirstByOrder 47 = .ok (.goto (-38), 3) := by decide +kernel
theorem dX4_findFirstByOrder_50 : decode cX4_findFirstByOrder 50 = .ok (.iconst (-1), 1) := by decide +kernel
theorem dX4_findFirstByOrder_51 : decode cX4_findFirstByOrder 51 = .ok (.ireturn, 1) := by decide +kernel
theorem dX4_orderMembers_0 : decode cX4_orderMembers 0 = .ok (.iconst 0, 1) := by decide +kernel
theorem dX4_orderMembers_1 : decode cX4_orderMembers 1 = .ok (.istore_n 2, 1) := by decide +kernel
theorem dX4_orderMembers_2 : decode cX4_orderMembers 2 = .ok (.iconst 0, 1) := by decide +kernel
theorem dX4_orderMembers_3 : decode cX4_orderMembers 3 = .ok (.istore_n 3, 1) := by decide +kernel
theorem dX4_orderMembers_4 : decode cX4_orderMembers 4 = .ok (.iload_n 3, 1) := by decide +kernel
theorem dX4_orderMembers_5 : decode cX4_orderMembers 5 = .ok (.aload_n 0, 1) := by decide +kernel
theorem dX4_orderMembers_6 : decode cX4_orderMembers 6 = .ok (.getfield 12, 3) := by decide +kernel
theorem dX4_orderMembers_9 : decode cX4_orderMembers 9 = .ok (.getfield 63, 3) := by decide +kernel
theorem dX4_orderMembers_12 : decode cX4_orderMembers 12 = .ok (.if_icmp .ge 83, 3) := by decide +kernel
theorem dX4_orderMembers_15 : decode cX4_orderMembers 15 = .ok (.aload_n 0, 1) := by decide +kernel
theorem dX4_orderMembers_16 : decode cX4_orderMembers 16 = .ok (.iload_n 3, 1) := by decide +kernel
theorem dX4_orderMembers_17 : decode cX4_orderMembers 17 = .ok (.iload_n 1, 1) := by decide +kernel
theorem dX4_orderMembers_18 : decode cX4_orderMembers 18 = .ok (.invokevirtual 230, 3) := by decide +kernel
theorem dX4_orderMembers_21 : decode cX4_orderMembers 21 = .ok (.ifCond .eq 68, 3) := by decide +kernel
theorem dX4_orderMembers_24 : decode cX4_orderMembers 24 = .ok (.iload_n 2, 1) := by decide +kernel
theorem dX4_orderMembers_25 : decode cX4_orderMembers 25 = .ok (.istore 4, 2) := by decide +kernel
theorem dX4_orderMembers_27 : decode cX4_orderMembers 27 = .ok (.iload 4, 2) := by decide +kernel
theorem dX4_orderMembers_29 : decode cX4_orderMembers 29 = .ok (.ifCond .le 49, 3) := by decide +kernel
theorem dX4_orderMembers_32 : decode cX4_orderMembers 32 = .ok (.aload_n 0, 1) := by decide +kernel
theorem dX4_orderMembers_33 : decode cX4_orderMembers 33 = .ok (.getfield 12, 3) := by decide +kernel
theorem dX4_orderMembers_36 : decode cX4_orderMembers 36 = .ok (.iload_n 3, 1) := by decide +kernel
theorem dX4_orderMembers_37 : decode cX4_orderMembers 37 = .ok (.aload_n 0, 1) := by decide +kernel
theorem dX4_orderMembers_38 : decode cX4_orderMembers 38 = .ok (.getfield 30, 3) := by decide +kernel
theorem dX4_orderMembers_41 : decode cX4_orderMembers 41 = .ok (.iload 4, 2) := by decide +kernel
theorem dX4_orderMembers_43 : decode cX4_orderMembers 43 = .ok (.iconst 1, 1) := by decide +kernel
theorem dX4_orderMembers_44 : decode cX4_orderMembers 44 = .ok (.isub, 1) := by decide +kernel
theorem dX4_orderMembers_45 : decode cX4_orderMembers 45 = .ok (.iaload, 1) := by decide +kernel
theorem dX4_orderMembers_46 : decode cX4_orderMembers 46 = .ok (.aload_n 0, 1) := by decide +kernel
theorem dX4_orderMembers_47 : decode cX4_orderMembers 47 = .ok (.getfield 68, 3) := by decide +kernel
theorem dX4_orderMembers_50 : decode cX4_orderMembers 50 = .ok (.invokevirtual 239, 3) := by decide +kernel
theorem dX4_orderMembers_53 : decode cX4_orderMembers 53 = .ok (.ifCond .eq 25, 3) := by decide +kernel
theorem dX4_orderMembers_56 : decode cX4_orderMembers 56 = .ok (.aload_n 0, 1) := by decide +kernel
theorem dX4_orderMembers_57 : decode cX4_orderMembers 57 = .ok (.getfield 30, 3) := by decide +kernel
theorem dX4_orderMembers_60 : decode cX4_orderMembers 60 = .ok (.iload 4, 2) := by decide +kernel
theorem dX4_orderMembers_62 : decode cX4_orderMembers 62 = .ok (.aload_n 0, 1) := by decide +kernel
theorem dX4_orderMembers_63 : decode cX4_orderMembers 63 = .ok (.getfield 30, 3) := by decide +kernel
theorem dX4_orderMembers_66 : decode cX4_orderMembers 66 = .ok (.iload 4, 2) := by decide +kernel
theorem dX4_orderMembers_68 : decode cX4_orderMembers 68 = .ok (.iconst 1, 1) := by decide +kernel
theorem dX4_orderMembers_69 : decode cX4_orderMembers 69 = .ok (.isub, 1) := by decide +kernel
theorem dX4_orderMembers_70 : decode cX4_orderMembers 70 = .ok (.iaload, 1) := by decide +kernel
theorem dX4_orderMembers_71 : decode cX4_orderMembers 71 = .ok (.iastore, 1) := by decide +kernel
theorem dX4_orderMembers_72 : decode cX4_orderMembers 72 = .ok (.iinc 4 (-1), 3) := by decide +kernel
theorem dX4_orderMembers_75 : decode cX4_orderMembers 75 = .ok (.goto (-48), 3) := by decide +kernel
theorem dX4_orderMembers_78 : decode cX4_orderMembers 78 = .ok (.aload_n 0, 1) := by decide +kernel
theorem dX4_orderMembers_79 : decode cX4_orderMembers 79 = .ok (.getfield 30, 3) := by decide +kernel
theorem dX4_orderMembers_82 : decode cX4_orderMembers 82 = .ok (.iload 4, 2) := by decide +kernel
theorem dX4_orderMembers_84 : decode cX4_orderMembers 84 = .ok (.iload_n 3, 1) := by decide +kernel
theorem dX4_orderMembers_85 : decode cX4_orderMembers 85 = .ok (.iastore, 1) := by decide +kernel
theorem dX4_orderMembers_86 : decode cX4_orderMembers 86 = .ok (.iinc 2 1, 3) := by decide +kernel
theorem dX4_orderMembers_89 : decode cX4_orderMembers 89 = .ok (.iinc 3 1, 3) := by decide +kernel
theorem dX4_orderMembers_92 : decode cX4_orderMembers 92 = .ok (.goto (-88), 3) := by decide +kernel
theorem dX4_orderMembers_95 : decode cX4_orderMembers 95 = .ok (.iload_n 2, 1) := by decide +kernel
theorem dX4_orderMembers_96 : decode cX4_orderMembers 96 = .ok (.ireturn, 1) := by decide +kernel
theorem dX4_findFirstByPairs_0 : decode cX4_findFirstByPairs 0 = .ok (.iconst 0, 1) := by decide +kernel
theorem dX4_findFirstByPairs_1 : decode cX4_findFirstByPairs 1 = .ok (.istore_n 3, 1) := by decide +kernel
theorem dX4_findFirstByPairs_2 : decode cX4_findFirstByPairs 2 = .ok (.iload_n 3, 1) := by decide +kernel
theorem dX4_findFirstByPairs_3 : decode cX4_findFirstByPairs 3 = .ok (.aload_n 0, 1) := by decide +kernel
theorem dX4_findFirstByPairs_4 : decode cX4_findFirstByPairs 4 = .ok (.getfield 12, 3) := by decide +kernel
theorem dX4_findFirstByPairs_7 : decode cX4_findFirstByPairs 7 = .ok (.getfield 63, 3) := by decide +kernel
theorem dX4_findFirstByPairs_10 : decode cX4_findFirstByPairs 10 = .ok (.if_icmp .ge 31, 3) := by decide +kernel
theorem dX4_findFirstByPairs_13 : decode cX4_findFirstByPairs 13 = .ok (.aload_n 0, 1) := by decide +kernel
theorem dX4_findFirstByPairs_14 : decode cX4_findFirstByPairs 14 = .ok (.iload_n 3, 1) := by decide +kernel
theorem dX4_findFirstByPairs_15 : decode cX4_findFirstByPairs 15 = .ok (.iload_n 1, 1) := by decide +kernel
theorem dX4_findFirstByPairs_16 : decode cX4_findFirstByPairs 16 = .ok (.iload_n 2, 1) := by decide +kernel
theorem dX4_findFirstByPairs_17 : decode cX4_findFirstByPairs 17 = .ok (.invokevirtual 180, 3) := by decide +kernel
theorem dX4_findFirstByPairs_20 : decode cX4_findFirstByPairs 20 = .ok (.ifCond .eq 15, 3) := by decide +kernel
theorem dX4_findFirstByPairs_23 : decode cX4_findFirstByPairs 23 = .ok (.aload_n 0, 1) := by decide +kernel
theorem dX4_findFirstByPairs_24 : decode cX4_findFirstByPairs 24 = .ok (.iload_n 3, 1) := by decide +kernel
theorem dX4_findFirstByPairs_25 : decode cX4_findFirstByPairs 25 = .ok (.iload_n 1, 1) := by decide +kernel
theorem dX4_findFirstByPairs_26 : decode cX4_findFirstByPairs 26 = .ok (.iload_n 2, 1) := by decide +kernel
theorem dX4_findFirstByPairs_27 : decode cX4_findFirstByPairs 27 = .ok (.invokevirtual 242, 3) := by decide +kernel
theorem dX4_findFirstByPairs_30 : decode cX4_findFirstByPairs 30 = .ok (.ifCond .ne 5, 3) := by decide +kernel
theorem dX4_findFirstByPairs_33 : decode cX4_findFirstByPairs 33 = .ok (.iload_n 3, 1) := by decide +kernel
theorem dX4_findFirstByPairs_34 : decode cX4_findFirstByPairs 34 = .ok (.ireturn, 1) := by decide +kernel
theorem dX4_findFirstByPairs_35 : decode cX4_findFirstByPairs 35 = .ok (.iinc 3 1, 3) := by decide +kernel
theorem dX4_findFirstByPairs_38 : decode cX4_findFirstByPairs 38 = .ok (.goto (-36), 3) := by decide +kernel
theorem dX4_findFirstByPairs_41 : decode cX4_findFirstByPairs 41 = .ok (.iconst (-1), 1) := by decide +kernel
theorem dX4_findFirstByPairs_42 : decode cX4_findFirstByPairs 42 = .ok (.ireturn, 1) := by decide +kernel
theorem dX4_isBeaten_0 : decode cX4_isBeaten 0 = .ok (.iconst 0, 1) := by decide +kernel
theorem dX4_isBeaten_1 : decode cX4_isBeaten 1 = .ok (.istore 4, 2) := by decide +kernel
theorem dX4_isBeaten_3 : decode cX4_isBeaten 3 = .ok (.iload 4, 2) := by decide +kernel
theorem dX4_isBeaten_5 : decode cX4_isBeaten 5 = .ok (.aload_n 0, 1) := by decide +kernel
theorem dX4_isBeaten_6 : decode cX4_isBeaten 6 = .ok (.getfield 12, 3) := by decide +kernel
theorem dX4_isBeaten_9 : decode cX4_isBeaten 9 = .ok (.getfield 63, 3) := by decide +kernel
theorem dX4_isBeaten_12 : decode cX4_isBeaten 12 = .ok (.if_icmp .ge 45, 3) := by decide +kernel
theorem dX4_isBeaten_15 : decode cX4_isBeaten 15 = .ok (.iload 4, 2) := by decide +kernel
theorem dX4_isBeaten_17 : decode cX4_isBeaten 17 = .ok (.iload_n 1, 1) := by decide +kernel
theorem dX4_isBeaten_18 : decode cX4_isBeaten 18 = .ok (.if_icmp .eq 33, 3) := by decide +kernel
theorem dX4_isBeaten_21 : decode cX4_isBeaten 21 = .ok (.aload_n 0, 1) := by decide +kernel
theorem dX4_isBeaten_22 : decode cX4_isBeaten 22 = .ok (.iload 4, 2) := by decide +kernel
theorem dX4_isBeaten_24 : decode cX4_isBeaten 24 = .ok (.iload_n 2, 1) := by decide +kernel
theorem dX4_isBeaten_25 : decode cX4_isBeaten 25 = .ok (.iload_n 3, 1) := by decide +kernel
theorem dX4_isBeaten_26 : decode cX4_isBeaten 26 = .ok (.invokevirtual 180, 3) := by decide +kernel
theorem dX4_isBeaten_29 : decode cX4_isBeaten 29 = .ok (.ifCond .eq 22, 3) := by decide +kernel
theorem dX4_isBeaten_32 : decode cX4_isBeaten 32 = .ok (.aload_n 0, 1) := by decide +kernel
theorem dX4_isBeaten_33 : decode cX4_isBeaten 33 = .ok (.getfield 12, 3) := by decide +kernel
theorem dX4_isBeaten_36 : decode cX4_isBeaten 36 = .ok (.iload 4, 2) := by decide +kernel
theorem dX4_isBeaten_38 : decode cX4_isBeaten 38 = .ok (.iload_n 1, 1) := by decide +kernel
theorem dX4_isBeaten_39 : decode cX4_isBeaten 39 = .ok (.aload_n 0, 1) := by decide +kernel
theorem dX4_isBeaten_40 : decode cX4_isBeaten 40 = .ok (.getfield 68, 3) := by decide +kernel
theorem dX4_isBeaten_43 : decode cX4_isBeaten 43 = .ok (.invokevirtual 239, 3) := by decide +kernel
theorem dX4_isBeaten_46 : decode cX4_isBeaten 46 = .ok (.ifCond .eq 5, 3) := by decide +kernel
theorem dX4_isBeaten_49 : decode cX4_isBeaten 49 = .ok (.iconst 1, 1) := by decide +kernel
theorem dX4_isBeaten_50 : decode cX4_isBeaten 50 = .ok (.ireturn, 1) := by decide +kernel
theorem dX4_isBeaten_51 : decode cX4_isBeaten 51 = .ok (.iinc 4 1, 3) := by decide +kernel
theorem dX4_isBeaten_54 : decode cX4_isBeaten 54 = .ok (.goto (-51), 3) := by decide +kernel
theorem dX4_isBeaten_57 : decode cX4_isBeaten 57 = .ok (.iconst 0, 1) := by decide +kernel
theorem dX4_isBeaten_58 : decode cX4_isBeaten 58 = .ok (.ireturn, 1) := by decide +kernel
theorem dX4_findLastSeen_0 : decode cX4_findLastSeen 0 = .ok (.iconst 0, 1) := by decide +kernel
theorem dX4_findLastSeen_1 : decode cX4_findLastSeen 1 = .ok (.istore_n 2, 1) := by decide +kernel
theorem dX4_findLastSeen_2 : decode cX4_findLastSeen 2 = .ok (.iconst 0, 1) := by decide +kernel
theorem dX4_findLastSeen_3 : decode cX4_findLastSeen 3 = .ok (.istore_n 3, 1) := by decide +kernel
theorem dX4_findLastSeen_4 : decode cX4_findLastSeen 4 = .ok (.iload_n 3, 1) := by decide +kernel
theorem dX4_findLastSeen_5 : decode cX4_findLastSeen 5 = .ok (.aload_n 0, 1) := by decide +kernel
theorem dX4_findLastSeen_6 : decode cX4_findLastSeen 6 = .ok (.getfield 12, 3) := by decide +kernel
theorem dX4_findLastSeen_9 : decode cX4_findLastSeen 9 = .ok (.getfield 63, 3) := by decide +kernel
theorem dX4_findLastSeen_12 : decode cX4_findLastSeen 12 = .ok (.if_icmp .ge 32, 3) := by decide +kernel
theorem dX4_findLastSeen_15 : decode cX4_findLastSeen 15 = .ok (.aload_n 0, 1) := by decide +kernel
theorem dX4_findLastSeen_16 : decode cX4_findLastSeen 16 = .ok (.iload_n 3, 1) := by decide +kernel
theorem dX4_findLastSeen_17 : decode cX4_findLastSeen 17 = .ok (.iload_n 1, 1) := by decide +kernel
theorem dX4_findLastSeen_18 : decode cX4_findLastSeen 18 = .ok (.invokevirtual 230, 3) := by decide +kernel
theorem dX4_findLastSeen_21 : decode cX4_findLastSeen 21 = .ok (.ifCond .eq 17, 3) := by decide +kernel
theorem dX4_findLastSeen_24 : decode cX4_findLastSeen 24 = .ok (.iload_n 2, 1) := by decide +kernel
theorem dX4_findLastSeen_25 : decode cX4_findLastSeen 25 = .ok (.aload_n 0, 1) := by decide +kernel
theorem dX4_findLastSeen_26 : decode cX4_findLastSeen 26 = .ok (.getfield 12, 3) := by decide +kernel
theorem dX4_findLastSeen_29 : decode cX4_findLastSeen 29 = .ok (.getfield 91, 3) := by decide +kernel
theorem dX4_findLastSeen_32 : decode cX4_findLastSeen 32 = .ok (.iload_n 3, 1) := by decide +kernel
theorem dX4_findLastSeen_33 : decode cX4_findLastSeen 33 = .ok (.iaload, 1) := by decide +kernel
theorem dX4_findLastSeen_34 : decode cX4_findLastSeen 34 = .ok (.invokestatic 245, 3) := by decide +kernel
theorem dX4_findLastSeen_37 : decode cX4_findLastSeen 37 = .ok (.istore_n 2, 1) := by decide +kernel
theorem dX4_findLastSeen_38 : decode cX4_findLastSeen 38 = .ok (.iinc 3 1, 3) := by decide +kernel
theorem dX4_findLastSeen_41 : decode cX4_findLastSeen 41 = .ok (.goto (-37), 3) := by decide +kernel
theorem dX4_findLastSeen_44 : decode cX4_findLastSeen 44 = .ok (.iload_n 2, 1) := by decide +kernel
theorem dX4_findLastSeen_45 : decode cX4_findLastSeen 45 = .ok (.ireturn, 1) := by decide +kernel
theorem dX4_isGhostOn_0 : decode cX4_isGhostOn 0 = .ok (.iload_n 2, 1) := by decide +kernel
theorem dX4_isGhostOn_1 : decode cX4_isGhostOn 1 = .ok (.aload_n 0, 1) := by decide +kernel
theorem dX4_isGhostOn_2 : decode cX4_isGhostOn 2 = .ok (.iload_n 1, 1) := by decide +kernel
theorem dX4_isGhostOn_3 : decode cX4_isGhostOn 3 = .ok (.invokevirtual 191, 3) := by decide +kernel
theorem dX4_isGhostOn_6 : decode cX4_isGhostOn 6 = .ok (.isub, 1) := by decide +kernel
theorem dX4_isGhostOn_7 : decode cX4_isGhostOn 7 = .ok (.aload_n 0, 1) := by decide +kernel
theorem dX4_isGhostOn_8 : decode cX4_isGhostOn 8 = .ok (.getfield 34, 3) := by decide +kernel
theorem dX4_isGhostOn_11 : decode cX4_isGhostOn 11 = .ok (.if_icmp .le 7, 3) := by decide +kernel
theorem dX4_isGhostOn_14 : decode cX4_isGhostOn 14 = .ok (.iconst 1, 1) := by decide +kernel
theorem dX4_isGhostOn_15 : decode cX4_isGhostOn 15 = .ok (.goto 4, 3) := by decide +kernel
theorem dX4_isGhostOn_18 : decode cX4_isGhostOn 18 = .ok (.iconst 0, 1) := by decide +kernel
theorem dX4_isGhostOn_19 : decode cX4_isGhostOn 19 = .ok (.ireturn, 1) := by decide +kernel
theorem dX4_becomesGhostOn_0 : decode cX4_becomesGhostOn 0 = .ok (.iconst 0, 1) := by decide +kernel
theorem dX4_becomesGhostOn_1 : decode cX4_becomesGhostOn 1 = .ok (.istore_n 2, 1) := by decide +kernel
theorem dX4_becomesGhostOn_2 : decode cX4_becomesGhostOn 2 = .ok (.iload_n 2, 1) := by decide +kernel
theorem dX4_becomesGhostOn_3 : decode cX4_becomesGhostOn 3 = .ok (.aload_n 0, 1) := by decide +kernel
theorem dX4_becomesGhostOn_4 : decode cX4_becomesGhostOn 4 = .ok (.getfield 12, 3) := by decide +kernel
theorem dX4_becomesGhostOn_7 : decode cX4_becomesGhostOn 7 = .ok (.getfield 63, 3) := by decide +kernel
theorem dX4_becomesGhostOn_10 : decode cX4_becomesGhostOn 10 = .ok (.if_icmp .ge 39, 3) := by decide +kernel
theorem dX4_becomesGhostOn_13 : decode cX4_becomesGhostOn 13 = .ok (.aload_n 0, 1) := by decide +kernel
theorem dX4_becomesGhostOn_14 : decode cX4_becomesGhostOn 14 = .ok (.iload_n 2, 1) := by decide +kernel
theorem dX4_becomesGhostOn_15 : decode cX4_becomesGhostOn 15 = .ok (.invokevirtual 187, 3) := by decide +kernel
theorem dX4_becomesGhostOn_18 : decode cX4_becomesGhostOn 18 = .ok (.ifCond .eq 25, 3) := by decide +kernel
theorem dX4_becomesGhostOn_21 : decode cX4_becomesGhostOn 21 = .ok (.aload_n 0, 1) := by decide +kernel
theorem dX4_becomesGhostOn_22 : decode cX4_becomesGhostOn 22 = .ok (.iload_n 2, 1) := by decide +kernel
theorem dX4_becomesGhostOn_23 : decode cX4_becomesGhostOn 23 = .ok (.iload_n 1, 1) := by decide +kernel
theorem dX4_becomesGhostOn_24 : decode cX4_becomesGhostOn 24 = .ok (.invokevirtual 184, 3) := by decide +kernel
theorem dX4_becomesGhostOn_27 : decode cX4_becomesGhostOn 27 = .ok (.ifCond .eq 16, 3) := by decide +kernel
theorem dX4_becomesGhostOn_30 : decode cX4_becomesGhostOn 30 = .ok (.aload_n 0, 1) := by decide +kernel
theorem dX4_becomesGhostOn_31 : decode cX4_becomesGhostOn 31 = .ok (.iload_n 2, 1) := by decide +kernel
theorem dX4_becomesGhostOn_32 : decode cX4_becomesGhostOn 32 = .ok (.iload_n 1, 1) := by decide +kernel
theorem dX4_becomesGhostOn_33 : decode cX4_becomesGhostOn 33 = .ok (.iconst 1, 1) := by decide +kernel
theorem dX4_becomesGhostOn_34 : decode cX4_becomesGhostOn 34 = .ok (.isub, 1) := by decide +kernel
theorem dX4_becomesGhostOn_35 : decode cX4_becomesGhostOn 35 = .ok (.invokevirtual 184, 3) := by decide +kernel
theorem dX4_becomesGhostOn_38 : decode cX4_becomesGhostOn 38 = .ok (.ifCond .ne 5, 3) := by decide +kernel
theorem dX4_becomesGhostOn_41 : decode cX4_becomesGhostOn 41 = .ok (.iconst 1, 1) := by decide +kernel
theorem dX4_becomesGhostOn_42 : decode cX4_becomesGhostOn 42 = .ok (.ireturn, 1) := by decide +kernel
theorem dX4_becomesGhostOn_43 : decode cX4_becomesGhostOn 43 = .ok (.iinc 2 1, 3) := by decide +kernel
theorem dX4_becomesGhostOn_46 : decode cX4_becomesGhostOn 46 = .ok (.goto (-44), 3) := by decide +kernel
theorem dX4_becomesGhostOn_49 : decode cX4_becomesGhostOn 49 = .ok (.iconst 0, 1) := by decide +kernel
theorem dX4_becomesGhostOn_50 : decode cX4_becomesGhostOn 50 = .ok (.ireturn, 1) := by decide +kernel
theorem dJ6_bitCount_0f7a4_0 : decode cJ6_bitCount_0f7a4 0 = .ok (.iload_n 0, 1) := by decide +kernel
theorem dJ6_bitCount_0f7a4_1 : decode cJ6_bitCount_0f7a4 1 = .ok (.iload_n 0, 1) := by decide +kernel
theorem dJ6_bitCount_0f7a4_2 : decode cJ6_bitCount_0f7a4 2 = .ok (.iconst 1, 1) := by decide +kernel
theorem dJ6_bitCount_0f7a4_3 : decode cJ6_bitCount_0f7a4 3 = .ok (.iushr, 1) := by decide +kernel
theorem dJ6_bitCount_0f7a4_4 : decode cJ6_bitCount_0f7a4 4 = .ok (.ldc_w 265, 3) := by decide +kernel
theorem dJ6_bitCount_0f7a4_7 : decode cJ6_bitCount_0f7a4 7 = .ok (.iand, 1) := by decide +kernel
theorem dJ6_bitCount_0f7a4_8 : decode cJ6_bitCount_0f7a4 8 = .ok (.isub, 1) := by decide +kernel
theorem dJ6_bitCount_0f7a4_9 : decode cJ6_bitCount_0f7a4 9 = .ok (.istore_n 0, 1) := by decide +kernel
theorem dJ6_bitCount_0f7a4_10 : decode cJ6_bitCount_0f7a4 10 = .ok (.iload_n 0, 1) := by decide +kernel
theorem dJ6_bitCount_0f7a4_11 : decode cJ6_bitCount_0f7a4 11 = .ok (.ldc_w 266, 3) := by decide +kernel
theorem dJ6_bitCount_0f7a4_14 : decode cJ6_bitCount_0f7a4 14 = .ok (.iand, 1) := by decide +kernel
theorem dJ6_bitCount_0f7a4_15 : decode cJ6_bitCount_0f7a4 15 = .ok (.iload_n 0, 1) := by decide +kernel
theorem dJ6_bitCount_0f7a4_16 : decode cJ6_bitCount_0f7a4 16 = .ok (.iconst 2, 1) := by decide +kernel
theorem dJ6_bitCount_0f7a4_17 : decode cJ6_bitCount_0f7a4 17 = .ok (.iushr, 1) := by decide +kernel
theorem dJ6_bitCount_0f7a4_18 : decode cJ6_bitCount_0f7a4 18 = .ok (.ldc_w 266, 3) := by decide +kernel
theorem dJ6_bitCount_0f7a4_21 : decode cJ6_bitCount_0f7a4 21 = .ok (.iand, 1) := by decide +kernel
theorem dJ6_bitCount_0f7a4_22 : decode cJ6_bitCount_0f7a4 22 = .ok (.iadd, 1) := by decide +kernel
theorem dJ6_bitCount_0f7a4_23 : decode cJ6_bitCount_0f7a4 23 = .ok (.istore_n 0, 1) := by decide +kernel
theorem dJ6_bitCount_0f7a4_24 : decode cJ6_bitCount_0f7a4 24 = .ok (.iload_n 0, 1) := by decide +kernel
theorem dJ6_bitCount_0f7a4_25 : decode cJ6_bitCount_0f7a4 25 = .ok (.iload_n 0, 1) := by decide +kernel
theorem dJ6_bitCount_0f7a4_26 : decode cJ6_bitCount_0f7a4 26 = .ok (.iconst 4, 1) := by decide +kernel
theorem dJ6_bitCount_0f7a4_27 : decode cJ6_bitCount_0f7a4 27 = .ok (.iushr, 1) := by decide +kernel
theorem dJ6_bitCount_0f7a4_28 : decode cJ6_bitCount_0f7a4 28 = .ok (.iadd, 1) := by decide +kernel
theorem dJ6_bitCount_0f7a4_29 : decode cJ6_bitCount_0f7a4 29 = .ok (.ldc_w 267, 3) := by decide +kernel
theorem dJ6_bitCount_0f7a4_32 : decode cJ6_bitCount_0f7a4 32 = .ok (.iand, 1) := by decide +kernel
theorem dJ6_bitCount_0f7a4_33 : decode cJ6_bitCount_0f7a4 33 = .ok (.istore_n 0, 1) := by decide +kernel
theorem dJ6_bitCount_0f7a4_34 : decode cJ6_bitCount_0f7a4 34 = .ok (.iload_n 0, 1) := by decide +kernel
theorem dJ6_bitCount_0f7a4_35 : decode cJ6_bitCount_0f7a4 35 = .ok (.iload_n 0, 1) := by decide +kernel
theorem dJ6_bitCount_0f7a4_36 : decode cJ6_bitCount_0f7a4 36 = .ok (.bipush 8, 2) := by decide +kernel
theorem dJ6_bitCount_0f7a4_38 : decode cJ6_bitCount_0f7a4 38 = .ok (.iushr, 1) := by decide +kernel
theorem dJ6_bitCount_0f7a4_39 : decode cJ6_bitCount_0f7a4 39 = .ok (.iadd, 1) := by decide +kernel
theorem dJ6_bitCount_0f7a4_40 : decode cJ6_bitCount_0f7a4 40 = .ok (.istore_n 0, 1) := by decide +kernel
theorem dJ6_bitCount_0f7a4_41 : decode cJ6_bitCount_0f7a4 41 = .ok (.iload_n 0, 1) := by decide +kernel
theorem dJ6_bitCount_0f7a4_42 : decode cJ6_bitCount_0f7a4 42 = .ok (.iload_n 0, 1) := by decide +kernel
theorem dJ6_bitCount_0f7a4_43 : decode cJ6_bitCount_0f7a4 43 = .ok (.bipush 16, 2) := by decide +kernel
theorem dJ6_bitCount_0f7a4_45 : decode cJ6_bitCount_0f7a4 45 = .ok (.iushr, 1) := by decide +kernel
theorem dJ6_bitCount_0f7a4_46 : decode cJ6_bitCount_0f7a4 46 = .ok (.iadd, 1) := by decide +kernel
theorem dJ6_bitCount_0f7a4_47 : decode cJ6_bitCount_0f7a4 47 = .ok (.istore_n 0, 1) := by decide +kernel
theorem dJ6_bitCount_0f7a4_48 : decode cJ6_bitCount_0f7a4 48 = .ok (.iload_n 0, 1) := by decide +kernel
theorem dJ6_bitCount_0f7a4_49 : decode cJ6_bitCount_0f7a4 49 = .ok (.bipush 63, 2) := by decide +kernel
theorem dJ6_bitCount_0f7a4_51 : decode cJ6_bitCount_0f7a4 51 = .ok (.iand, 1) := by decide +kernel
theorem dJ6_bitCount_0f7a4_52 : decode cJ6_bitCount_0f7a4 52 = .ok (.ireturn, 1) := by decide +kernel
theorem dJ9_max_7cf53_0 : decode cJ9_max_7cf53 0 = .ok (.iload_n 0, 1) := by decide +kernel
theorem dJ9_max_7cf53_1 : decode cJ9_max_7cf53 1 = .ok (.iload_n 1, 1) := by decide +kernel
theorem dJ9_max_7cf53_2 : decode cJ9_max_7cf53 2 = .ok (.if_icmp .lt 7, 3) := by decide +kernel
theorem dJ9_max_7cf53_5 : decode cJ9_max_7cf53 5 = .ok (.iload_n 0, 1) := by decide +kernel
theorem dJ9_max_7cf53_6 : decode cJ9_max_7cf53 6 = .ok (.goto 4, 3) := by decide +kernel
theorem dJ9_max_7cf53_9 : decode cJ9_max_7cf53 9 = .ok (.iload_n 1, 1) := by decide +kernel
theorem dJ9_max_7cf53_10 : decode cJ9_max_7cf53 10 = .ok (.ireturn, 1) := by decide +kernel
theorem dJ9_min_7cf53_0 : decode cJ9_min_7cf53 0 = .ok (.iload_n 0, 1) := by decide +kernel
theorem dJ9_min_7cf53_1 : decode cJ9_min_7cf53 1 = .ok (.iload_n 1, 1) := by decide +kernel
theorem dJ9_min_7cf53_2 : decode cJ9_min_7cf53 2 = .ok (.if_icmp .gt 7, 3) := by decide +kernel
theorem dJ9_min_7cf53_5 : decode cJ9_min_7cf53 5 = .ok (.iload_n 0, 1) := by decide +kernel
theorem dJ9_min_7cf53_6 : decode cJ9_min_7cf53 6 = .ok (.goto 4, 3) := by decide +kernel
theorem dJ9_min_7cf53_9 : decode cJ9_min_7cf53 9 = .ok (.iload_n 1, 1) := by decide +kernel
theorem dJ9_min_7cf53_10 : decode cJ9_min_7cf53 10 = .ok (.ireturn, 1) := by decide +kernel
end
section
theorem dX5_init_0 : decode cX5_init 0 = .ok (.aload_n 0, 1) := by decide +kernel
theorem dX5_init_1 : decode cX5_init 1 = .ok (.invokespecial 1, 3) := by decide +kernel
theorem dX5_init_4 : decode cX5_init 4 = .ok (.aload_n 0, 1) := by decide +kernel
theorem dX5_init_5 : decode cX5_init 5 = .ok (.iconst 4, 1) := by decide +kernel
theorem dX5_init_6 : decode cX5_init 6 = .ok (.newarray .int, 2) := by decide +kernel
theorem dX5_init_8 : decode cX5_init 8 = .ok (.putfield 9, 3) := by decide +kernel
theorem dX5_init_11 : decode cX5_init 11 = .ok (.aload_n 0, 1) := by decide +kernel
theorem dX5_init_12 : decode cX5_init 12 = .ok (.bipush 24, 2) := by decide +kernel
theorem dX5_init_14 : decode cX5_init 14 = .ok (.newarray .int, 2) := by decide +kernel
theorem dX5_init_16 : decode cX5_init 16 = .ok (.putfield 13, 3) := by decide +kernel
theorem dX5_init_19 : decode cX5_init 19 = .ok (.aload_n 0, 1) := by decide +kernel
theorem dX5_init_20 : decode cX5_init 20 = .ok (.bipush 24, 2) := by decide +kernel
theorem dX5_init_22 : decode cX5_init 22 = .ok (.newarray .int, 2) := by decide +kernel
theorem dX5_init_24 : decode cX5_init 24 = .ok (.putfield 16, 3) := by decide +kernel
theorem dX5_init_27 : decode cX5_init 27 = .ok (.aload_n 0, 1) := by decide +kernel
theorem dX5_init_28 : decode cX5_init 28 = .ok (.bipush 24, 2) := by decide +kernel
theorem dX5_init_30 : decode cX5_init 30 = .ok (.iconst 3, 1) := by decide +kernel
theorem dX5_init_31 : decode cX5_init 31 = .ok (.multianewarray 19 2, 4) := by decide +kernel
theorem dX5_init_35 : decode cX5_init 35 = .ok (.putfield 21, 3) := by decide +kernel
theorem dX5_init_38 : decode cX5_init 38 = .ok (.aload_n 0, 1) := by decide +kernel
theorem dX5_init_39 : decode cX5_init 39 = .ok (.bipush 24, 2) := by decide +kernel
theorem dX5_init_41 : decode cX5_init 41 = .ok (.iconst 3, 1) := by decide +kernel
theorem dX5_init_42 : decode cX5_init 42 = .ok (.multianewarray 19 2, 4) := by decide +kernel
theorem dX5_init_46 : decode cX5_init 46 = .ok (.putfield 24, 3) := by decide +kernel
theorem dX5_init_49 : decode cX5_init 49 = .ok (.aload_n 0, 1) := by decide +kernel
theorem dX5_init_50 : decode cX5_init 50 = .ok (.bipush 24, 2) := by decide +kernel
theorem dX5_init_52 : decode cX5_init 52 = .ok (.newarray .boolean, 2) := by decide +kernel
theorem dX5_init_54 : decode cX5_init 54 = .ok (.putfield 27, 3) := by decide +kernel
theorem dX5_init_57 : decode cX5_init 57 = .ok (.aload_n 0, 1) := by decide +kernel
theorem dX5_init_58 : decode cX5_init 58 = .ok (.bipush 12, 2) := by decide +kernel
theorem dX5_init_60 : decode cX5_init 60 = .ok (.newarray .int, 2) := by decide +kernel
theorem dX5_init_62 : decode cX5_init 62 = .ok (.putfield 31, 3) := by decide +kernel
theorem dX5_init_65 : decode cX5_init 65 = .ok (.aload_n 0, 1) := by decide +kernel
theorem dX5_init_66 : decode cX5_init 66 = .ok (.bipush 12, 2) := by decide +kernel
theorem dX5_init_68 : decode cX5_init 68 = .ok (.newarray .int, 2) := by decide +kernel
theorem dX5_init_70 : decode cX5_init 70 = .ok (.putfield 34, 3) := by decide +kernel
theorem dX5_init_73 : decode cX5_init 73 = .ok (.aload_n 0, 1) := by decide +kernel
theorem dX5_init_74 : decode cX5_init 74 = .ok (.bipush 30, 2) := by decide +kernel
theorem dX5_init_76 : decode cX5_init 76 = .ok (.putfield 37, 3) := by decide +kernel
theorem dX5_init_79 : decode cX5_init 79 = .ok (.aload_n 0, 1) := by decide +kernel
theorem dX5_init_80 : decode cX5_init 80 = .ok (.bipush 24, 2) := by decide +kernel
theorem dX5_init_82 : decode cX5_init 82 = .ok (.newarray .int, 2) := by decide +kernel
theorem dX5_init_84 : decode cX5_init 84 = .ok (.putfield 41, 3) := by decide +kernel
theorem dX5_init_87 : decode cX5_init 87 = .ok (.aload_n 0, 1) := by decide +kernel
theorem dX5_init_88 : decode cX5_init 88 = .ok (.bipush 24, 2) := by decide +kernel
theorem dX5_init_90 : decode cX5_init 90 = .ok (.newarray .int, 2) := by decide +kernel
theorem dX5_init_92 : decode cX5_init 92 = .ok (.putfield 44, 3) := by decide +kernel
theorem dX5_init_95 : decode cX5_init 95 = .ok (.aload_n 0, 1) := by decide +kernel
theorem dX5_init_96 : decode cX5_init 96 = .ok (.iconst (-1), 1) := by decide +kernel
theorem dX5_init_97 : decode cX5_init 97 = .ok (.putfield 47, 3) := by decide +kernel
theorem dX5_init_100 : decode cX5_init 100 = .ok (.aload_n 0, 1) := by decide +kernel
theorem dX5_init_101 : decode cX5_init 101 = .ok (.iconst (-1), 1) := by decide +kernel
theorem dX5_init_102 : decode cX5_init 102 = .ok (.putfield 50, 3) := by decide +kernel
theorem dX5_init_105 : decode cX5_init 105 = .ok (.return_, 1) := by decide +kernel
theorem dX5_thrown_0 : decode cX5_thrown 0 = .ok (.aload_n 0, 1) := by decide +kernel
theorem dX5_thrown_1 : decode cX5_thrown 1 = .ok (.getfield 53, 3) := by decide +kernel
theorem dX5_thrown_4 : decode cX5_thrown 4 = .ok (.ireturn, 1) := by decide +kernel
theorem dX5_raises_0 : decode cX5_raises 0 = .ok (.aload_n 0, 1) := by decide +kernel
theorem dX5_raises_1 : decode cX5_raises 1 = .ok (.iload_n 1, 1) := by decide +kernel
theorem dX5_raises_2 : decode cX5_raises 2 = .ok (.putfield 53, 3) := by decide +kernel
theorem dX5_raises_5 : decode cX5_raises 5 = .ok (.iconst 0, 1) := by decide +kernel
theorem dX5_raises_6 : decode cX5_raises 6 = .ok (.ireturn, 1) := by decide +kernel
theorem dX5_in_0 : decode cX5_in 0 = .ok (.iload_n 0, 1) := by decide +kernel
theorem dX5_in_1 : decode cX5_in 1 = .ok (.iload_n 1, 1) := by decide +kernel
theorem dX5_in_2 : decode cX5_in 2 = .ok (.if_icmp .lt 12, 3) := by decide +kernel
theorem dX5_in_5 : decode cX5_in 5 = .ok (.iload_n 0, 1) := by decide +kernel
theorem dX5_in_6 : decode cX5_in 6 = .ok (.iload_n 2, 1) := by decide +kernel
theorem dX5_in_7 : decode cX5_in 7 = .ok (.if_icmp .gt 7, 3) := by decide +kernel
theorem dX5_in_10 : decode cX5_in 10 = .ok (.iconst 1, 1) := by decide +kernel
theorem dX5_in_11 : decode cX5_in 11 = .ok (.goto 4, 3) := by decide +kernel
theorem dX5_in_14 : decode cX5_in 14 = .ok (.iconst 0, 1) := by decide +kernel
theorem dX5_in_15 : decode cX5_in 15 = .ok (.ireturn, 1) := by decide +kernel
theorem dX5_isRecord_0 : decode cX5_isRecord 0 = .ok (.iload_n 1, 1) := by decide +kernel
theorem dX5_isRecord_1 : decode cX5_isRecord 1 = .ok (.iconst 0, 1) := by decide +kernel
theorem dX5_isRecord_2 : decode cX5_isRecord 2 = .ok (.aload_n 0, 1) := by decide +kernel
theorem dX5_isRecord_3 : decode cX5_isRecord 3 = .ok (.getfield 56, 3) := by decide +kernel
theorem dX5_isRecord_6 : decode cX5_isRecord 6 = .ok (.iconst 1, 1) := by decide +kernel
theorem dX5_isRecord_7 : decode cX5_isRecord 7 = .ok (.isub, 1) := by decide +kernel
theorem dX5_isRecord_8 : decode cX5_isRecord 8 = .ok (.invokestatic 59, 3) := by decide +kernel
theorem dX5_isRecord_11 : decode cX5_isRecord 11 = .ok (.ifCond .eq 16, 3) := by decide +kernel
theorem dX5_isRecord_14 : decode cX5_isRecord 14 = .ok (.aload_n 0, 1) := by decide +kernel
theorem dX5_isRecord_15 : decode cX5_isRecord 15 = .ok (.getfield 27, 3) := by decide +kernel
theorem dX5_isRecord_18 : decode cX5_isRecord 18 = .ok (.iload_n 1, 1) := by decide +kernel
theorem dX5_isRecord_19 : decode cX5_isRecord 19 = .ok (.baload, 1) := by decide +kernel
theorem dX5_isRecord_20 : decode cX5_isRecord 20 = .ok (.ifCond .ne 7, 3) := by decide +kernel
theorem dX5_isRecord_23 : decode cX5_isRecord 23 = .ok (.iconst 1, 1) := by decide +kernel
theorem dX5_isRecord_24 : decode cX5_isRecord 24 = .ok (.goto 4, 3) := by decide +kernel
theorem dX5_isRecord_27 : decode cX5_isRecord 27 = .ok (.iconst 0, 1) := by decide +kernel
theorem dX5_isRecord_28 : decode cX5_isRecord 28 = .ok (.ireturn, 1) := by decide +kernel
theorem dX5_lacks_0 : decode cX5_lacks 0 = .ok (.aload_n 0, 1) := by decide +kernel
theorem dX5_lacks_1 : decode cX5_lacks 1 = .ok (.aload_n 0, 1) := by decide +kernel
theorem dX5_lacks_2 : decode cX5_lacks 2 = .ok (.iload_n 1, 1) := by decide +kernel
theorem dX5_lacks_3 : decode cX5_lacks 3 = .ok (.invokevirtual 63, 3) := by decide +kernel
theorem dX5_lacks_6 : decode cX5_lacks 6 = .ok (.ifCond .eq 7, 3) := by decide +kernel
theorem dX5_lacks_9 : decode cX5_lacks 9 = .ok (.iconst 0, 1) := by decide +kernel
theorem dX5_lacks_10 : decode cX5_lacks 10 = .ok (.goto 4, 3) := by decide +kernel
theorem dX5_lacks_13 : decode cX5_lacks 13 = .ok (.iconst 1, 1) := by decide +kernel
theorem dX5_lacks_14 : decode cX5_lacks 14 = .ok (.putfield 53, 3) := by decide +kernel
theorem dX5_lacks_17 : decode cX5_lacks 17 = .ok (.aload_n 0, 1) := by decide +kernel
theorem dX5_lacks_18 : decode cX5_lacks 18 = .ok (.getfield 53, 3) := by decide +kernel
theorem dX5_lacks_21 : decode cX5_lacks 21 = .ok (.ifCond .le 7, 3) := by decide +kernel
theorem dX5_lacks_24 : decode cX5_lacks 24 = .ok (.iconst 1, 1) := by decide +kernel
theorem dX5_lacks_25 : decode cX5_lacks 25 = .ok (.goto 4, 3) := by decide +kernel
theorem dX5_lacks_28 : decode cX5_lacks 28 = .ok (.iconst 0, 1) := by decide +kernel
theorem dX5_lacks_29 : decode cX5_lacks 29 = .ok (.ireturn, 1) := by decide +kernel
theorem dX5_addSource_0 : decode cX5_addSource 0 = .ok (.aload_n 0, 1) := by decide +kernel
theorem dX5_addSource_1 : decode cX5_addSource 1 = .ok (.iload_n 1, 1) := by decide +kernel
theorem dX5_addSource_2 : decode cX5_addSource 2 = .ok (.iconst 1, 1) := by decide +kernel
theorem dX5_addSource_3 : decode cX5_addSource 3 = .ok (.bipush 9, 2) := by decide +kernel
theorem dX5_addSource_5 : decode cX5_addSource 5 = .ok (.invokestatic 59, 3) := by decide +kernel
theorem dX5_addSource_8 : decode cX5_addSource 8 = .ok (.ifCond .ne 7, 3) := by decide +kernel
theorem dX5_addSource_11 : decode cX5_addSource 11 = .ok (.iconst 1, 1) := by decide +kernel
theorem dX5_addSource_12 : decode cX5_addSource 12 = .ok (.goto 16, 3) := by decide +kernel
theorem dX5_addSource_15 : decode cX5_addSource 15 = .ok (.aload_n 0, 1) := by decide +kernel
theorem dX5_addSource_16 : decode cX5_addSource 16 = .ok (.getfield 67, 3) := by decide +kernel
theorem dX5_addSource_19 : decode cX5_addSource 19 = .ok (.iconst 4, 1) := by decide +kernel
theorem dX5_addSource_20 : decode cX5_addSource 20 = .ok (.if_icmp .ne 7, 3) := by decide +kernel
theorem dX5_addSource_23 : decode cX5_addSource 23 = .ok (.iconst 2, 1) := by decide +kernel
theorem dX5_addSource_24 : decode cX5_addSource 24 = .ok (.goto 4, 3) := by decide +kernel
theorem dX5_addSource_27 : decode cX5_addSource 27 = .ok (.iconst 0, 1) := by decide +kernel
theorem dX5_addSource_28 : decode cX5_addSource 28 = .ok (.putfield 53, 3) := by decide +kernel
theorem dX5_addSource_31 : decode cX5_addSource 31 = .ok (.aload_n 0, 1) := by decide +kernel
theorem dX5_addSource_32 : decode cX5_addSource 32 = .ok (.getfield 53, 3) := by decide +kernel
theorem dX5_addSource_35 : decode cX5_addSource 35 = .ok (.ifCond .le 5, 3) := by decide +kernel
theorem dX5_addSource_38 : decode cX5_addSource 38 = .ok (.iconst 0, 1) := by decide +kernel
theorem dX5_addSource_39 : decode cX5_addSource 39 = .ok (.ireturn, 1) := by decide +kernel
theorem dX5_addSource_40 : decode cX5_addSource 40 = .ok (.aload_n 0, 1) := by decide +kernel
theorem dX5_addSource_41 : decode cX5_addSource 41 = .ok (.getfield 9, 3) := by decide +kernel
theorem dX5_addSource_44 : decode cX5_addSource 44 = .ok (.aload_n 0, 1) := by decide +kernel
theorem dX5_addSource_45 : decode cX5_addSource 45 = .ok (.getfield 67, 3) := by decide +kernel
theorem dX5_addSource_48 : decode cX5_addSource 48 = .ok (.iload_n 1, 1) := by decide +kernel
theorem dX5_addSource_49 : decode cX5_addSource 49 = .ok (.iastore, 1) := by decide +kernel
theorem dX5_addSource_50 : decode cX5_addSource 50 = .ok (.aload_n 0, 1) := by decide +kernel
theorem dX5_addSource_51 : decode cX5_addSource 51 = .ok (.dup, 1) := by decide +kernel
theorem dX5_addSource_52 : decode cX5_addSource 52 = .ok (.getfield 67, 3) := by decide +kernel
theorem dX5_addSource_55 : decode cX5_addSource 55 = .ok (.iconst 1, 1) := by decide +kernel
theorem dX5_addSource_56 : decode cX5_addSource 56 = .ok (.iadd, 1) := by decide +kernel
theorem dX5_addSource_57 : decode cX5_addSource 57 = .ok (.putfield 67, 3) := by decide +kernel
theorem dX5_addSource_60 : decode cX5_addSource 60 = .ok (.aload_n 0, 1) := by decide +kernel
theorem dX5_addSource_61 : decode cX5_addSource 61 = .ok (.getfield 67, 3) := by decide +kernel
theorem dX5_addSource_64 : decode cX5_addSource 64 = .ok (.iconst 1, 1) := by decide +kernel
theorem dX5_addSource_65 : decode cX5_addSource 65 = .ok (.isub, 1) := by decide +kernel
theorem dX5_addSource_66 : decode cX5_addSource 66 = .ok (.ireturn, 1) := by decide +kernel
theorem dX5_setTrust_0 : decode cX5_setTrust 0 = .ok (.aload_n 0, 1) := by decide +kernel
theorem dX5_setTrust_1 : decode cX5_setTrust 1 = .ok (.iload_n 1, 1) := by decide +kernel
theorem dX5_setTrust_2 : decode cX5_setTrust 2 = .ok (.iconst 0, 1) := by decide +kernel
theorem dX5_setTrust_3 : decode cX5_setTrust 3 = .ok (.aload_n 0, 1) := by decide +kernel
theorem dX5_setTrust_4 : decode cX5_setTrust 4 = .ok (.getfield 67, 3) := by decide +kernel
theorem dX5_setTrust_7 : decode cX5_setTrust 7 = .ok (.iconst 1, 1) := by decide +kernel
theorem dX5_setTrust_8 : decode cX5_setTrust 8 = .ok (.isub, 1) := by decide +kernel
theorem dX5_setTrust_9 : decode cX5_setTrust 9 = .ok (.invokestatic 59, 3) := by decide +kernel
theorem dX5_setTrust_12 : decode cX5_setTrust 12 = .ok (.ifCond .ne 7, 3) := by decide +kernel
theorem dX5_setTrust_15 : decode cX5_setTrust 15 = .ok (.iconst 1, 1) := by decide +kernel
theorem dX5_setTrust_16 : decode cX5_setTrust 16 = .ok (.goto 18, 3) := by decide +kernel
theorem dX5_setTrust_19 : decode cX5_setTrust 19 = .ok (.iload_n 2, 1) := by decide +kernel
theorem dX5_setTrust_20 : decode cX5_setTrust 20 = .ok (.iconst 1, 1) := by decide +kernel
theorem dX5_setTrust_21 : decode cX5_setTrust 21 = .ok (.bipush 9, 2) := by decide +kernel
theorem dX5_setTrust_23 : decode cX5_setTrust 23 = .ok (.invokestatic 59, 3) := by decide +kernel
theorem dX5_setTrust_26 : decode cX5_setTrust 26 = .ok (.ifCond .ne 7, 3) := by decide +kernel
theorem dX5_setTrust_29 : decode cX5_setTrust 29 = .ok (.iconst 2, 1) := by decide +kernel
theorem dX5_setTrust_30 : decode cX5_setTrust 30 = .ok (.goto 4, 3) := by decide +kernel
theorem dX5_setTrust_33 : decode cX5_setTrust 33 = .ok (.iconst 0, 1) := by decide +kernel
theorem dX5_setTrust_34 : decode cX5_setTrust 34 = .ok (.putfield 53, 3) := by decide +kernel
theorem dX5_setTrust_37 : decode cX5_setTrust 37 = .ok (.aload_n 0, 1) := by decide +kernel
theorem dX5_setTrust_38 : decode cX5_setTrust 38 = .ok (.getfield 53, 3) := by decide +kernel
theorem dX5_setTrust_41 : decode cX5_setTrust 41 = .ok (.ifCond .le 5, 3) := by decide +kernel
theorem dX5_setTrust_44 : decode cX5_setTrust 44 = .ok (.iconst 0, 1) := by decide +kernel
theorem dX5_setTrust_45 : decode cX5_setTrust 45 = .ok (.ireturn, 1) := by decide +kernel
theorem dX5_setTrust_46 : decode cX5_setTrust 46 = .ok (.aload_n 0, 1) := by decide +kernel
theorem dX5_setTrust_47 : decode cX5_setTrust 47 = .ok (.getfield 9, 3) := by decide +kernel
theorem dX5_setTrust_50 : decode cX5_setTrust 50 = .ok (.iload_n 1, 1) := by decide +kernel
theorem dX5_setTrust_51 : decode cX5_setTrust 51 = .ok (.iaload, 1) := by decide +kernel
theorem dX5_setTrust_52 : decode cX5_setTrust 52 = .ok (.istore_n 3, 1) := by decide +kernel
theorem dX5_setTrust_53 : decode cX5_setTrust 53 = .ok (.aload_n 0, 1) := by decide +kernel
theorem dX5_setTrust_54 : decode cX5_setTrust 54 = .ok (.getfield 9, 3) := by decide +kernel
theorem dX5_setTrust_57 : decode cX5_setTrust 57 = .ok (.iload_n 1, 1) := by decide +kernel
theorem dX5_setTrust_58 : decode cX5_setTrust 58 = .ok (.iload_n 2, 1) := by decide +kernel
theorem dX5_setTrust_59 : decode cX5_setTrust 59 = .ok (.iastore, 1) := by decide +kernel
theorem dX5_setTrust_60 : decode cX5_setTrust 60 = .ok (.iload_n 3, 1) := by decide +kernel
theorem dX5_setTrust_61 : decode cX5_setTrust 61 = .ok (.ireturn, 1) := by decide +kernel
theorem dX5_isKey_0 : decode cX5_isKey 0 = .ok (.iload_n 0, 1) := by decide +kernel
theorem dX5_isKey_1 : decode cX5_isKey 1 = .ok (.iconst (-1), 1) := by decide +kernel
theorem dX5_isKey_2 : decode cX5_isKey 2 = .ok (.bipush 99, 2) := by decide +kernel
theorem dX5_isKey_4 : decode cX5_isKey 4 = .ok (.invokestatic 59, 3) := by decide +kernel
theorem dX5_isKey_7 : decode cX5_isKey 7 = .ok (.ireturn, 1) := by decide +kernel
theorem dX5_addRecord_0 : decode cX5_addRecord 0 = .ok (.aload_n 0, 1) := by decide +kernel
theorem dX5_addRecord_1 : decode cX5_addRecord 1 = .ok (.iload_n 1, 1) := by decide +kernel
theorem dX5_addRecord_2 : decode cX5_addRecord 2 = .ok (.iconst 0, 1) := by decide +kernel
theorem dX5_addRecord_3 : decode cX5_addRecord 3 = .ok (.aload_n 0, 1) := by decide +kernel
theorem dX5_addRecord_4 : decode cX5_addRecord 4 = .ok (.getfield 67, 3) := by decide +kernel
theorem dX5_addRecord_7 : decode cX5_addRecord 7 = .ok (.iconst 1, 1) := by decide +kernel
theorem dX5_addRecord_8 : decode cX5_addRecord 8 = .ok (.isub, 1) := by decide +kernel
theorem dX5_addRecord_9 : decode cX5_addRecord 9 = .ok (.invokestatic 59, 3) := by decide +kernel
theorem dX5_addRecord_12 : decode cX5_addRecord 12 = .ok (.ifCond .ne 7, 3) := by decide +kernel
theorem dX5_addRecord_15 : decode cX5_addRecord 15 = .ok (.iconst 1, 1) := by decide +kernel
theorem dX5_addRecord_16 : decode cX5_addRecord 16 = .ok (.goto 43, 3) := by decide +kernel
theorem dX5_addRecord_19 : decode cX5_addRecord 19 = .ok (.iload_n 2, 1) := by decide +kernel
theorem dX5_addRecord_20 : decode cX5_addRecord 20 = .ok (.invokestatic 70, 3) := by decide +kernel
theorem dX5_addRecord_23 : decode cX5_addRecord 23 = .ok (.ifCond .eq 18, 3) := by decide +kernel
theorem dX5_addRecord_26 : decode cX5_addRecord 26 = .ok (.iload_n 3, 1) := by decide +kernel
theorem dX5_addRecord_27 : decode cX5_addRecord 27 = .ok (.invokestatic 70, 3) := by decide +kernel
theorem dX5_addRecord_30 : decode cX5_addRecord 30 = .ok (.ifCond .eq 11, 3) := by decide +kernel
theorem dX5_addRecord_33 : decode cX5_addRecord 33 = .ok (.iload 4, 2) := by decide +kernel
theorem dX5_addRecord_35 : decode cX5_addRecord 35 = .ok (.invokestatic 70, 3) := by decide +kernel
theorem dX5_addRecord_38 : decode cX5_addRecord 38 = .ok (.ifCond .ne 7, 3) := by decide +kernel
theorem dX5_addRecord_41 : decode cX5_addRecord 41 = .ok (.iconst 2, 1) := by decide +kernel
theorem dX5_addRecord_42 : decode cX5_addRecord 42 = .ok (.goto 17, 3) := by decide +kernel
theorem dX5_addRecord_45 : decode cX5_addRecord 45 = .ok (.aload_n 0, 1) := by decide +kernel
theorem dX5_addRecord_46 : decode cX5_addRecord 46 = .ok (.getfield 56, 3) := by decide +kernel
theorem dX5_addRecord_49 : decode cX5_addRecord 49 = .ok (.bipush 24, 2) := by decide +kernel
theorem dX5_addRecord_51 : decode cX5_addRecord 51 = .ok (.if_icmp .ne 7, 3) := by decide +kernel
theorem dX5_addRecord_54 : decode cX5_addRecord 54 = .ok (.iconst 3, 1) := by decide +kernel
theorem dX5_addRecord_55 : decode cX5_addRecord 55 = .ok (.goto 4, 3) := by decide +kernel
theorem dX5_addRecord_58 : decode cX5_addRecord 58 = .ok (.iconst 0, 1) := by decide +kernel
theorem dX5_addRecord_59 : decode cX5_addRecord 59 = .ok (.putfield 53, 3) := by decide +kernel
theorem dX5_addRecord_62 : decode cX5_addRecord 62 = .ok (.aload_n 0, 1) := by decide +kernel
theorem dX5_addRecord_63 : decode cX5_addRecord 63 = .ok (.getfield 53, 3) := by decide +kernel
theorem dX5_addRecord_66 : decode cX5_addRecord 66 = .ok (.ifCond .le 5, 3) := by decide +kernel
theorem dX5_addRecord_69 : decode cX5_addRecord 69 = .ok (.iconst 0, 1) := by decide +kernel
theorem dX5_addRecord_70 : decode cX5_addRecord 70 = .ok (.ireturn, 1) := by decide +kernel
theorem dX5_addRecord_71 : decode cX5_addRecord 71 = .ok (.aload_n 0, 1) := by decide +kernel
theorem dX5_addRecord_72 : decode cX5_addRecord 72 = .ok (.getfield 56, 3) := by decide +kernel
theorem dX5_addRecord_75 : decode cX5_addRecord 75 = .ok (.istore 5, 2) := by decide +kernel
theorem dX5_addRecord_77 : decode cX5_addRecord 77 = .ok (.aload_n 0, 1) := by decide +kernel
theorem dX5_addRecord_78 : decode cX5_addRecord 78 = .ok (.dup, 1) := by decide +kernel
theorem dX5_addRecord_79 : decode cX5_addRecord 79 = .ok (.getfield 56, 3) := by decide +kernel
theorem dX5_addRecord_82 : decode cX5_addRecord 82 = .ok (.iconst 1, 1) := by decide +kernel
theorem dX5_addRecord_83 : decode cX5_addRecord 83 = .ok (.iadd, 1) := by decide +kernel
theorem dX5_addRecord_84 : decode cX5_addRecord 84 = .ok (.putfield 56, 3) := by decide +kernel
theorem dX5_addRecord_87 : decode cX5_addRecord 87 = .ok (.aload_n 0, 1) := by decide +kernel
theorem dX5_addRecord_88 : decode cX5_addRecord 88 = .ok (.getfield 13, 3) := by decide +kernel
theorem dX5_addRecord_91 : decode cX5_addRecord 91 = .ok (.iload 5, 2) := by decide +kernel
theorem dX5_addRecord_93 : decode cX5_addRecord 93 = .ok (.iload_n 1, 1) := by decide +kernel
theorem dX5_addRecord_94 : decode cX5_addRecord 94 = .ok (.iastore, 1) := by decide +kernel
theorem dX5_addRecord_95 : decode cX5_addRecord 95 = .ok (.aload_n 0, 1) := by decide +kernel
theorem dX5_addRecord_96 : decode cX5_addRecord 96 = .ok (.getfield 16, 3) := by decide +kernel
theorem dX5_addRecord_99 : decode cX5_addRecord 99 = .ok (.iload 5, 2) := by decide +kernel
theorem dX5_addRecord_101 : decode cX5_addRecord 101 = .ok (.aload_n 0, 1) := by decide +kernel
theorem dX5_addRecord_102 : decode cX5_addRecord 102 = .ok (.getfield 73, 3) := by decide +kernel
theorem dX5_addRecord_105 : decode cX5_addRecord 105 = .ok (.iastore, 1) := by decide +kernel
theorem dX5_addRecord_106 : decode cX5_addRecord 106 = .ok (.aload_n 0, 1) := by decide +kernel
theorem dX5_addRecord_107 : decode cX5_addRecord 107 = .ok (.getfield 21, 3) := by decide +kernel
theorem dX5_addRecord_110 : decode cX5_addRecord 110 = .ok (.iload 5, 2) := by decide +kernel
theorem dX5_addRecord_112 : decode cX5_addRecord 112 = .ok (.aaload, 1) := by decide +kernel
theorem dX5_addRecord_113 : decode cX5_addRecord 113 = .ok (.iconst 0, 1) := by decide +kernel
theorem dX5_addRecord_114 : decode cX5_addRecord 114 = .ok (.iload_n 2, 1) := by decide +kernel
theorem dX5_addRecord_115 : decode cX5_addRecord 115 = .ok (.iastore, 1) := by decide +kernel
theorem dX5_addRecord_116 : decode cX5_addRecord 116 = .ok (.aload_n 0, 1) := by decide +kernel
theorem dX5_addRecord_117 : decode cX5_addRecord 117 = .ok (.getfield 21, 3) := by decide +kernel
theorem dX5_addRecord_120 : decode cX5_addRecord 120 = .ok (.iload 5, 2) := by decide +kernel
theorem dX5_addRecord_122 : decode cX5_addRecord 122 = .ok (.aaload, 1) := by decide +kernel
theorem dX5_addRecord_123 : decode cX5_addRecord 123 = .ok (.iconst 1, 1) := by decide +kernel
theorem dX5_addRecord_124 : decode cX5_addRecord 124 = .ok (.iload_n 3, 1) := by decide +kernel
theorem dX5_addRecord_125 : decode cX5_addRecord 125 = .ok (.iastore, 1) := by decide +kernel
theorem dX5_addRecord_126 : decode cX5_addRecord 126 = .ok (.aload_n 0, 1) := by decide +kernel
theorem dX5_addRecord_127 : decode cX5_addRecord 127 = .ok (.getfield 21, 3) := by decide +kernel
theorem dX5_addRecord_130 : decode cX5_addRecord 130 = .ok (.iload 5, 2) := by decide +kernel
theorem dX5_addRecord_132 : decode cX5_addRecord 132 = .ok (.aaload, 1) := by decide +kernel
theorem dX5_addRecord_133 : decode cX5_addRecord 133 = .ok (.iconst 2, 1) := by decide +kernel
theorem dX5_addRecord_134 : decode cX5_addRecord 134 = .ok (.iload 4, 2) := by decide +kernel
theorem dX5_addRecord_136 : decode cX5_addRecord 136 = .ok (.iastore, 1) := by decide +kernel
theorem dX5_addRecord_137 : decode cX5_addRecord 137 = .ok (.iconst 0, 1) := by decide +kernel
theorem dX5_addRecord_138 : decode cX5_addRecord 138 = .ok (.istore 6, 2) := by decide +kernel
theorem dX5_addRecord_140 : decode cX5_addRecord 140 = .ok (.iload 6, 2) := by decide +kernel
theorem dX5_addRecord_142 : decode cX5_addRecord 142 = .ok (.iconst 3, 1) := by decide +kernel
theorem dX5_addRecord_143 : decode cX5_addRecord 143 = .ok (.if_icmp .ge 20, 3) := by decide +kernel
theorem dX5_addRecord_146 : decode cX5_addRecord 146 = .ok (.aload_n 0, 1) := by decide +kernel
theorem dX5_addRecord_147 : decode cX5_addRecord 147 = .ok (.getfield 24, 3) := by decide +kernel
theorem dX5_addRecord_150 : decode cX5_addRecord 150 = .ok (.iload 5, 2) := by decide +kernel
theorem dX5_addRecord_152 : decode cX5_addRecord 152 = .ok (.aaload, 1) := by decide +kernel
theorem dX5_addRecord_153 : decode cX5_addRecord 153 = .ok (.iload 6, 2) := by decide +kernel
theorem dX5_addRecord_155 : decode cX5_addRecord 155 = .ok (.iconst (-1), 1) := by decide +kernel
theorem dX5_addRecord_156 : decode cX5_addRecord 156 = .ok (.iastore, 1) := by decide +kernel
theorem dX5_addRecord_157 : decode cX5_addRecord 157 = .ok (.iinc 6 1, 3) := by decide +kernel
theorem dX5_addRecord_160 : decode cX5_addRecord 160 = .ok (.goto (-20), 3) := by decide +kernel
theorem dX5_addRecord_163 : decode cX5_addRecord 163 = .ok (.iload 5, 2) := by decide +kernel
theorem dX5_addRecord_165 : decode cX5_addRecord 165 = .ok (.ireturn, 1) := by decide +kernel
theorem dX5_setKey_0 : decode cX5_setKey 0 = .ok (.aload_n 0, 1) := by decide +kernel
theorem dX5_setKey_1 : decode cX5_setKey 1 = .ok (.aload_n 0, 1) := by decide +kernel
theorem dX5_setKey_2 : decode cX5_setKey 2 = .ok (.iload_n 1, 1) := by decide +kernel
theorem dX5_setKey_3 : decode cX5_setKey 3 = .ok (.invokevirtual 63, 3) := by decide +kernel
theorem dX5_setKey_6 : decode cX5_setKey 6 = .ok (.ifCond .eq 12, 3) := by decide +kernel
theorem dX5_setKey_9 : decode cX5_setKey 9 = .ok (.iload_n 2, 1) := by decide +kernel
theorem dX5_setKey_10 : decode cX5_setKey 10 = .ok (.iconst 0, 1) := by decide +kernel
theorem dX5_setKey_11 : decode cX5_setKey 11 = .ok (.iconst 2, 1) := by decide +kernel
theorem dX5_setKey_12 : decode cX5_setKey 12 = .ok (.invokestatic 59, 3) := by decide +kernel
theorem dX5_setKey_15 : decode cX5_setKey 15 = .ok (.ifCond .ne 7, 3) := by decide +kernel
theorem dX5_setKey_18 : decode cX5_setKey 18 = .ok (.iconst 1, 1) := by decide +kernel
theorem dX5_setKey_19 : decode cX5_setKey 19 = .ok (.goto 15, 3) := by decide +kernel
theorem dX5_setKey_22 : decode cX5_setKey 22 = .ok (.iload_n 3, 1) := by decide +kernel
theorem dX5_setKey_23 : decode cX5_setKey 23 = .ok (.invokestatic 70, 3) := by decide +kernel
theorem dX5_setKey_26 : decode cX5_setKey 26 = .ok (.ifCond .ne 7, 3) := by decide +kernel
theorem dX5_setKey_29 : decode cX5_setKey 29 = .ok (.iconst 2, 1) := by decide +kernel
theorem dX5_setKey_30 : decode cX5_setKey 30 = .ok (.goto 4, 3) := by decide +kernel
theorem dX5_setKey_33 : decode cX5_setKey 33 = .ok (.iconst 0, 1) := by decide +kernel
theorem dX5_setKey_34 : decode cX5_setKey 34 = .ok (.putfield 53, 3) := by decide +kernel
theorem dX5_setKey_37 : decode cX5_setKey 37 = .ok (.aload_n 0, 1) := by decide +kernel
theorem dX5_setKey_38 : decode cX5_setKey 38 = .ok (.getfield 53, 3) := by decide +kernel
theorem dX5_setKey_41 : decode cX5_setKey 41 = .ok (.ifCond .le 5, 3) := by decide +kernel
theorem dX5_setKey_44 : decode cX5_setKey 44 = .ok (.iconst 0, 1) := by decide +kernel
theorem dX5_setKey_45 : decode cX5_setKey 45 = .ok (.ireturn, 1) := by decide +kernel
theorem dX5_setKey_46 : decode cX5_setKey 46 = .ok (.aload_n 0, 1) := by decide +kernel
theorem dX5_setKey_47 : decode cX5_setKey 47 = .ok (.getfield 21, 3) := by decide +kernel
theorem dX5_setKey_50 : decode cX5_setKey 50 = .ok (.iload_n 1, 1) := by decide +kernel
theorem dX5_setKey_51 : decode cX5_setKey 51 = .ok (.aaload, 1) := by decide +kernel
theorem dX5_setKey_52 : decode cX5_setKey 52 = .ok (.iload_n 2, 1) := by decide +kernel
theorem dX5_setKey_53 : decode cX5_setKey 53 = .ok (.iaload, 1) := by decide +kernel
theorem dX5_setKey_54 : decode cX5_setKey 54 = .ok (.istore 4, 2) := by decide +kernel
theorem dX5_setKey_56 : decode cX5_setKey 56 = .ok (.aload_n 0, 1) := by decide +kernel
theorem dX5_setKey_57 : decode cX5_setKey 57 = .ok (.getfield 21, 3) := by decide +kernel
theorem dX5_setKey_60 : decode cX5_setKey 60 = .ok (.iload_n 1, 1) := by decide +kernel
theorem dX5_setKey_61 : decode cX5_setKey 61 = .ok (.aaload, 1) := by decide +kernel
theorem dX5_setKey_62 : decode cX5_setKey 62 = .ok (.iload_n 2, 1) := by decide +kernel
theorem dX5_setKey_63 : decode cX5_setKey 63 = .ok (.iload_n 3, 1) := by decide +kernel
theorem dX5_setKey_64 : decode cX5_setKey 64 = .ok (.iastore, 1) := by decide +kernel
theorem dX5_setKey_65 : decode cX5_setKey 65 = .ok (.iload 4, 2) := by decide +kernel
theorem dX5_setKey_67 : decode cX5_setKey 67 = .ok (.ireturn, 1) := by decide +kernel
theorem dX5_setFact_0 : decode cX5_setFact 0 = .ok (.aload_n 0, 1) := by decide +kernel
theorem dX5_setFact_1 : decode cX5_setFact 1 = .ok (.aload_n 0, 1) := by decide +kernel
theorem dX5_setFact_2 : decode cX5_setFact 2 = .ok (.iload_n 1, 1) := by decide +kernel
theorem dX5_setFact_3 : decode cX5_setFact 3 = .ok (.invokevirtual 63, 3) := by decide +kernel
theorem dX5_setFact_6 : decode cX5_setFact 6 = .ok (.ifCond .eq 12, 3) := by decide +kernel
theorem dX5_setFact_9 : decode cX5_setFact 9 = .ok (.iload_n 2, 1) := by decide +kernel
theorem dX5_setFact_10 : decode cX5_setFact 10 = .ok (.iconst 0, 1) := by decide +kernel
theorem dX5_setFact_11 : decode cX5_setFact 11 = .ok (.iconst 2, 1) := by decide +kernel
theorem dX5_setFact_12 : decode cX5_setFact 12 = .ok (.invokestatic 59, 3) := by decide +kernel
theorem dX5_setFact_15 : decode cX5_setFact 15 = .ok (.ifCond .ne 7, 3) := by decide +kernel
theorem dX5_setFact_18 : decode cX5_setFact 18 = .ok (.iconst 1, 1) := by decide +kernel
theorem dX5_setFact_19 : decode cX5_setFact 19 = .ok (.goto 19, 3) := by decide +kernel
theorem dX5_setFact_22 : decode cX5_setFact 22 = .ok (.iload_n 3, 1) := by decide +kernel
theorem dX5_setFact_23 : decode cX5_setFact 23 = .ok (.iconst (-1), 1) := by decide +kernel
theorem dX5_setFact_24 : decode cX5_setFact 24 = .ok (.sipush 999, 3) := by decide +kernel
theorem dX5_setFact_27 : decode cX5_setFact 27 = .ok (.invokestatic 59, 3) := by decide +kernel
theorem dX5_setFact_30 : decode cX5_setFact 30 = .ok (.ifCond .ne 7, 3) := by decide +kernel
theorem dX5_setFact_33 : decode cX5_setFact 33 = .ok (.iconst 2, 1) := by decide +kernel
theorem dX5_setFact_34 : decode cX5_setFact 34 = .ok (.goto 4, 3) := by decide +kernel
theorem dX5_setFact_37 : decode cX5_setFact 37 = .ok (.iconst 0, 1) := by decide +kernel
theorem dX5_setFact_38 : decode cX5_setFact 38 = .ok (.putfield 53, 3) := by decide +kernel
theorem dX5_setFact_41 : decode cX5_setFact 41 = .ok (.aload_n 0, 1) := by decide +kernel
theorem dX5_setFact_42 : decode cX5_setFact 42 = .ok (.getfield 53, 3) := by decide +kernel
theorem dX5_setFact_45 : decode cX5_setFact 45 = .ok (.ifCond .le 5, 3) := by decide +kernel
theorem dX5_setFact_48 : decode cX5_setFact 48 = .ok (.iconst 0, 1) := by decide +kernel
theorem dX5_setFact_49 : decode cX5_setFact 49 = .ok (.ireturn, 1) := by decide +kernel
theorem dX5_setFact_50 : decode cX5_setFact 50 = .ok (.aload_n 0, 1) := by decide +kernel
theorem dX5_setFact_51 : decode cX5_setFact 51 = .ok (.getfield 24, 3) := by decide +kernel
theorem dX5_setFact_54 : decode cX5_setFact 54 = .ok (.iload_n 1, 1) := by decide +kernel
theorem dX5_setFact_55 : decode cX5_setFact 55 = .ok (.aaload, 1) := by decide +kernel
theorem dX5_setFact_56 : decode cX5_setFact 56 = .ok (.iload_n 2, 1) := by decide +kernel
theorem dX5_setFact_57 : decode cX5_setFact 57 = .ok (.iaload, 1) := by decide +kernel
theorem dX5_setFact_58 : decode cX5_setFact 58 = .ok (.istore 4, 2) := by decide +kernel
theorem dX5_setFact_60 : decode cX5_setFact 60 = .ok (.aload_n 0, 1) := by decide +kernel
theorem dX5_setFact_61 : decode cX5_setFact 61 = .ok (.getfield 24, 3) := by decide +kernel
theorem dX5_setFact_64 : decode cX5_setFact 64 = .ok (.iload_n 1, 1) := by decide +kernel
theorem dX5_setFact_65 : decode cX5_setFact 65 = .ok (.aaload, 1) := by decide +kernel
theorem dX5_setFact_66 : decode cX5_setFact 66 = .ok (.iload_n 2, 1) := by decide +kernel
theorem dX5_setFact_67 : decode cX5_setFact 67 = .ok (.iload_n 3, 1) := by decide +kernel
theorem dX5_setFact_68 : decode cX5_setFact 68 = .ok (.iastore, 1) := by decide +kernel
theorem dX5_setFact_69 : decode cX5_setFact 69 = .ok (.iload 4, 2) := by decide +kernel
theorem dX5_setFact_71 : decode cX5_setFact 71 = .ok (.ireturn, 1) := by decide +kernel
theorem dX5_see_0 : decode cX5_see 0 = .ok (.aload_n 0, 1) := by decide +kernel
theorem dX5_see_1 : decode cX5_see 1 = .ok (.iload_n 1, 1) := by decide +kernel
theorem dX5_see_2 : decode cX5_see 2 = .ok (.invokevirtual 76, 3) := by decide +kernel
theorem dX5_see_5 : decode cX5_see 5 = .ok (.ifCond .eq 5, 3) := by decide +kernel
theorem dX5_see_8 : decode cX5_see 8 = .ok (.iconst 0, 1) := by decide +kernel
theorem dX5_see_9 : decode cX5_see 9 = .ok (.ireturn, 1) := by decide +kernel
theorem dX5_see_10 : decode cX5_see 10 = .ok (.aload_n 0, 1) := by decide +kernel
theorem dX5_see_11 : decode cX5_see 11 = .ok (.getfield 16, 3) := by decide +kernel
theorem dX5_see_14 : decode cX5_see 14 = .ok (.iload_n 1, 1) := by decide +kernel
theorem dX5_see_15 : decode cX5_see 15 = .ok (.iaload, 1) := by decide +kernel
theorem dX5_see_16 : decode cX5_see 16 = .ok (.istore_n 2, 1) := by decide +kernel
theorem dX5_see_17 : decode cX5_see 17 = .ok (.aload_n 0, 1) := by decide +kernel
theorem dX5_see_18 : decode cX5_see 18 = .ok (.getfield 16, 3) := by decide +kernel
theorem dX5_see_21 : decode cX5_see 21 = .ok (.iload_n 1, 1) := by decide +kernel
theorem dX5_see_22 : decode cX5_see 22 = .ok (.aload_n 0, 1) := by decide +kernel
theorem dX5_see_23 : decode cX5_see 23 = .ok (.getfield 73, 3) := by decide +kernel
theorem dX5_see_26 : decode cX5_see 26 = .ok (.iastore, 1) := by decide +kernel
theorem dX5_see_27 : decode cX5_see 27 = .ok (.iload_n 2, 1) := by decide +kernel
theorem dX5_see_28 : decode cX5_see 28 = .ok (.ireturn, 1) := by decide +kernel
theorem dX5_left_0 : decode cX5_left 0 = .ok (.iconst 0, 1) := by decide +kernel
theorem dX5_left_1 : decode cX5_left 1 = .ok (.istore_n 1, 1) := by decide +kernel
theorem dX5_left_2 : decode cX5_left 2 = .ok (.iconst 0, 1) := by decide +kernel
theorem dX5_left_3 : decode cX5_left 3 = .ok (.istore_n 2, 1) := by decide +kernel
theorem dX5_left_4 : decode cX5_left 4 = .ok (.iload_n 2, 1) := by decide +kernel
theorem dX5_left_5 : decode cX5_left 5 = .ok (.aload_n 0, 1) := by decide +kernel
theorem dX5_left_6 : decode cX5_left 6 = .ok (.getfield 56, 3) := by decide +kernel
theorem dX5_left_9 : decode cX5_left 9 = .ok (.if_icmp .ge 26, 3) := by decide +kernel
theorem dX5_left_12 : decode cX5_left 12 = .ok (.iload_n 1, 1) := by decide +kernel
theorem dX5_left_13 : decode cX5_left 13 = .ok (.aload_n 0, 1) := by decide +kernel
theorem dX5_left_14 : decode cX5_left 14 = .ok (.getfield 27, 3) := by decide +kernel
theorem dX5_left_17 : decode cX5_left 17 = .ok (.iload_n 2, 1) := by decide +kernel
theorem dX5_left_18 : decode cX5_left 18 = .ok (.baload, 1) := by decide +kernel
theorem dX5_left_19 : decode cX5_left 19 = .ok (.ifCond .eq 7, 3) := by decide +kernel
theorem dX5_left_22 : decode cX5_left 22 = .ok (.iconst 0, 1) := by decide +kernel
theorem dX5_left_23 : decode cX5_left 23 = .ok (.goto 4, 3) := by decide +kernel
theorem dX5_left_26 : decode cX5_left 26 = .ok (.iconst 1, 1) := by decide +kernel
theorem dX5_left_27 : decode cX5_left 27 = .ok (.iadd, 1) := by decide +kernel
theorem dX5_left_28 : decode cX5_left 28 = .ok (.istore_n 1, 1) := by decide +kernel
theorem dX5_left_29 : decode cX5_left 29 = .ok (.iinc 2 1, 3) := by decide +kernel
theorem dX5_left_32 : decode cX5_left 32 = .ok (.goto (-28), 3) := by decide +kernel
theorem dX5_left_35 : decode cX5_left 35 = .ok (.iload_n 1, 1) := by decide +kernel
theorem dX5_left_36 : decode cX5_left 36 = .ok (.ireturn, 1) := by decide +kernel
theorem dX5_drop_0 : decode cX5_drop 0 = .ok (.aload_n 0, 1) := by decide +kernel
theorem dX5_drop_1 : decode cX5_drop 1 = .ok (.iload_n 1, 1) := by decide +kernel
theorem dX5_drop_2 : decode cX5_drop 2 = .ok (.invokevirtual 76, 3) := by decide +kernel
theorem dX5_drop_5 : decode cX5_drop 5 = .ok (.ifCond .eq 5, 3) := by decide +kernel
theorem dX5_drop_8 : decode cX5_drop 8 = .ok (.iconst 0, 1) := by decide +kernel
theorem dX5_drop_9 : decode cX5_drop 9 = .ok (.ireturn, 1) := by decide +kernel
theorem dX5_drop_10 : decode cX5_drop 10 = .ok (.aload_n 0, 1) := by decide +kernel
theorem dX5_drop_11 : decode cX5_drop 11 = .ok (.getfield 27, 3) := by decide +kernel
theorem dX5_drop_14 : decode cX5_drop 14 = .ok (.iload_n 1, 1) := by decide +kernel
theorem dX5_drop_15 : decode cX5_drop 15 = .ok (.iconst 1, 1) := by decide +kernel
theorem dX5_drop_16 : decode cX5_drop 16 = .ok (.bastore, 1) := by decide +kernel
theorem dX5_drop_17 : decode cX5_drop 17 = .ok (.aload_n 0, 1) := by decide +kernel
theorem dX5_drop_18 : decode cX5_drop 18 = .ok (.invokevirtual 79, 3) := by decide +kernel
theorem dX5_drop_21 : decode cX5_drop 21 = .ok (.ireturn, 1) := by decide +kernel
theorem dX5_pair_0 : decode cX5_pair 0 = .ok (.iconst 0, 1) := by decide +kernel
theorem dX5_pair_1 : decode cX5_pair 1 = .ok (.istore_n 3, 1) := by decide +kernel
theorem dX5_pair_2 : decode cX5_pair 2 = .ok (.iload_n 3, 1) := by decide +kernel
theorem dX5_pair_3 : decode cX5_pair 3 = .ok (.aload_n 0, 1) := by decide +kernel
theorem dX5_pair_4 : decode cX5_pair 4 = .ok (.getfield 83, 3) := by decide +kernel
theorem dX5_pair_7 : decode cX5_pair 7 = .ok (.if_icmp .ge 51, 3) := by decide +kernel
theorem dX5_pair_10 : decode cX5_pair 10 = .ok (.aload_n 0, 1) := by decide +kernel
theorem dX5_pair_11 : decode cX5_pair 11 = .ok (.getfield 31, 3) := by decide +kernel
theorem dX5_pair_14 : decode cX5_pair 14 = .ok (.iload_n 3, 1) := by decide +kernel
theorem dX5_pair_15 : decode cX5_pair 15 = .ok (.iaload, 1) := by decide +kernel
theorem dX5_pair_16 : decode cX5_pair 16 = .ok (.iload_n 1, 1) := by decide +kernel
theorem dX5_pair_17 : decode cX5_pair 17 = .ok (.if_icmp .ne 13, 3) := by decide +kernel
theorem dX5_pair_20 : decode cX5_pair 20 = .ok (.aload_n 0, 1) := by decide +kernel
theorem dX5_pair_21 : decode cX5_pair 21 = .ok (.getfield 34, 3) := by decide +kernel
theorem dX5_pair_24 : decode cX5_pair 24 = .ok (.iload_n 3, 1) := by decide +kernel
theorem dX5_pair_25 : decode cX5_pair 25 = .ok (.iaload, 1) := by decide +kernel
theorem dX5_pair_26 : decode cX5_pair 26 = .ok (.iload_n 2, 1) := by decide +kernel
theorem dX5_pair_27 : decode cX5_pair 27 = .ok (.if_icmp .eq 23, 3) := by decide +kernel
theorem dX5_pair_30 : decode cX5_pair 30 = .ok (.aload_n 0, 1) := by decide +kernel
theorem dX5_pair_31 : decode cX5_pair 31 = .ok (.getfield 31, 3) := by decide +kernel
theorem dX5_pair_34 : decode cX5_pair 34 = .ok (.iload_n 3, 1) := by decide +kernel
theorem dX5_pair_35 : decode cX5_pair 35 = .ok (.iaload, 1) := by decide +kernel
theorem dX5_pair_36 : decode cX5_pair 36 = .ok (.iload_n 2, 1) := by decide +kernel
theorem dX5_pair_37 : decode cX5_pair 37 = .ok (.if_icmp .ne 15, 3) := by decide +kernel
theorem dX5_pair_40 : decode cX5_pair 40 = .ok (.aload_n 0, 1) := by decide +kernel
theorem dX5_pair_41 : decode cX5_pair 41 = .ok (.getfield 34, 3) := by decide +kernel
theorem dX5_pair_44 : decode cX5_pair 44 = .ok (.iload_n 3, 1) := by decide +kernel
theorem dX5_pair_45 : decode cX5_pair 45 = .ok (.iaload, 1) := by decide +kernel
theorem dX5_pair_46 : decode cX5_pair 46 = .ok (.iload_n 1, 1) := by decide +kernel
theorem dX5_pair_47 : decode cX5_pair 47 = .ok (.if_icmp .ne 5, 3) := by decide +kernel
theorem dX5_pair_50 : decode cX5_pair 50 = .ok (.iload_n 3, 1) := by decide +kernel
theorem dX5_pair_51 : decode cX5_pair 51 = .ok (.ireturn, 1) := by decide +kernel
theorem dX5_pair_52 : decode cX5_pair 52 = .ok (.iinc 3 1, 3) := by decide +kernel
theorem dX5_pair_55 : decode cX5_pair 55 = .ok (.goto (-53), 3) := by decide +kernel
theorem dX5_pair_58 : decode cX5_pair 58 = .ok (.iconst (-1), 1) := by decide +kernel
theorem dX5_pair_59 : decode cX5_pair 59 = .ok (.ireturn, 1) := by decide +kernel
theorem dX5_countedPairs_0 : decode cX5_countedPairs 0 = .ok (.iconst 0, 1) := by decide +kernel
theorem dX5_countedPairs_1 : decode cX5_countedPairs 1 = .ok (.istore_n 1, 1) := by decide +kernel
theorem dX5_countedPairs_2 : decode cX5_countedPairs 2 = .ok (.iconst 0, 1) := by decide +kernel
theorem dX5_countedPairs_3 : decode cX5_countedPairs 3 = .ok (.istore_n 2, 1) := by decide +kernel
theorem dX5_countedPairs_4 : decode cX5_countedPairs 4 = .ok (.iload_n 2, 1) := by decide +kernel
theorem dX5_countedPairs_5 : decode cX5_countedPairs 5 = .ok (.aload_n 0, 1) := by decide +kernel
theorem dX5_countedPairs_6 : decode cX5_countedPairs 6 = .ok (.getfield 83, 3) := by decide +kernel
theorem dX5_countedPairs_9 : decode cX5_countedPairs 9 = .ok (.if_icmp .ge 45, 3) := by decide +kernel
theorem dX5_countedPairs_12 : decode cX5_countedPairs 12 = .ok (.iload_n 1, 1) := by decide +kernel
theorem dX5_countedPairs_13 : decode cX5_countedPairs 13 = .ok (.aload_n 0, 1) := by decide +kernel
theorem dX5_countedPairs_14 : decode cX5_countedPairs 14 = .ok (.getfield 27, 3) := by decide +kernel
theorem dX5_countedPairs_17 : decode cX5_countedPairs 17 = .ok (.aload_n 0, 1) := by decide +kernel
theorem dX5_countedPairs_18 : decode cX5_countedPairs 18 = .ok (.getfield 31, 3) := by decide +kernel
theorem dX5_countedPairs_21 : decode cX5_countedPairs 21 = .ok (.iload_n 2, 1) := by decide +kernel
theorem dX5_countedPairs_22 : decode cX5_countedPairs 22 = .ok (.iaload, 1) := by decide +kernel
theorem dX5_countedPairs_23 : decode cX5_countedPairs 23 = .ok (.baload, 1) := by decide +kernel
theorem dX5_countedPairs_24 : decode cX5_countedPairs 24 = .ok (.ifCond .ne 17, 3) := by decide +kernel
theorem dX5_countedPairs_27 : decode cX5_countedPairs 27 = .ok (.aload_n 0, 1) := by decide +kernel
theorem dX5_countedPairs_28 : decode cX5_countedPairs 28 = .ok (.getfield 27, 3) := by decide +kernel
theorem dX5_countedPairs_31 : decode cX5_countedPairs 31 = .ok (.aload_n 0, 1) := by decide +kernel
theorem dX5_countedPairs_32 : decode cX5_countedPairs 32 = .ok (.getfield 34, 3) := by decide +kernel
theorem dX5_countedPairs_35 : decode cX5_countedPairs 35 = .ok (.iload_n 2, 1) := by decide +kernel
theorem dX5_countedPairs_36 : decode cX5_countedPairs 36 = .ok (.iaload, 1) := by decide +kernel
theorem dX5_countedPairs_37 : decode cX5_countedPairs 37 = .ok (.baload, 1) := by decide +kernel
theorem dX5_countedPairs_38 : decode cX5_countedPairs 38 = .ok (.ifCond .eq 7, 3) := by decide +kernel
theorem dX5_countedPairs_41 : decode cX5_countedPairs 41 = .ok (.iconst 0, 1) := by decide +kernel
theorem dX5_countedPairs_42 : decode cX5_countedPairs 42 = .ok (.goto 4, 3) := by decide +kernel
theorem dX5_countedPairs_45 : decode cX5_countedPairs 45 = .ok (.iconst 1, 1) := by decide +kernel
theorem dX5_countedPairs_46 : decode cX5_countedPairs 46 = .ok (.iadd, 1) := by decide +kernel
theorem dX5_countedPairs_47 : decode cX5_countedPairs 47 = .ok (.istore_n 1, 1) := by decide +kernel
theorem dX5_countedPairs_48 : decode cX5_countedPairs 48 = .ok (.iinc 2 1, 3) := by decide +kernel
theorem dX5_countedPairs_51 : decode cX5_countedPairs 51 = .ok (.goto (-47), 3) := by decide +kernel
theorem dX5_countedPairs_54 : decode cX5_countedPairs 54 = .ok (.iload_n 1, 1) := by decide +kernel
theorem dX5_countedPairs_55 : decode cX5_countedPairs 55 = .ok (.ireturn, 1) := by decide +kernel
theorem dX5_forbid_0 : decode cX5_forbid 0 = .ok (.aload_n 0, 1) := by decide +kernel
theorem dX5_forbid_1 : decode cX5_forbid 1 = .ok (.aload_n 0, 1) := by decide +kernel
theorem dX5_forbid_2 : decode cX5_forbid 2 = .ok (.iload_n 1, 1) := by decide +kernel
theorem dX5_forbid_3 : decode cX5_forbid 3 = .ok (.invokevirtual 63, 3) := by decide +kernel
theorem dX5_forbid_6 : decode cX5_forbid 6 = .ok (.ifCond .eq 11, 3) := by decide +kernel
theorem dX5_forbid_9 : decode cX5_forbid 9 = .ok (.aload_n 0, 1) := by decide +kernel
theorem dX5_forbid_10 : decode cX5_forbid 10 = .ok (.iload_n 2, 1) := by decide +kernel
theorem dX5_forbid_11 : decode cX5_forbid 11 = .ok (.invokevirtual 63, 3) := by decide +kernel
theorem dX5_forbid_14 : decode cX5_forbid 14 = .ok (.ifCond .ne 7, 3) := by decide +kernel
theorem dX5_forbid_17 : decode cX5_forbid 17 = .ok (.iconst 1, 1) := by decide +kernel
theorem dX5_forbid_18 : decode cX5_forbid 18 = .ok (.goto 36, 3) := by decide +kernel
theorem dX5_forbid_21 : decode cX5_forbid 21 = .ok (.iload_n 1, 1) := by decide +kernel
theorem dX5_forbid_22 : decode cX5_forbid 22 = .ok (.iload_n 2, 1) := by decide +kernel
theorem dX5_forbid_23 : decode cX5_forbid 23 = .ok (.if_icmp .ne 7, 3) := by decide +kernel
theorem dX5_forbid_26 : decode cX5_forbid 26 = .ok (.iconst 2, 1) := by decide +kernel
theorem dX5_forbid_27 : decode cX5_forbid 27 = .ok (.goto 27, 3) := by decide +kernel
theorem dX5_forbid_30 : decode cX5_forbid 30 = .ok (.aload_n 0, 1) := by decide +kernel
theorem dX5_forbid_31 : decode cX5_forbid 31 = .ok (.iload_n 1, 1) := by decide +kernel
theorem dX5_forbid_32 : decode cX5_forbid 32 = .ok (.iload_n 2, 1) := by decide +kernel
theorem dX5_forbid_33 : decode cX5_forbid 33 = .ok (.invokevirtual 86, 3) := by decide +kernel
theorem dX5_forbid_36 : decode cX5_forbid 36 = .ok (.iconst (-1), 1) := by decide +kernel
theorem dX5_forbid_37 : decode cX5_forbid 37 = .ok (.if_icmp .ne 12, 3) := by decide +kernel
theorem dX5_forbid_40 : decode cX5_forbid 40 = .ok (.aload_n 0, 1) := by decide +kernel
theorem dX5_forbid_41 : decode cX5_forbid 41 = .ok (.getfield 83, 3) := by decide +kernel
theorem dX5_forbid_44 : decode cX5_forbid 44 = .ok (.bipush 12, 2) := by decide +kernel
theorem dX5_forbid_46 : decode cX5_forbid 46 = .ok (.if_icmp .ne 7, 3) := by decide +kernel
theorem dX5_forbid_49 : decode cX5_forbid 49 = .ok (.iconst 3, 1) := by decide +kernel
theorem dX5_forbid_50 : decode cX5_forbid 50 = .ok (.goto 4, 3) := by decide +kernel
theorem dX5_forbid_53 : decode cX5_forbid 53 = .ok (.iconst 0, 1) := by decide +kernel
theorem dX5_forbid_54 : decode cX5_forbid 54 = .ok (.putfield 53, 3) := by decide +kernel
theorem dX5_forbid_57 : decode cX5_forbid 57 = .ok (.aload_n 0, 1) := by decide +kernel
theorem dX5_forbid_58 : decode cX5_forbid 58 = .ok (.getfield 53, 3) := by decide +kernel
theorem dX5_forbid_61 : decode cX5_forbid 61 = .ok (.ifCond .le 5, 3) := by decide +kernel
theorem dX5_forbid_64 : decode cX5_forbid 64 = .ok (.iconst 0, 1) := by decide +kernel
theorem dX5_forbid_65 : decode cX5_forbid 65 = .ok (.ireturn, 1) := by decide +kernel
theorem dX5_forbid_66 : decode cX5_forbid 66 = .ok (.aload_n 0, 1) := by decide +kernel
theorem dX5_forbid_67 : decode cX5_forbid 67 = .ok (.getfield 31, 3) := by decide +kernel
theorem dX5_forbid_70 : decode cX5_forbid 70 = .ok (.aload_n 0, 1) := by decide +kernel
theorem dX5_forbid_71 : decode cX5_forbid 71 = .ok (.getfield 83, 3) := by decide +kernel
theorem dX5_forbid_74 : decode cX5_forbid 74 = .ok (.iload_n 1, 1) := by decide +kernel
theorem dX5_forbid_75 : decode cX5_forbid 75 = .ok (.iastore, 1) := by decide +kernel
theorem dX5_forbid_76 : decode cX5_forbid 76 = .ok (.aload_n 0, 1) := by decide +kernel
theorem dX5_forbid_77 : decode cX5_forbid 77 = .ok (.getfield 34, 3) := by decide +kernel
theorem dX5_forbid_80 : decode cX5_forbid 80 = .ok (.aload_n 0, 1) := by decide +kernel
theorem dX5_forbid_81 : decode cX5_forbid 81 = .ok (.getfield 83, 3) := by decide +kernel
theorem dX5_forbid_84 : decode cX5_forbid 84 = .ok (.iload_n 2, 1) := by decide +kernel
theorem dX5_forbid_85 : decode cX5_forbid 85 = .ok (.iastore, 1) := by decide +kernel
theorem dX5_forbid_86 : decode cX5_forbid 86 = .ok (.aload_n 0, 1) := by decide +kernel
theorem dX5_forbid_87 : decode cX5_forbid 87 = .ok (.dup, 1) := by decide +kernel
theorem dX5_forbid_88 : decode cX5_forbid 88 = .ok (.getfield 83, 3) := by decide +kernel
theorem dX5_forbid_91 : decode cX5_forbid 91 = .ok (.iconst 1, 1) := by decide +kernel
theorem dX5_forbid_92 : decode cX5_forbid 92 = .ok (.iadd, 1) := by decide +kernel
theorem dX5_forbid_93 : decode cX5_forbid 93 = .ok (.putfield 83, 3) := by decide +kernel
theorem dX5_forbid_96 : decode cX5_forbid 96 = .ok (.aload_n 0, 1) := by decide +kernel
theorem dX5_forbid_97 : decode cX5_forbid 97 = .ok (.invokevirtual 90, 3) := by decide +kernel
theorem dX5_forbid_100 : decode cX5_forbid 100 = .ok (.ireturn, 1) := by decide +kernel
theorem dX5_allow_0 : decode cX5_allow 0 = .ok (.aload_n 0, 1) := by decide +kernel
theorem dX5_allow_1 : decode cX5_allow 1 = .ok (.iload_n 1, 1) := by decide +kernel
theorem dX5_allow_2 : decode cX5_allow 2 = .ok (.invokevirtual 63, 3) := by decide +kernel
theorem dX5_allow_5 : decode cX5_allow 5 = .ok (.ifCond .eq 11, 3) := by decide +kernel
theorem dX5_allow_8 : decode cX5_allow 8 = .ok (.aload_n 0, 1) := by decide +kernel
theorem dX5_allow_9 : decode cX5_allow 9 = .ok (.iload_n 2, 1) := by decide +kernel
theorem dX5_allow_10 : decode cX5_allow 10 = .ok (.invokevirtual 63, 3) := by decide +kernel
theorem dX5_allow_13 : decode cX5_allow 13 = .ok (.ifCond .ne 9, 3) := by decide +kernel
theorem dX5_allow_16 : decode cX5_allow 16 = .ok (.aload_n 0, 1) := by decide +kernel
theorem dX5_allow_17 : decode cX5_allow 17 = .ok (.iconst 1, 1) := by decide +kernel
theorem dX5_allow_18 : decode cX5_allow 18 = .ok (.invokevirtual 93, 3) := by decide +kernel
theorem dX5_allow_21 : decode cX5_allow 21 = .ok (.ireturn, 1) := by decide +kernel
theorem dX5_allow_22 : decode cX5_allow 22 = .ok (.aload_n 0, 1) := by decide +kernel
theorem dX5_allow_23 : decode cX5_allow 23 = .ok (.iload_n 1, 1) := by decide +kernel
theorem dX5_allow_24 : decode cX5_allow 24 = .ok (.iload_n 2, 1) := by decide +kernel
theorem dX5_allow_25 : decode cX5_allow 25 = .ok (.invokevirtual 86, 3) := by decide +kernel
theorem dX5_allow_28 : decode cX5_allow 28 = .ok (.istore_n 3, 1) := by decide +kernel
theorem dX5_allow_29 : decode cX5_allow 29 = .ok (.aload_n 0, 1) := by decide +kernel
theorem dX5_allow_30 : decode cX5_allow 30 = .ok (.iload_n 3, 1) := by decide +kernel
theorem dX5_allow_31 : decode cX5_allow 31 = .ok (.iconst (-1), 1) := by decide +kernel
theorem dX5_allow_32 : decode cX5_allow 32 = .ok (.if_icmp .ne 7, 3) := by decide +kernel
theorem dX5_allow_35 : decode cX5_allow 35 = .ok (.iconst 2, 1) := by decide +kernel
theorem dX5_allow_36 : decode cX5_allow 36 = .ok (.goto 4, 3) := by decide +kernel
theorem dX5_allow_39 : decode cX5_allow 39 = .ok (.iconst 0, 1) := by decide +kernel
theorem dX5_allow_40 : decode cX5_allow 40 = .ok (.putfield 53, 3) := by decide +kernel
theorem dX5_allow_43 : decode cX5_allow 43 = .ok (.aload_n 0, 1) := by decide +kernel
theorem dX5_allow_44 : decode cX5_allow 44 = .ok (.getfield 53, 3) := by decide +kernel
theorem dX5_allow_47 : decode cX5_allow 47 = .ok (.ifCond .le 5, 3) := by decide +kernel
theorem dX5_allow_50 : decode cX5_allow 50 = .ok (.iconst 0, 1) := by decide +kernel
theorem dX5_allow_51 : decode cX5_allow 51 = .ok (.ireturn, 1) := by decide +kernel
theorem dX5_allow_52 : decode cX5_allow 52 = .ok (.aload_n 0, 1) := by decide +kernel
theorem dX5_allow_53 : decode cX5_allow 53 = .ok (.dup, 1) := by decide +kernel
theorem dX5_allow_54 : decode cX5_allow 54 = .ok (.getfield 83, 3) := by decide +kernel
theorem dX5_allow_57 : decode cX5_allow 57 = .ok (.iconst 1, 1) := by decide +kernel
theorem dX5_allow_58 : decode cX5_allow 58 = .ok (.isub, 1) := by decide +kernel
theorem dX5_allow_59 : decode cX5_allow 59 = .ok (.putfield 83, 3) := by decide +kernel
theorem dX5_allow_62 : decode cX5_allow 62 = .ok (.aload_n 0, 1) := by decide +kernel
theorem dX5_allow_63 : decode cX5_allow 63 = .ok (.getfield 31, 3) := by decide +kernel
theorem dX5_allow_66 : decode cX5_allow 66 = .ok (.iload_n 3, 1) := by decide +kernel
theorem dX5_allow_67 : decode cX5_allow 67 = .ok (.aload_n 0, 1) := by decide +kernel
theorem dX5_allow_68 : decode cX5_allow 68 = .ok (.getfield 31, 3) := by decide +kernel
theorem dX5_allow_71 : decode cX5_allow 71 = .ok (.aload_n 0, 1) := by decide +kernel
theorem dX5_allow_72 : decode cX5_allow 72 = .ok (.getfield 83, 3) := by decide +kernel
theorem dX5_allow_75 : decode cX5_allow 75 = .ok (.iaload, 1) := by decide +kernel
theorem dX5_allow_76 : decode cX5_allow 76 = .ok (.iastore, 1) := by decide +kernel
theorem dX5_allow_77 : decode cX5_allow 77 = .ok (.aload_n 0, 1) := by decide +kernel
theorem dX5_allow_78 : decode cX5_allow 78 = .ok (.getfield 34, 3) := by decide +kernel
theorem dX5_allow_81 : decode cX5_allow 81 = .ok (.iload_n 3, 1) := by decide +kernel
theorem dX5_allow_82 : decode cX5_allow 82 = .ok (.aload_n 0, 1) := by decide +kernel
theorem dX5_allow_83 : decode cX5_allow 83 = .ok (.getfield 34, 3) := by decide +kernel
theorem dX5_allow_86 : decode cX5_allow 86 = .ok (.aload_n 0, 1) := by decide +kernel
theorem dX5_allow_87 : decode cX5_allow 87 = .ok (.getfield 83, 3) := by decide +kernel
theorem dX5_allow_90 : decode cX5_allow 90 = .ok (.iaload, 1) := by decide +kernel
theorem dX5_allow_91 : decode cX5_allow 91 = .ok (.iastore, 1) := by decide +kernel
theorem dX5_allow_92 : decode cX5_allow 92 = .ok (.aload_n 0, 1) := by decide +kernel
theorem dX5_allow_93 : decode cX5_allow 93 = .ok (.invokevirtual 90, 3) := by decide +kernel
theorem dX5_allow_96 : decode cX5_allow 96 = .ok (.ireturn, 1) := by decide +kernel
theorem dX5_records_0 : decode cX5_records 0 = .ok (.aload_n 0, 1) := by decide +kernel
theorem dX5_records_1 : decode cX5_records 1 = .ok (.iconst 0, 1) := by decide +kernel
theorem dX5_records_2 : decode cX5_records 2 = .ok (.putfield 53, 3) := by decide +kernel
theorem dX5_records_5 : decode cX5_records 5 = .ok (.aload_n 0, 1) := by decide +kernel
theorem dX5_records_6 : decode cX5_records 6 = .ok (.invokevirtual 79, 3) := by decide +kernel
theorem dX5_records_9 : decode cX5_records 9 = .ok (.ireturn, 1) := by decide +kernel
theorem dX5_key_0 : decode cX5_key 0 = .ok (.aload_n 0, 1) := by decide +kernel
theorem dX5_key_1 : decode cX5_key 1 = .ok (.aload_n 0, 1) := by decide +kernel
theorem dX5_key_2 : decode cX5_key 2 = .ok (.iload_n 1, 1) := by decide +kernel
theorem dX5_key_3 : decode cX5_key 3 = .ok (.invokevirtual 63, 3) := by decide +kernel
theorem dX5_key_6 : decode cX5_key 6 = .ok (.ifCond .eq 16, 3) := by decide +kernel
theorem dX5_key_9 : decode cX5_key 9 = .ok (.iload_n 2, 1) := by decide +kernel
theorem dX5_key_10 : decode cX5_key 10 = .ok (.iconst 0, 1) := by decide +kernel
theorem dX5_key_11 : decode cX5_key 11 = .ok (.iconst 2, 1) := by decide +kernel
theorem dX5_key_12 : decode cX5_key 12 = .ok (.invokestatic 59, 3) := by decide +kernel
theorem dX5_key_15 : decode cX5_key 15 = .ok (.ifCond .eq 7, 3) := by decide +kernel
theorem dX5_key_18 : decode cX5_key 18 = .ok (.iconst 0, 1) := by decide +kernel
theorem dX5_key_19 : decode cX5_key 19 = .ok (.goto 4, 3) := by decide +kernel
theorem dX5_key_22 : decode cX5_key 22 = .ok (.iconst 1, 1) := by decide +kernel
theorem dX5_key_23 : decode cX5_key 23 = .ok (.putfield 53, 3) := by decide +kernel
theorem dX5_key_26 : decode cX5_key 26 = .ok (.aload_n 0, 1) := by decide +kernel
theorem dX5_key_27 : decode cX5_key 27 = .ok (.getfield 53, 3) := by decide +kernel
theorem dX5_key_30 : decode cX5_key 30 = .ok (.ifCond .le 7, 3) := by decide +kernel
theorem dX5_key_33 : decode cX5_key 33 = .ok (.iconst 0, 1) := by decide +kernel
theorem dX5_key_34 : decode cX5_key 34 = .ok (.goto 11, 3) := by decide +kernel
theorem dX5_key_37 : decode cX5_key 37 = .ok (.aload_n 0, 1) := by decide +kernel
theorem dX5_key_38 : decode cX5_key 38 = .ok (.getfield 21, 3) := by decide +kernel
theorem dX5_key_41 : decode cX5_key 41 = .ok (.iload_n 1, 1) := by decide +kernel
theorem dX5_key_42 : decode cX5_key 42 = .ok (.aaload, 1) := by decide +kernel
theorem dX5_key_43 : decode cX5_key 43 = .ok (.iload_n 2, 1) := by decide +kernel
theorem dX5_key_44 : decode cX5_key 44 = .ok (.iaload, 1) := by decide +kernel
theorem dX5_key_45 : decode cX5_key 45 = .ok (.ireturn, 1) := by decide +kernel
theorem dX5_seen_0 : decode cX5_seen 0 = .ok (.aload_n 0, 1) := by decide +kernel
theorem dX5_seen_1 : decode cX5_seen 1 = .ok (.iload_n 1, 1) := by decide +kernel
theorem dX5_seen_2 : decode cX5_seen 2 = .ok (.invokevirtual 76, 3) := by decide +kernel
theorem dX5_seen_5 : decode cX5_seen 5 = .ok (.ifCond .eq 7, 3) := by decide +kernel
theorem dX5_seen_8 : decode cX5_seen 8 = .ok (.iconst 0, 1) := by decide +kernel
theorem dX5_seen_9 : decode cX5_seen 9 = .ok (.goto 9, 3) := by decide +kernel
theorem dX5_seen_12 : decode cX5_seen 12 = .ok (.aload_n 0, 1) := by decide +kernel
theorem dX5_seen_13 : decode cX5_seen 13 = .ok (.getfield 16, 3) := by decide +kernel
theorem dX5_seen_16 : decode cX5_seen 16 = .ok (.iload_n 1, 1) := by decide +kernel
theorem dX5_seen_17 : decode cX5_seen 17 = .ok (.iaload, 1) := by decide +kernel
theorem dX5_seen_18 : decode cX5_seen 18 = .ok (.ireturn, 1) := by decide +kernel
theorem dX5_counts_0 : decode cX5_counts 0 = .ok (.aload_n 0, 1) := by decide +kernel
theorem dX5_counts_1 : decode cX5_counts 1 = .ok (.getfield 27, 3) := by decide +kernel
theorem dX5_counts_4 : decode cX5_counts 4 = .ok (.iload_n 1, 1) := by decide +kernel
theorem dX5_counts_5 : decode cX5_counts 5 = .ok (.baload, 1) := by decide +kernel
theorem dX5_counts_6 : decode cX5_counts 6 = .ok (.ifCond .ne 15, 3) := by decide +kernel
theorem dX5_counts_9 : decode cX5_counts 9 = .ok (.iload_n 1, 1) := by decide +kernel
theorem dX5_counts_10 : decode cX5_counts 10 = .ok (.aload_n 0, 1) := by decide +kernel
theorem dX5_counts_11 : decode cX5_counts 11 = .ok (.getfield 47, 3) := by decide +kernel
theorem dX5_counts_14 : decode cX5_counts 14 = .ok (.if_icmp .eq 7, 3) := by decide +kernel
theorem dX5_counts_17 : decode cX5_counts 17 = .ok (.iconst 1, 1) := by decide +kernel
theorem dX5_counts_18 : decode cX5_counts 18 = .ok (.goto 4, 3) := by decide +kernel
theorem dX5_counts_21 : decode cX5_counts 21 = .ok (.iconst 0, 1) := by decide +kernel
theorem dX5_counts_22 : decode cX5_counts 22 = .ok (.ireturn, 1) := by decide +kernel
theorem dX5_areLinked_0 : decode cX5_areLinked 0 = .ok (.aload_n 0, 1) := by decide +kernel
theorem dX5_areLinked_1 : decode cX5_areLinked 1 = .ok (.getfield 44, 3) := by decide +kernel
theorem dX5_areLinked_4 : decode cX5_areLinked 4 = .ok (.iload_n 1, 1) := by decide +kernel
theorem dX5_areLinked_5 : decode cX5_areLinked 5 = .ok (.iaload, 1) := by decide +kernel
theorem dX5_areLinked_6 : decode cX5_areLinked 6 = .ok (.aload_n 0, 1) := by decide +kernel
theorem dX5_areLinked_7 : decode cX5_areLinked 7 = .ok (.getfield 44, 3) := by decide +kernel
theorem dX5_areLinked_10 : decode cX5_areLinked 10 = .ok (.iload_n 2, 1) := by decide +kernel
theorem dX5_areLinked_11 : decode cX5_areLinked 11 = .ok (.iaload, 1) := by decide +kernel
theorem dX5_areLinked_12 : decode cX5_areLinked 12 = .ok (.if_icmp .eq 49, 3) := by decide +kernel
theorem dX5_areLinked_15 : decode cX5_areLinked 15 = .ok (.aload_n 0, 1) := by decide +kernel
theorem dX5_areLinked_16 : decode cX5_areLinked 16 = .ok (.getfield 41, 3) := by decide +kernel
theorem dX5_areLinked_19 : decode cX5_areLinked 19 = .ok (.iload_n 1, 1) := by decide +kernel
theorem dX5_areLinked_20 : decode cX5_areLinked 20 = .ok (.iaload, 1) := by decide +kernel
theorem dX5_areLinked_21 : decode cX5_areLinked 21 = .ok (.aload_n 0, 1) := by decide +kernel
theorem dX5_areLinked_22 : decode cX5_areLinked 22 = .ok (.getfield 41, 3) := by decide +kernel
theorem dX5_areLinked_25 : decode cX5_areLinked 25 = .ok (.iload_n 2, 1) := by decide +kernel
theorem dX5_areLinked_26 : decode cX5_areLinked 26 = .ok (.iaload, 1) := by decide +kernel
theorem dX5_areLinked_27 : decode cX5_areLinked 27 = .ok (.if_icmp .eq 34, 3) := by decide +kernel
theorem dX5_areLinked_30 : decode cX5_areLinked 30 = .ok (.aload_n 0, 1) := by decide +kernel
theorem dX5_areLinked_31 : decode cX5_areLinked 31 = .ok (.getfield 21, 3) := by decide +kernel
theorem dX5_areLinked_34 : decode cX5_areLinked 34 = .ok (.iload_n 1, 1) := by decide +kernel
theorem dX5_areLinked_35 : decode cX5_areLinked 35 = .ok (.aaload, 1) := by decide +kernel
theorem dX5_areLinked_36 : decode cX5_areLinked 36 = .ok (.iload_n 3, 1) := by decide +kernel
theorem dX5_areLinked_37 : decode cX5_areLinked 37 = .ok (.iaload, 1) := by decide +kernel
theorem dX5_areLinked_38 : decode cX5_areLinked 38 = .ok (.iconst (-1), 1) := by decide +kernel
theorem dX5_areLinked_39 : decode cX5_areLinked 39 = .ok (.if_icmp .eq 26, 3) := by decide +kernel
theorem dX5_areLinked_42 : decode cX5_areLinked 42 = .ok (.aload_n 0, 1) := by decide +kernel
theorem dX5_areLinked_43 : decode cX5_areLinked 43 = .ok (.getfield 21, 3) := by decide +kernel
theorem dX5_areLinked_46 : decode cX5_areLinked 46 = .ok (.iload_n 1, 1) := by decide +kernel
theorem dX5_areLinked_47 : decode cX5_areLinked 47 = .ok (.aaload, 1) := by decide +kernel
theorem dX5_areLinked_48 : decode cX5_areLinked 48 = .ok (.iload_n 3, 1) := by decide +kernel
theorem dX5_areLinked_49 : decode cX5_areLinked 49 = .ok (.iaload, 1) := by decide +kernel
theorem dX5_areLinked_50 : decode cX5_areLinked 50 = .ok (.aload_n 0, 1) := by decide +kernel
theorem dX5_areLinked_51 : decode cX5_areLinked 51 = .ok (.getfield 21, 3) := by decide +kernel
theorem dX5_areLinked_54 : decode cX5_areLinked 54 = .ok (.iload_n 2, 1) := by decide +kernel
theorem dX5_areLinked_55 : decode cX5_areLinked 55 = .ok (.aaload, 1) := by decide +kernel
theorem dX5_areLinked_56 : decode cX5_areLinked 56 = .ok (.iload_n 3, 1) := by decide +kernel
theorem dX5_areLinked_57 : decode cX5_areLinked 57 = .ok (.iaload, 1) := by decide +kernel
theorem dX5_areLinked_58 : decode cX5_areLinked 58 = .ok (.if_icmp .ne 7, 3) := by decide +kernel
theorem dX5_areLinked_61 : decode cX5_areLinked 61 = .ok (.iconst 1, 1) := by decide +kernel
theorem dX5_areLinked_62 : decode cX5_areLinked 62 = .ok (.goto 4, 3) := by decide +kernel
theorem dX5_areLinked_65 : decode cX5_areLinked 65 = .ok (.iconst 0, 1) := by decide +kernel
theorem dX5_areLinked_66 : decode cX5_areLinked 66 = .ok (.ireturn, 1) := by decide +kernel
theorem dX5_clusters_0 : decode cX5_clusters 0 = .ok (.iconst 0, 1) := by decide +kernel
theorem dX5_clusters_1 : decode cX5_clusters 1 = .ok (.istore_n 2, 1) := by decide +kernel
theorem dX5_clusters_2 : decode cX5_clusters 2 = .ok (.iload_n 2, 1) := by decide +kernel
theorem dX5_clusters_3 : decode cX5_clusters 3 = .ok (.aload_n 0, 1) := by decide +kernel
theorem dX5_clusters_4 : decode cX5_clusters 4 = .ok (.getfield 56, 3) := by decide +kernel
theorem dX5_clusters_7 : decode cX5_clusters 7 = .ok (.if_icmp .ge 16, 3) := by decide +kernel
theorem dX5_clusters_10 : decode cX5_clusters 10 = .ok (.aload_n 0, 1) := by decide +kernel
theorem dX5_clusters_11 : decode cX5_clusters 11 = .ok (.getfield 44, 3) := by decide +kernel
theorem dX5_clusters_14 : decode cX5_clusters 14 = .ok (.iload_n 2, 1) := by decide +kernel
theorem dX5_clusters_15 : decode cX5_clusters 15 = .ok (.iload_n 2, 1) := by decide +kernel
theorem dX5_clusters_16 : decode cX5_clusters 16 = .ok (.iastore, 1) := by decide +kernel
theorem dX5_clusters_17 : decode cX5_clusters 17 = .ok (.iinc 2 1, 3) := by decide +kernel
theorem dX5_clusters_20 : decode cX5_clusters 20 = .ok (.goto (-18), 3) := by decide +kernel
theorem dX5_clusters_23 : decode cX5_clusters 23 = .ok (.iconst 1, 1) := by decide +kernel
theorem dX5_clusters_24 : decode cX5_clusters 24 = .ok (.istore_n 2, 1) := by decide +kernel
theorem dX5_clusters_25 : decode cX5_clusters 25 = .ok (.iload_n 2, 1) := by decide +kernel
theorem dX5_clusters_26 : decode cX5_clusters 26 = .ok (.ifCond .eq 101, 3) := by decide +kernel
theorem dX5_clusters_29 : decode cX5_clusters 29 = .ok (.iconst 0, 1) := by decide +kernel
theorem dX5_clusters_30 : decode cX5_clusters 30 = .ok (.istore_n 2, 1) := by decide +kernel
theorem dX5_clusters_31 : decode cX5_clusters 31 = .ok (.iconst 0, 1) := by decide +kernel
theorem dX5_clusters_32 : decode cX5_clusters 32 = .ok (.istore_n 3, 1) := by decide +kernel
theorem dX5_clusters_33 : decode cX5_clusters 33 = .ok (.iload_n 3, 1) := by decide +kernel
theorem dX5_clusters_34 : decode cX5_clusters 34 = .ok (.aload_n 0, 1) := by decide +kernel
theorem dX5_clusters_35 : decode cX5_clusters 35 = .ok (.getfield 56, 3) := by decide +kernel
theorem dX5_clusters_38 : decode cX5_clusters 38 = .ok (.if_icmp .ge 86, 3) := by decide +kernel
theorem dX5_clusters_41 : decode cX5_clusters 41 = .ok (.iconst 0, 1) := by decide +kernel
theorem dX5_clusters_42 : decode cX5_clusters 42 = .ok (.istore 4, 2) := by decide +kernel
theorem dX5_clusters_44 : decode cX5_clusters 44 = .ok (.iload 4, 2) := by decide +kernel
theorem dX5_clusters_46 : decode cX5_clusters 46 = .ok (.aload_n 0, 1) := by decide +kernel
theorem dX5_clusters_47 : decode cX5_clusters 47 = .ok (.getfield 56, 3) := by decide +kernel
theorem dX5_clusters_50 : decode cX5_clusters 50 = .ok (.if_icmp .ge 68, 3) := by decide +kernel
theorem dX5_clusters_53 : decode cX5_clusters 53 = .ok (.aload_n 0, 1) := by decide +kernel
theorem dX5_clusters_54 : decode cX5_clusters 54 = .ok (.iload_n 3, 1) := by decide +kernel
theorem dX5_clusters_55 : decode cX5_clusters 55 = .ok (.invokevirtual 97, 3) := by decide +kernel
theorem dX5_clusters_58 : decode cX5_clusters 58 = .ok (.ifCond .eq 54, 3) := by decide +kernel
theorem dX5_clusters_61 : decode cX5_clusters 61 = .ok (.aload_n 0, 1) := by decide +kernel
theorem dX5_clusters_62 : decode cX5_clusters 62 = .ok (.iload 4, 2) := by decide +kernel
theorem dX5_clusters_64 : decode cX5_clusters 64 = .ok (.invokevirtual 97, 3) := by decide +kernel
theorem dX5_clusters_67 : decode cX5_clusters 67 = .ok (.ifCond .eq 45, 3) := by decide +kernel
theorem dX5_clusters_70 : decode cX5_clusters 70 = .ok (.aload_n 0, 1) := by decide +kernel
theorem dX5_clusters_71 : decode cX5_clusters 71 = .ok (.getfield 44, 3) := by decide +kernel
theorem dX5_clusters_74 : decode cX5_clusters 74 = .ok (.iload 4, 2) := by decide +kernel
theorem dX5_clusters_76 : decode cX5_clusters 76 = .ok (.iaload, 1) := by decide +kernel
theorem dX5_clusters_77 : decode cX5_clusters 77 = .ok (.aload_n 0, 1) := by decide +kernel
theorem dX5_clusters_78 : decode cX5_clusters 78 = .ok (.getfield 44, 3) := by decide +kernel
theorem dX5_clusters_81 : decode cX5_clusters 81 = .ok (.iload_n 3, 1) := by decide +kernel
theorem dX5_clusters_82 : decode cX5_clusters 82 = .ok (.iaload, 1) := by decide +kernel
theorem dX5_clusters_83 : decode cX5_clusters 83 = .ok (.if_icmp .le 29, 3) := by decide +kernel
theorem dX5_clusters_86 : decode cX5_clusters 86 = .ok (.aload_n 0, 1) := by decide +kernel
theorem dX5_clusters_87 : decode cX5_clusters 87 = .ok (.iload_n 3, 1) := by decide +kernel
theorem dX5_clusters_88 : decode cX5_clusters 88 = .ok (.iload 4, 2) := by decide +kernel
theorem dX5_clusters_90 : decode cX5_clusters 90 = .ok (.iload_n 1, 1) := by decide +kernel
theorem dX5_clusters_91 : decode cX5_clusters 91 = .ok (.invokevirtual 100, 3) := by decide +kernel
theorem dX5_clusters_94 : decode cX5_clusters 94 = .ok (.ifCond .eq 18, 3) := by decide +kernel
theorem dX5_clusters_97 : decode cX5_clusters 97 = .ok (.aload_n 0, 1) := by decide +kernel
theorem dX5_clusters_98 : decode cX5_clusters 98 = .ok (.getfield 44, 3) := by decide +kernel
theorem dX5_clusters_101 : decode cX5_clusters 101 = .ok (.iload 4, 2) := by decide +kernel
theorem dX5_clusters_103 : decode cX5_clusters 103 = .ok (.aload_n 0, 1) := by decide +kernel
theorem dX5_clusters_104 : decode cX5_clusters 104 = .ok (.getfield 44, 3) := by decide +kernel
theorem dX5_clusters_107 : decode cX5_clusters 107 = .ok (.iload_n 3, 1) := by decide +kernel
theorem dX5_clusters_108 : decode cX5_clusters 108 = .ok (.iaload, 1) := by decide +kernel
theorem dX5_clusters_109 : decode cX5_clusters 109 = .ok (.iastore, 1) := by decide +kernel
theorem dX5_clusters_110 : decode cX5_clusters 110 = .ok (.iconst 1, 1) := by decide +kernel
theorem dX5_clusters_111 : decode cX5_clusters 111 = .ok (.istore_n 2, 1) := by decide +kernel
theorem dX5_clusters_112 : decode cX5_clusters 112 = .ok (.iinc 4 1, 3) := by decide +kernel
theorem dX5_clusters_115 : decode cX5_clusters 115 = .ok (.goto (-71), 3) := by decide +kernel
theorem dX5_clusters_118 : decode cX5_clusters 118 = .ok (.iinc 3 1, 3) := by decide +kernel
theorem dX5_clusters_121 : decode cX5_clusters 121 = .ok (.goto (-88), 3) := by decide +kernel
theorem dX5_clusters_124 : decode cX5_clusters 124 = .ok (.goto (-99), 3) := by decide +kernel
theorem dX5_clusters_127 : decode cX5_clusters 127 = .ok (.return_, 1) := by decide +kernel
theorem dX5_mayJoin_0 : decode cX5_mayJoin 0 = .ok (.iconst 0, 1) := by decide +kernel
theorem dX5_mayJoin_1 : decode cX5_mayJoin 1 = .ok (.istore_n 3, 1) := by decide +kernel
theorem dX5_mayJoin_2 : decode cX5_mayJoin 2 = .ok (.iload_n 3, 1) := by decide +kernel
theorem dX5_mayJoin_3 : decode cX5_mayJoin 3 = .ok (.aload_n 0, 1) := by decide +kernel
theorem dX5_mayJoin_4 : decode cX5_mayJoin 4 = .ok (.getfield 56, 3) := by decide +kernel
theorem dX5_mayJoin_7 : decode cX5_mayJoin 7 = .ok (.if_icmp .ge 157, 3) := by decide +kernel
theorem dX5_mayJoin_10 : decode cX5_mayJoin 10 = .ok (.iconst 0, 1) := by decide +kernel
theorem dX5_mayJoin_11 : decode cX5_mayJoin 11 = .ok (.istore 4, 2) := by decide +kernel
theorem dX5_mayJoin_13 : decode cX5_mayJoin 13 = .ok (.iload 4, 2) := by decide +kernel
theorem dX5_mayJoin_15 : decode cX5_mayJoin 15 = .ok (.iload_n 3, 1) := by decide +kernel
theorem dX5_mayJoin_16 : decode cX5_mayJoin 16 = .ok (.if_icmp .ge 142, 3) := by decide +kernel
theorem dX5_mayJoin_19 : decode cX5_mayJoin 19 = .ok (.aload_n 0, 1) := by decide +kernel
theorem dX5_mayJoin_20 : decode cX5_mayJoin 20 = .ok (.iload_n 3, 1) := by decide +kernel
theorem dX5_mayJoin_21 : decode cX5_mayJoin 21 = .ok (.invokevirtual 97, 3) := by decide +kernel
theorem dX5_mayJoin_24 : decode cX5_mayJoin 24 = .ok (.ifCond .eq 128, 3) := by decide +kernel
theorem dX5_mayJoin_27 : decode cX5_mayJoin 27 = .ok (.aload_n 0, 1) := by decide +kernel
theorem dX5_mayJoin_28 : decode cX5_mayJoin 28 = .ok (.iload 4, 2) := by decide +kernel
theorem dX5_mayJoin_30 : decode cX5_mayJoin 30 = .ok (.invokevirtual 97, 3) := by decide +kernel
theorem dX5_mayJoin_33 : decode cX5_mayJoin 33 = .ok (.ifCond .eq 119, 3) := by decide +kernel
theorem dX5_mayJoin_36 : decode cX5_mayJoin 36 = .ok (.aload_n 0, 1) := by decide +kernel
theorem dX5_mayJoin_37 : decode cX5_mayJoin 37 = .ok (.getfield 44, 3) := by decide +kernel
theorem dX5_mayJoin_40 : decode cX5_mayJoin 40 = .ok (.iload_n 3, 1) := by decide +kernel
theorem dX5_mayJoin_41 : decode cX5_mayJoin 41 = .ok (.iaload, 1) := by decide +kernel
theorem dX5_mayJoin_42 : decode cX5_mayJoin 42 = .ok (.iload_n 1, 1) := by decide +kernel
theorem dX5_mayJoin_43 : decode cX5_mayJoin 43 = .ok (.if_icmp .ne 109, 3) := by decide +kernel
theorem dX5_mayJoin_46 : decode cX5_mayJoin 46 = .ok (.aload_n 0, 1) := by decide +kernel
theorem dX5_mayJoin_47 : decode cX5_mayJoin 47 = .ok (.getfield 44, 3) := by decide +kernel
theorem dX5_mayJoin_50 : decode cX5_mayJoin 50 = .ok (.iload 4, 2) := by decide +kernel
theorem dX5_mayJoin_52 : decode cX5_mayJoin 52 = .ok (.iaload, 1) := by decide +kernel
theorem dX5_mayJoin_53 : decode cX5_mayJoin 53 = .ok (.iload_n 1, 1) := by decide +kernel
theorem dX5_mayJoin_54 : decode cX5_mayJoin 54 = .ok (.if_icmp .eq 6, 3) := by decide +kernel
theorem dX5_mayJoin_57 : decode cX5_mayJoin 57 = .ok (.goto 95, 3) := by decide +kernel
theorem dX5_mayJoin_60 : decode cX5_mayJoin 60 = .ok (.iconst 0, 1) := by decide +kernel
theorem dX5_mayJoin_61 : decode cX5_mayJoin 61 = .ok (.istore 5, 2) := by decide +kernel
theorem dX5_mayJoin_63 : decode cX5_mayJoin 63 = .ok (.iload 5, 2) := by decide +kernel
theorem dX5_mayJoin_65 : decode cX5_mayJoin 65 = .ok (.iload_n 2, 1) := by decide +kernel
theorem dX5_mayJoin_66 : decode cX5_mayJoin 66 = .ok (.if_icmp .ge 60, 3) := by decide +kernel
theorem dX5_mayJoin_69 : decode cX5_mayJoin 69 = .ok (.aload_n 0, 1) := by decide +kernel
theorem dX5_mayJoin_70 : decode cX5_mayJoin 70 = .ok (.getfield 21, 3) := by decide +kernel
theorem dX5_mayJoin_73 : decode cX5_mayJoin 73 = .ok (.iload_n 3, 1) := by decide +kernel
theorem dX5_mayJoin_74 : decode cX5_mayJoin 74 = .ok (.aaload, 1) := by decide +kernel
theorem dX5_mayJoin_75 : decode cX5_mayJoin 75 = .ok (.iload 5, 2) := by decide +kernel
theorem dX5_mayJoin_77 : decode cX5_mayJoin 77 = .ok (.iaload, 1) := by decide +kernel
theorem dX5_mayJoin_78 : decode cX5_mayJoin 78 = .ok (.iconst (-1), 1) := by decide +kernel
theorem dX5_mayJoin_79 : decode cX5_mayJoin 79 = .ok (.if_icmp .eq 41, 3) := by decide +kernel
theorem dX5_mayJoin_82 : decode cX5_mayJoin 82 = .ok (.aload_n 0, 1) := by decide +kernel
theorem dX5_mayJoin_83 : decode cX5_mayJoin 83 = .ok (.getfield 21, 3) := by decide +kernel
theorem dX5_mayJoin_86 : decode cX5_mayJoin 86 = .ok (.iload 4, 2) := by decide +kernel
theorem dX5_mayJoin_88 : decode cX5_mayJoin 88 = .ok (.aaload, 1) := by decide +kernel
theorem dX5_mayJoin_89 : decode cX5_mayJoin 89 = .ok (.iload 5, 2) := by decide +kernel
theorem dX5_mayJoin_91 : decode cX5_mayJoin 91 = .ok (.iaload, 1) := by decide +kernel
theorem dX5_mayJoin_92 : decode cX5_mayJoin 92 = .ok (.iconst (-1), 1) := by decide +kernel
theorem dX5_mayJoin_93 : decode cX5_mayJoin 93 = .ok (.if_icmp .eq 27, 3) := by decide +kernel
theorem dX5_mayJoin_96 : decode cX5_mayJoin 96 = .ok (.aload_n 0, 1) := by decide +kernel
theorem dX5_mayJoin_97 : decode cX5_mayJoin 97 = .ok (.getfield 21, 3) := by decide +kernel
theorem dX5_mayJoin_100 : decode cX5_mayJoin 100 = .ok (.iload_n 3, 1) := by decide +kernel
theorem dX5_mayJoin_101 : decode cX5_mayJoin 101 = .ok (.aaload, 1) := by decide +kernel
theorem dX5_mayJoin_102 : decode cX5_mayJoin 102 = .ok (.iload 5, 2) := by decide +kernel
theorem dX5_mayJoin_104 : decode cX5_mayJoin 104 = .ok (.iaload, 1) := by decide +kernel
theorem dX5_mayJoin_105 : decode cX5_mayJoin 105 = .ok (.aload_n 0, 1) := by decide +kernel
theorem dX5_mayJoin_106 : decode cX5_mayJoin 106 = .ok (.getfield 21, 3) := by decide +kernel
theorem dX5_mayJoin_109 : decode cX5_mayJoin 109 = .ok (.iload 4, 2) := by decide +kernel
theorem dX5_mayJoin_111 : decode cX5_mayJoin 111 = .ok (.aaload, 1) := by decide +kernel
theorem dX5_mayJoin_112 : decode cX5_mayJoin 112 = .ok (.iload 5, 2) := by decide +kernel
theorem dX5_mayJoin_114 : decode cX5_mayJoin 114 = .ok (.iaload, 1) := by decide +kernel
theorem dX5_mayJoin_115 : decode cX5_mayJoin 115 = .ok (.if_icmp .eq 5, 3) := by decide +kernel
theorem dX5_mayJoin_118 : decode cX5_mayJoin 118 = .ok (.iconst 0, 1) := by decide +kernel
theorem dX5_mayJoin_119 : decode cX5_mayJoin 119 = .ok (.ireturn, 1) := by decide +kernel
theorem dX5_mayJoin_120 : decode cX5_mayJoin 120 = .ok (.iinc 5 1, 3) := by decide +kernel
theorem dX5_mayJoin_123 : decode cX5_mayJoin 123 = .ok (.goto (-60), 3) := by decide +kernel
theorem dX5_mayJoin_126 : decode cX5_mayJoin 126 = .ok (.aload_n 0, 1) := by decide +kernel
theorem dX5_mayJoin_127 : decode cX5_mayJoin 127 = .ok (.iload_n 3, 1) := by decide +kernel
theorem dX5_mayJoin_128 : decode cX5_mayJoin 128 = .ok (.iload 4, 2) := by decide +kernel
theorem dX5_mayJoin_130 : decode cX5_mayJoin 130 = .ok (.invokevirtual 86, 3) := by decide +kernel
theorem dX5_mayJoin_133 : decode cX5_mayJoin 133 = .ok (.istore 5, 2) := by decide +kernel
theorem dX5_mayJoin_135 : decode cX5_mayJoin 135 = .ok (.iload 5, 2) := by decide +kernel
theorem dX5_mayJoin_137 : decode cX5_mayJoin 137 = .ok (.iconst (-1), 1) := by decide +kernel
theorem dX5_mayJoin_138 : decode cX5_mayJoin 138 = .ok (.if_icmp .eq 14, 3) := by decide +kernel
theorem dX5_mayJoin_141 : decode cX5_mayJoin 141 = .ok (.iload 5, 2) := by decide +kernel
theorem dX5_mayJoin_143 : decode cX5_mayJoin 143 = .ok (.aload_n 0, 1) := by decide +kernel
theorem dX5_mayJoin_144 : decode cX5_mayJoin 144 = .ok (.getfield 50, 3) := by decide +kernel
theorem dX5_mayJoin_147 : decode cX5_mayJoin 147 = .ok (.if_icmp .eq 5, 3) := by decide +kernel
theorem dX5_mayJoin_150 : decode cX5_mayJoin 150 = .ok (.iconst 0, 1) := by decide +kernel
theorem dX5_mayJoin_151 : decode cX5_mayJoin 151 = .ok (.ireturn, 1) := by decide +kernel
theorem dX5_mayJoin_152 : decode cX5_mayJoin 152 = .ok (.iinc 4 1, 3) := by decide +kernel
theorem dX5_mayJoin_155 : decode cX5_mayJoin 155 = .ok (.goto (-142), 3) := by decide +kernel
theorem dX5_mayJoin_158 : decode cX5_mayJoin 158 = .ok (.iinc 3 1, 3) := by decide +kernel
theorem dX5_mayJoin_161 : decode cX5_mayJoin 161 = .ok (.goto (-159), 3) := by decide +kernel
theorem dX5_mayJoin_164 : decode cX5_mayJoin 164 = .ok (.iconst 1, 1) := by decide +kernel
theorem dX5_mayJoin_165 : decode cX5_mayJoin 165 = .ok (.ireturn, 1) := by decide +kernel
theorem dX5_joins_0 : decode cX5_joins 0 = .ok (.aload_n 0, 1) := by decide +kernel
theorem dX5_joins_1 : decode cX5_joins 1 = .ok (.iload_n 1, 1) := by decide +kernel
theorem dX5_joins_2 : decode cX5_joins 2 = .ok (.invokevirtual 103, 3) := by decide +kernel
theorem dX5_joins_5 : decode cX5_joins 5 = .ok (.iconst 0, 1) := by decide +kernel
theorem dX5_joins_6 : decode cX5_joins 6 = .ok (.istore_n 2, 1) := by decide +kernel
theorem dX5_joins_7 : decode cX5_joins 7 = .ok (.iload_n 2, 1) := by decide +kernel
theorem dX5_joins_8 : decode cX5_joins 8 = .ok (.aload_n 0, 1) := by decide +kernel
theorem dX5_joins_9 : decode cX5_joins 9 = .ok (.getfield 56, 3) := by decide +kernel
theorem dX5_joins_12 : decode cX5_joins 12 = .ok (.if_icmp .ge 86, 3) := by decide +kernel
theorem dX5_joins_15 : decode cX5_joins 15 = .ok (.aload_n 0, 1) := by decide +kernel
theorem dX5_joins_16 : decode cX5_joins 16 = .ok (.iload_n 2, 1) := by decide +kernel
theorem dX5_joins_17 : decode cX5_joins 17 = .ok (.invokevirtual 97, 3) := by decide +kernel
theorem dX5_joins_20 : decode cX5_joins 20 = .ok (.ifCond .eq 72, 3) := by decide +kernel
theorem dX5_joins_23 : decode cX5_joins 23 = .ok (.aload_n 0, 1) := by decide +kernel
theorem dX5_joins_24 : decode cX5_joins 24 = .ok (.getfield 44, 3) := by decide +kernel
theorem dX5_joins_27 : decode cX5_joins 27 = .ok (.iload_n 2, 1) := by decide +kernel
theorem dX5_joins_28 : decode cX5_joins 28 = .ok (.iaload, 1) := by decide +kernel
theorem dX5_joins_29 : decode cX5_joins 29 = .ok (.iload_n 2, 1) := by decide +kernel
theorem dX5_joins_30 : decode cX5_joins 30 = .ok (.if_icmp .ne 62, 3) := by decide +kernel
theorem dX5_joins_33 : decode cX5_joins 33 = .ok (.aload_n 0, 1) := by decide +kernel
theorem dX5_joins_34 : decode cX5_joins 34 = .ok (.iload_n 2, 1) := by decide +kernel
theorem dX5_joins_35 : decode cX5_joins 35 = .ok (.iload_n 1, 1) := by decide +kernel
theorem dX5_joins_36 : decode cX5_joins 36 = .ok (.invokevirtual 106, 3) := by decide +kernel
theorem dX5_joins_39 : decode cX5_joins 39 = .ok (.ifCond .eq 53, 3) := by decide +kernel
theorem dX5_joins_42 : decode cX5_joins 42 = .ok (.iconst 0, 1) := by decide +kernel
theorem dX5_joins_43 : decode cX5_joins 43 = .ok (.istore_n 3, 1) := by decide +kernel
theorem dX5_joins_44 : decode cX5_joins 44 = .ok (.iload_n 3, 1) := by decide +kernel
theorem dX5_joins_45 : decode cX5_joins 45 = .ok (.aload_n 0, 1) := by decide +kernel
theorem dX5_joins_46 : decode cX5_joins 46 = .ok (.getfield 56, 3) := by decide +kernel
theorem dX5_joins_49 : decode cX5_joins 49 = .ok (.if_icmp .ge 43, 3) := by decide +kernel
theorem dX5_joins_52 : decode cX5_joins 52 = .ok (.aload_n 0, 1) := by decide +kernel
theorem dX5_joins_53 : decode cX5_joins 53 = .ok (.getfield 41, 3) := by decide +kernel
theorem dX5_joins_56 : decode cX5_joins 56 = .ok (.iload_n 3, 1) := by decide +kernel
theorem dX5_joins_57 : decode cX5_joins 57 = .ok (.aload_n 0, 1) := by decide +kernel
theorem dX5_joins_58 : decode cX5_joins 58 = .ok (.iload_n 3, 1) := by decide +kernel
theorem dX5_joins_59 : decode cX5_joins 59 = .ok (.invokevirtual 97, 3) := by decide +kernel
theorem dX5_joins_62 : decode cX5_joins 62 = .ok (.ifCond .eq 17, 3) := by decide +kernel
theorem dX5_joins_65 : decode cX5_joins 65 = .ok (.aload_n 0, 1) := by decide +kernel
theorem dX5_joins_66 : decode cX5_joins 66 = .ok (.getfield 44, 3) := by decide +kernel
theorem dX5_joins_69 : decode cX5_joins 69 = .ok (.iload_n 3, 1) := by decide +kernel
theorem dX5_joins_70 : decode cX5_joins 70 = .ok (.iaload, 1) := by decide +kernel
theorem dX5_joins_71 : decode cX5_joins 71 = .ok (.iload_n 2, 1) := by decide +kernel
theorem dX5_joins_72 : decode cX5_joins 72 = .ok (.if_icmp .ne 7, 3) := by decide +kernel
theorem dX5_joins_75 : decode cX5_joins 75 = .ok (.iload_n 2, 1) := by decide +kernel
theorem dX5_joins_76 : decode cX5_joins 76 = .ok (.goto 9, 3) := by decide +kernel
theorem dX5_joins_79 : decode cX5_joins 79 = .ok (.aload_n 0, 1) := by decide +kernel
theorem dX5_joins_80 : decode cX5_joins 80 = .ok (.getfield 41, 3) := by decide +kernel
theorem dX5_joins_83 : decode cX5_joins 83 = .ok (.iload_n 3, 1) := by decide +kernel
theorem dX5_joins_84 : decode cX5_joins 84 = .ok (.iaload, 1) := by decide +kernel
theorem dX5_joins_85 : decode cX5_joins 85 = .ok (.iastore, 1) := by decide +kernel
theorem dX5_joins_86 : decode cX5_joins 86 = .ok (.iinc 3 1, 3) := by decide +kernel
theorem dX5_joins_89 : decode cX5_joins 89 = .ok (.goto (-45), 3) := by decide +kernel
theorem dX5_joins_92 : decode cX5_joins 92 = .ok (.iinc 2 1, 3) := by decide +kernel
theorem dX5_joins_95 : decode cX5_joins 95 = .ok (.goto (-88), 3) := by decide +kernel
theorem dX5_joins_98 : decode cX5_joins 98 = .ok (.return_, 1) := by decide +kernel
theorem dX5_finds_0 : decode cX5_finds 0 = .ok (.iconst 0, 1) := by decide +kernel
theorem dX5_finds_1 : decode cX5_finds 1 = .ok (.istore_n 2, 1) := by decide +kernel
theorem dX5_finds_2 : decode cX5_finds 2 = .ok (.iload_n 2, 1) := by decide +kernel
theorem dX5_finds_3 : decode cX5_finds 3 = .ok (.aload_n 0, 1) := by decide +kernel
theorem dX5_finds_4 : decode cX5_finds 4 = .ok (.getfield 56, 3) := by decide +kernel
theorem dX5_finds_7 : decode cX5_finds 7 = .ok (.if_icmp .ge 16, 3) := by decide +kernel
theorem dX5_finds_10 : decode cX5_finds 10 = .ok (.aload_n 0, 1) := by decide +kernel
theorem dX5_finds_11 : decode cX5_finds 11 = .ok (.getfield 41, 3) := by decide +kernel
theorem dX5_finds_14 : decode cX5_finds 14 = .ok (.iload_n 2, 1) := by decide +kernel
theorem dX5_finds_15 : decode cX5_finds 15 = .ok (.iload_n 2, 1) := by decide +kernel
theorem dX5_finds_16 : decode cX5_finds 16 = .ok (.iastore, 1) := by decide +kernel
theorem dX5_finds_17 : decode cX5_finds 17 = .ok (.iinc 2 1, 3) := by decide +kernel
theorem dX5_finds_20 : decode cX5_finds 20 = .ok (.goto (-18), 3) := by decide +kernel
theorem dX5_finds_23 : decode cX5_finds 23 = .ok (.iconst 0, 1) := by decide +kernel
theorem dX5_finds_24 : decode cX5_finds 24 = .ok (.istore_n 2, 1) := by decide +kernel
theorem dX5_finds_25 : decode cX5_finds 25 = .ok (.iload_n 2, 1) := by decide +kernel
theorem dX5_finds_26 : decode cX5_finds 26 = .ok (.iload_n 1, 1) := by decide +kernel
theorem dX5_finds_27 : decode cX5_finds 27 = .ok (.if_icmp .gt 14, 3) := by decide +kernel
theorem dX5_finds_30 : decode cX5_finds 30 = .ok (.aload_n 0, 1) := by decide +kernel
theorem dX5_finds_31 : decode cX5_finds 31 = .ok (.iload_n 2, 1) := by decide +kernel
theorem dX5_finds_32 : decode cX5_finds 32 = .ok (.invokevirtual 110, 3) := by decide +kernel
theorem dX5_finds_35 : decode cX5_finds 35 = .ok (.iinc 2 1, 3) := by decide +kernel
theorem dX5_finds_38 : decode cX5_finds 38 = .ok (.goto (-13), 3) := by decide +kernel
theorem dX5_finds_41 : decode cX5_finds 41 = .ok (.return_, 1) := by decide +kernel
theorem dX5_thingMany_0 : decode cX5_thingMany 0 = .ok (.aload_n 0, 1) := by decide +kernel
theorem dX5_thingMany_1 : decode cX5_thingMany 1 = .ok (.iconst 2, 1) := by decide +kernel
theorem dX5_thingMany_2 : decode cX5_thingMany 2 = .ok (.invokevirtual 113, 3) := by decide +kernel
theorem dX5_thingMany_5 : decode cX5_thingMany 5 = .ok (.iconst 0, 1) := by decide +kernel
theorem dX5_thingMany_6 : decode cX5_thingMany 6 = .ok (.istore_n 1, 1) := by decide +kernel
theorem dX5_thingMany_7 : decode cX5_thingMany 7 = .ok (.iconst 0, 1) := by decide +kernel
theorem dX5_thingMany_8 : decode cX5_thingMany 8 = .ok (.istore_n 2, 1) := by decide +kernel
theorem dX5_thingMany_9 : decode cX5_thingMany 9 = .ok (.iload_n 2, 1) := by decide +kernel
theorem dX5_thingMany_10 : decode cX5_thingMany 10 = .ok (.aload_n 0, 1) := by decide +kernel
theorem dX5_thingMany_11 : decode cX5_thingMany 11 = .ok (.getfield 56, 3) := by decide +kernel
theorem dX5_thingMany_14 : decode cX5_thingMany 14 = .ok (.if_icmp .ge 35, 3) := by decide +kernel
theorem dX5_thingMany_17 : decode cX5_thingMany 17 = .ok (.iload_n 1, 1) := by decide +kernel
theorem dX5_thingMany_18 : decode cX5_thingMany 18 = .ok (.aload_n 0, 1) := by decide +kernel
theorem dX5_thingMany_19 : decode cX5_thingMany 19 = .ok (.iload_n 2, 1) := by decide +kernel
theorem dX5_thingMany_20 : decode cX5_thingMany 20 = .ok (.invokevirtual 97, 3) := by decide +kernel
theorem dX5_thingMany_23 : decode cX5_thingMany 23 = .ok (.ifCond .eq 17, 3) := by decide +kernel
theorem dX5_thingMany_26 : decode cX5_thingMany 26 = .ok (.aload_n 0, 1) := by decide +kernel
theorem dX5_thingMany_27 : decode cX5_thingMany 27 = .ok (.getfield 41, 3) := by decide +kernel
theorem dX5_thingMany_30 : decode cX5_thingMany 30 = .ok (.iload_n 2, 1) := by decide +kernel
theorem dX5_thingMany_31 : decode cX5_thingMany 31 = .ok (.iaload, 1) := by decide +kernel
theorem dX5_thingMany_32 : decode cX5_thingMany 32 = .ok (.iload_n 2, 1) := by decide +kernel
theorem dX5_thingMany_33 : decode cX5_thingMany 33 = .ok (.if_icmp .ne 7, 3) := by decide +kernel
theorem dX5_thingMany_36 : decode cX5_thingMany 36 = .ok (.iconst 1, 1) := by decide +kernel
theorem dX5_thingMany_37 : decode cX5_thingMany 37 = .ok (.goto 4, 3) := by decide +kernel
theorem dX5_thingMany_40 : decode cX5_thingMany 40 = .ok (.iconst 0, 1) := by decide +kernel
theorem dX5_thingMany_41 : decode cX5_thingMany 41 = .ok (.iadd, 1) := by decide +kernel
theorem dX5_thingMany_42 : decode cX5_thingMany 42 = .ok (.istore_n 1, 1) := by decide +kernel
theorem dX5_thingMany_43 : decode cX5_thingMany 43 = .ok (.iinc 2 1, 3) := by decide +kernel
theorem dX5_thingMany_46 : decode cX5_thingMany 46 = .ok (.goto (-37), 3) := by decide +kernel
theorem dX5_thingMany_49 : decode cX5_thingMany 49 = .ok (.iload_n 1, 1) := by decide +kernel
theorem dX5_thingMany_50 : decode cX5_thingMany 50 = .ok (.ireturn, 1) := by decide +kernel
theorem dX5_thing_0 : decode cX5_thing 0 = .ok (.aload_n 0, 1) := by decide +kernel
theorem dX5_thing_1 : decode cX5_thing 1 = .ok (.iload_n 1, 1) := by decide +kernel
theorem dX5_thing_2 : decode cX5_thing 2 = .ok (.invokevirtual 76, 3) := by decide +kernel
theorem dX5_thing_5 : decode cX5_thing 5 = .ok (.ifCond .eq 5, 3) := by decide +kernel
theorem dX5_thing_8 : decode cX5_thing 8 = .ok (.iconst 0, 1) := by decide +kernel
theorem dX5_thing_9 : decode cX5_thing 9 = .ok (.ireturn, 1) := by decide +kernel
theorem dX5_thing_10 : decode cX5_thing 10 = .ok (.aload_n 0, 1) := by decide +kernel
theorem dX5_thing_11 : decode cX5_thing 11 = .ok (.iconst 2, 1) := by decide +kernel
theorem dX5_thing_12 : decode cX5_thing 12 = .ok (.invokevirtual 113, 3) := by decide +kernel
theorem dX5_thing_15 : decode cX5_thing 15 = .ok (.aload_n 0, 1) := by decide +kernel
theorem dX5_thing_16 : decode cX5_thing 16 = .ok (.getfield 41, 3) := by decide +kernel
theorem dX5_thing_19 : decode cX5_thing 19 = .ok (.iload_n 1, 1) := by decide +kernel
theorem dX5_thing_20 : decode cX5_thing 20 = .ok (.iaload, 1) := by decide +kernel
theorem dX5_thing_21 : decode cX5_thing 21 = .ok (.ireturn, 1) := by decide +kernel
theorem dX5_thingByRounds_0 : decode cX5_thingByRounds 0 = .ok (.aload_n 0, 1) := by decide +kernel
theorem dX5_thingByRounds_1 : decode cX5_thingByRounds 1 = .ok (.iload_n 1, 1) := by decide +kernel
theorem dX5_thingByRounds_2 : decode cX5_thingByRounds 2 = .ok (.invokevirtual 116, 3) := by decide +kernel
theorem dX5_thingByRounds_5 : decode cX5_thingByRounds 5 = .ok (.ireturn, 1) := by decide +kernel
theorem dX5_things_0 : decode cX5_things 0 = .ok (.aload_n 0, 1) := by decide +kernel
theorem dX5_things_1 : decode cX5_things 1 = .ok (.iconst 0, 1) := by decide +kernel
theorem dX5_things_2 : decode cX5_things 2 = .ok (.putfield 53, 3) := by decide +kernel
theorem dX5_things_5 : decode cX5_things 5 = .ok (.aload_n 0, 1) := by decide +kernel
theorem dX5_things_6 : decode cX5_things 6 = .ok (.invokevirtual 119, 3) := by decide +kernel
theorem dX5_things_9 : decode cX5_things 9 = .ok (.ireturn, 1) := by decide +kernel
theorem dX5_isOf_0 : decode cX5_isOf 0 = .ok (.aload_n 0, 1) := by decide +kernel
theorem dX5_isOf_1 : decode cX5_isOf 1 = .ok (.iload_n 1, 1) := by decide +kernel
theorem dX5_isOf_2 : decode cX5_isOf 2 = .ok (.invokevirtual 97, 3) := by decide +kernel
theorem dX5_isOf_5 : decode cX5_isOf 5 = .ok (.ifCond .eq 17, 3) := by decide +kernel
theorem dX5_isOf_8 : decode cX5_isOf 8 = .ok (.aload_n 0, 1) := by decide +kernel
theorem dX5_isOf_9 : decode cX5_isOf 9 = .ok (.getfield 41, 3) := by decide +kernel
theorem dX5_isOf_12 : decode cX5_isOf 12 = .ok (.iload_n 1, 1) := by decide +kernel
theorem dX5_isOf_13 : decode cX5_isOf 13 = .ok (.iaload, 1) := by decide +kernel
theorem dX5_isOf_14 : decode cX5_isOf 14 = .ok (.iload_n 2, 1) := by decide +kernel
theorem dX5_isOf_15 : decode cX5_isOf 15 = .ok (.if_icmp .ne 7, 3) := by decide +kernel
theorem dX5_isOf_18 : decode cX5_isOf 18 = .ok (.iconst 1, 1) := by decide +kernel
theorem dX5_isOf_19 : decode cX5_isOf 19 = .ok (.goto 4, 3) := by decide +kernel
theorem dX5_isOf_22 : decode cX5_isOf 22 = .ok (.iconst 0, 1) := by decide +kernel
theorem dX5_isOf_23 : decode cX5_isOf 23 = .ok (.ireturn, 1) := by decide +kernel
theorem dX5_size_0 : decode cX5_size 0 = .ok (.aload_n 0, 1) := by decide +kernel
theorem dX5_size_1 : decode cX5_size 1 = .ok (.iload_n 1, 1) := by decide +kernel
theorem dX5_size_2 : decode cX5_size 2 = .ok (.invokevirtual 76, 3) := by decide +kernel
theorem dX5_size_5 : decode cX5_size 5 = .ok (.ifCond .eq 5, 3) := by decide +kernel
theorem dX5_size_8 : decode cX5_size 8 = .ok (.iconst 0, 1) := by decide +kernel
theorem dX5_size_9 : decode cX5_size 9 = .ok (.ireturn, 1) := by decide +kernel
theorem dX5_size_10 : decode cX5_size 10 = .ok (.aload_n 0, 1) := by decide +kernel
theorem dX5_size_11 : decode cX5_size 11 = .ok (.iconst 2, 1) := by decide +kernel
theorem dX5_size_12 : decode cX5_size 12 = .ok (.invokevirtual 113, 3) := by decide +kernel
theorem dX5_size_15 : decode cX5_size 15 = .ok (.iconst 0, 1) := by decide +kernel
theorem dX5_size_16 : decode cX5_size 16 = .ok (.istore_n 2, 1) := by decide +kernel
theorem dX5_size_17 : decode cX5_size 17 = .ok (.iconst 0, 1) := by decide +kernel
theorem dX5_size_18 : decode cX5_size 18 = .ok (.istore_n 3, 1) := by decide +kernel
theorem dX5_size_19 : decode cX5_size 19 = .ok (.iload_n 3, 1) := by decide +kernel
theorem dX5_size_20 : decode cX5_size 20 = .ok (.aload_n 0, 1) := by decide +kernel
theorem dX5_size_21 : decode cX5_size 21 = .ok (.getfield 56, 3) := by decide +kernel
theorem dX5_size_24 : decode cX5_size 24 = .ok (.if_icmp .ge 31, 3) := by decide +kernel
theorem dX5_size_27 : decode cX5_size 27 = .ok (.iload_n 2, 1) := by decide +kernel
theorem dX5_size_28 : decode cX5_size 28 = .ok (.aload_n 0, 1) := by decide +kernel
theorem dX5_size_29 : decode cX5_size 29 = .ok (.iload_n 3, 1) := by decide +kernel
theorem dX5_size_30 : decode cX5_size 30 = .ok (.aload_n 0, 1) := by decide +kernel
theorem dX5_size_31 : decode cX5_size 31 = .ok (.getfield 41, 3) := by decide +kernel
theorem dX5_size_34 : decode cX5_size 34 = .ok (.iload_n 1, 1) := by decide +kernel
theorem dX5_size_35 : decode cX5_size 35 = .ok (.iaload, 1) := by decide +kernel
theorem dX5_size_36 : decode cX5_size 36 = .ok (.invokevirtual 122, 3) := by decide +kernel
theorem dX5_size_39 : decode cX5_size 39 = .ok (.ifCond .eq 7, 3) := by decide +kernel
theorem dX5_size_42 : decode cX5_size 42 = .ok (.iconst 1, 1) := by decide +kernel
theorem dX5_size_43 : decode cX5_size 43 = .ok (.goto 4, 3) := by decide +kernel
theorem dX5_size_46 : decode cX5_size 46 = .ok (.iconst 0, 1) := by decide +kernel
theorem dX5_size_47 : decode cX5_size 47 = .ok (.iadd, 1) := by decide +kernel
theorem dX5_size_48 : decode cX5_size 48 = .ok (.istore_n 2, 1) := by decide +kernel
theorem dX5_size_49 : decode cX5_size 49 = .ok (.iinc 3 1, 3) := by decide +kernel
theorem dX5_size_52 : decode cX5_size 52 = .ok (.goto (-33), 3) := by decide +kernel
theorem dX5_size_55 : decode cX5_size 55 = .ok (.iload_n 2, 1) := by decide +kernel
theorem dX5_size_56 : decode cX5_size 56 = .ok (.ireturn, 1) := by decide +kernel
theorem dX5_member_0 : decode cX5_member 0 = .ok (.aload_n 0, 1) := by decide +kernel
theorem dX5_member_1 : decode cX5_member 1 = .ok (.iload_n 1, 1) := by decide +kernel
theorem dX5_member_2 : decode cX5_member 2 = .ok (.invokevirtual 76, 3) := by decide +kernel
theorem dX5_member_5 : decode cX5_member 5 = .ok (.ifCond .eq 5, 3) := by decide +kernel
theorem dX5_member_8 : decode cX5_member 8 = .ok (.iconst 0, 1) := by decide +kernel
theorem dX5_member_9 : decode cX5_member 9 = .ok (.ireturn, 1) := by decide +kernel
theorem dX5_member_10 : decode cX5_member 10 = .ok (.aload_n 0, 1) := by decide +kernel
theorem dX5_member_11 : decode cX5_member 11 = .ok (.iconst 2, 1) := by decide +kernel
theorem dX5_member_12 : decode cX5_member 12 = .ok (.invokevirtual 113, 3) := by decide +kernel
theorem dX5_member_15 : decode cX5_member 15 = .ok (.iload_n 2, 1) := by decide +kernel
theorem dX5_member_16 : decode cX5_member 16 = .ok (.istore_n 3, 1) := by decide +kernel
theorem dX5_member_17 : decode cX5_member 17 = .ok (.iconst 0, 1) := by decide +kernel
theorem dX5_member_18 : decode cX5_member 18 = .ok (.istore 4, 2) := by decide +kernel
theorem dX5_member_20 : decode cX5_member 20 = .ok (.iload 4, 2) := by decide +kernel
theorem dX5_member_22 : decode cX5_member 22 = .ok (.aload_n 0, 1) := by decide +kernel
theorem dX5_member_23 : decode cX5_member 23 = .ok (.getfield 56, 3) := by decide +kernel
theorem dX5_member_26 : decode cX5_member 26 = .ok (.if_icmp .ge 38, 3) := by decide +kernel
theorem dX5_member_29 : decode cX5_member 29 = .ok (.iload_n 2, 1) := by decide +kernel
theorem dX5_member_30 : decode cX5_member 30 = .ok (.ifCond .lt 34, 3) := by decide +kernel
theorem dX5_member_33 : decode cX5_member 33 = .ok (.aload_n 0, 1) := by decide +kernel
theorem dX5_member_34 : decode cX5_member 34 = .ok (.iload 4, 2) := by decide +kernel
theorem dX5_member_36 : decode cX5_member 36 = .ok (.aload_n 0, 1) := by decide +kernel
theorem dX5_member_37 : decode cX5_member 37 = .ok (.getfield 41, 3) := by decide +kernel
theorem dX5_member_40 : decode cX5_member 40 = .ok (.iload_n 1, 1) := by decide +kernel
theorem dX5_member_41 : decode cX5_member 41 = .ok (.iaload, 1) := by decide +kernel
theorem dX5_member_42 : decode cX5_member 42 = .ok (.invokevirtual 122, 3) := by decide +kernel
theorem dX5_member_45 : decode cX5_member 45 = .ok (.ifCond .eq 13, 3) := by decide +kernel
theorem dX5_member_48 : decode cX5_member 48 = .ok (.iload_n 3, 1) := by decide +kernel
theorem dX5_member_49 : decode cX5_member 49 = .ok (.ifCond .ne 6, 3) := by decide +kernel
theorem dX5_member_52 : decode cX5_member 52 = .ok (.iload 4, 2) := by decide +kernel
theorem dX5_member_54 : decode cX5_member 54 = .ok (.ireturn, 1) := by decide +kernel
theorem dX5_member_55 : decode cX5_member 55 = .ok (.iinc 3 (-1), 3) := by decide +kernel
theorem dX5_member_58 : decode cX5_member 58 = .ok (.iinc 4 1, 3) := by decide +kernel
theorem dX5_member_61 : decode cX5_member 61 = .ok (.goto (-41), 3) := by decide +kernel
theorem dX5_member_64 : decode cX5_member 64 = .ok (.aload_n 0, 1) := by decide +kernel
theorem dX5_member_65 : decode cX5_member 65 = .ok (.iconst 2, 1) := by decide +kernel
theorem dX5_member_66 : decode cX5_member 66 = .ok (.invokevirtual 93, 3) := by decide +kernel
theorem dX5_member_69 : decode cX5_member 69 = .ok (.ireturn, 1) := by decide +kernel
theorem dX5_areTogether_0 : decode cX5_areTogether 0 = .ok (.aload_n 0, 1) := by decide +kernel
theorem dX5_areTogether_1 : decode cX5_areTogether 1 = .ok (.aload_n 0, 1) := by decide +kernel
theorem dX5_areTogether_2 : decode cX5_areTogether 2 = .ok (.iload_n 1, 1) := by decide +kernel
theorem dX5_areTogether_3 : decode cX5_areTogether 3 = .ok (.invokevirtual 63, 3) := by decide +kernel
theorem dX5_areTogether_6 : decode cX5_areTogether 6 = .ok (.ifCond .eq 15, 3) := by decide +kernel
theorem dX5_areTogether_9 : decode cX5_areTogether 9 = .ok (.aload_n 0, 1) := by decide +kernel
theorem dX5_areTogether_10 : decode cX5_areTogether 10 = .ok (.iload_n 2, 1) := by decide +kernel
theorem dX5_areTogether_11 : decode cX5_areTogether 11 = .ok (.invokevirtual 63, 3) := by decide +kernel
theorem dX5_areTogether_14 : decode cX5_areTogether 14 = .ok (.ifCond .eq 7, 3) := by decide +kernel
theorem dX5_areTogether_17 : decode cX5_areTogether 17 = .ok (.iconst 0, 1) := by decide +kernel
theorem dX5_areTogether_18 : decode cX5_areTogether 18 = .ok (.goto 4, 3) := by decide +kernel
theorem dX5_areTogether_21 : decode cX5_areTogether 21 = .ok (.iconst 1, 1) := by decide +kernel
theorem dX5_areTogether_22 : decode cX5_areTogether 22 = .ok (.putfield 53, 3) := by decide +kernel
theorem dX5_areTogether_25 : decode cX5_areTogether 25 = .ok (.aload_n 0, 1) := by decide +kernel
theorem dX5_areTogether_26 : decode cX5_areTogether 26 = .ok (.getfield 53, 3) := by decide +kernel
theorem dX5_areTogether_29 : decode cX5_areTogether 29 = .ok (.ifCond .le 5, 3) := by decide +kernel
theorem dX5_areTogether_32 : decode cX5_areTogether 32 = .ok (.iconst 0, 1) := by decide +kernel
theorem dX5_areTogether_33 : decode cX5_areTogether 33 = .ok (.ireturn, 1) := by decide +kernel
theorem dX5_areTogether_34 : decode cX5_areTogether 34 = .ok (.aload_n 0, 1) := by decide +kernel
theorem dX5_areTogether_35 : decode cX5_areTogether 35 = .ok (.iconst 2, 1) := by decide +kernel
theorem dX5_areTogether_36 : decode cX5_areTogether 36 = .ok (.invokevirtual 113, 3) := by decide +kernel
theorem dX5_areTogether_39 : decode cX5_areTogether 39 = .ok (.aload_n 0, 1) := by decide +kernel
theorem dX5_areTogether_40 : decode cX5_areTogether 40 = .ok (.getfield 41, 3) := by decide +kernel
theorem dX5_areTogether_43 : decode cX5_areTogether 43 = .ok (.iload_n 1, 1) := by decide +kernel
theorem dX5_areTogether_44 : decode cX5_areTogether 44 = .ok (.iaload, 1) := by decide +kernel
theorem dX5_areTogether_45 : decode cX5_areTogether 45 = .ok (.aload_n 0, 1) := by decide +kernel
theorem dX5_areTogether_46 : decode cX5_areTogether 46 = .ok (.getfield 41, 3) := by decide +kernel
theorem dX5_areTogether_49 : decode cX5_areTogether 49 = .ok (.iload_n 2, 1) := by decide +kernel
theorem dX5_areTogether_50 : decode cX5_areTogether 50 = .ok (.iaload, 1) := by decide +kernel
theorem dX5_areTogether_51 : decode cX5_areTogether 51 = .ok (.if_icmp .ne 7, 3) := by decide +kernel
theorem dX5_areTogether_54 : decode cX5_areTogether 54 = .ok (.iconst 1, 1) := by decide +kernel
theorem dX5_areTogether_55 : decode cX5_areTogether 55 = .ok (.goto 4, 3) := by decide +kernel
theorem dX5_areTogether_58 : decode cX5_areTogether 58 = .ok (.iconst 0, 1) := by decide +kernel
theorem dX5_areTogether_59 : decode cX5_areTogether 59 = .ok (.ireturn, 1) := by decide +kernel
theorem dX5_step_0 : decode cX5_step 0 = .ok (.aload_n 0, 1) := by decide +kernel
theorem dX5_step_1 : decode cX5_step 1 = .ok (.aload_n 0, 1) := by decide +kernel
theorem dX5_step_2 : decode cX5_step 2 = .ok (.iload_n 1, 1) := by decide +kernel
theorem dX5_step_3 : decode cX5_step 3 = .ok (.invokevirtual 63, 3) := by decide +kernel
theorem dX5_step_6 : decode cX5_step 6 = .ok (.ifCond .eq 11, 3) := by decide +kernel
theorem dX5_step_9 : decode cX5_step 9 = .ok (.aload_n 0, 1) := by decide +kernel
theorem dX5_step_10 : decode cX5_step 10 = .ok (.iload_n 2, 1) := by decide +kernel
theorem dX5_step_11 : decode cX5_step 11 = .ok (.invokevirtual 63, 3) := by decide +kernel
theorem dX5_step_14 : decode cX5_step 14 = .ok (.ifCond .ne 7, 3) := by decide +kernel
theorem dX5_step_17 : decode cX5_step 17 = .ok (.iconst 1, 1) := by decide +kernel
theorem dX5_step_18 : decode cX5_step 18 = .ok (.goto 13, 3) := by decide +kernel
theorem dX5_step_21 : decode cX5_step 21 = .ok (.iload_n 1, 1) := by decide +kernel
theorem dX5_step_22 : decode cX5_step 22 = .ok (.iload_n 2, 1) := by decide +kernel
theorem dX5_step_23 : decode cX5_step 23 = .ok (.if_icmp .ne 7, 3) := by decide +kernel
theorem dX5_step_26 : decode cX5_step 26 = .ok (.iconst 2, 1) := by decide +kernel
theorem dX5_step_27 : decode cX5_step 27 = .ok (.goto 4, 3) := by decide +kernel
theorem dX5_step_30 : decode cX5_step 30 = .ok (.iconst 0, 1) := by decide +kernel
theorem dX5_step_31 : decode cX5_step 31 = .ok (.putfield 53, 3) := by decide +kernel
theorem dX5_step_34 : decode cX5_step 34 = .ok (.aload_n 0, 1) := by decide +kernel
theorem dX5_step_35 : decode cX5_step 35 = .ok (.getfield 53, 3) := by decide +kernel
theorem dX5_step_38 : decode cX5_step 38 = .ok (.ifCond .le 5, 3) := by decide +kernel
theorem dX5_step_41 : decode cX5_step 41 = .ok (.iconst 0, 1) := by decide +kernel
theorem dX5_step_42 : decode cX5_step 42 = .ok (.ireturn, 1) := by decide +kernel
theorem dX5_step_43 : decode cX5_step 43 = .ok (.iconst 0, 1) := by decide +kernel
theorem dX5_step_44 : decode cX5_step 44 = .ok (.istore_n 3, 1) := by decide +kernel
theorem dX5_step_45 : decode cX5_step 45 = .ok (.iload_n 3, 1) := by decide +kernel
theorem dX5_step_46 : decode cX5_step 46 = .ok (.iconst 3, 1) := by decide +kernel
theorem dX5_step_47 : decode cX5_step 47 = .ok (.if_icmp .ge 31, 3) := by decide +kernel
theorem dX5_step_50 : decode cX5_step 50 = .ok (.aload_n 0, 1) := by decide +kernel
theorem dX5_step_51 : decode cX5_step 51 = .ok (.iload_n 3, 1) := by decide +kernel
theorem dX5_step_52 : decode cX5_step 52 = .ok (.invokevirtual 113, 3) := by decide +kernel
theorem dX5_step_55 : decode cX5_step 55 = .ok (.aload_n 0, 1) := by decide +kernel
theorem dX5_step_56 : decode cX5_step 56 = .ok (.getfield 41, 3) := by decide +kernel
theorem dX5_step_59 : decode cX5_step 59 = .ok (.iload_n 1, 1) := by decide +kernel
theorem dX5_step_60 : decode cX5_step 60 = .ok (.iaload, 1) := by decide +kernel
theorem dX5_step_61 : decode cX5_step 61 = .ok (.aload_n 0, 1) := by decide +kernel
theorem dX5_step_62 : decode cX5_step 62 = .ok (.getfield 41, 3) := by decide +kernel
theorem dX5_step_65 : decode cX5_step 65 = .ok (.iload_n 2, 1) := by decide +kernel
theorem dX5_step_66 : decode cX5_step 66 = .ok (.iaload, 1) := by decide +kernel
theorem dX5_step_67 : decode cX5_step 67 = .ok (.if_icmp .ne 5, 3) := by decide +kernel
theorem dX5_step_70 : decode cX5_step 70 = .ok (.iload_n 3, 1) := by decide +kernel
theorem dX5_step_71 : decode cX5_step 71 = .ok (.ireturn, 1) := by decide +kernel
theorem dX5_step_72 : decode cX5_step 72 = .ok (.iinc 3 1, 3) := by decide +kernel
theorem dX5_step_75 : decode cX5_step 75 = .ok (.goto (-30), 3) := by decide +kernel
theorem dX5_step_78 : decode cX5_step 78 = .ok (.aload_n 0, 1) := by decide +kernel
theorem dX5_step_79 : decode cX5_step 79 = .ok (.iconst 3, 1) := by decide +kernel
theorem dX5_step_80 : decode cX5_step 80 = .ok (.invokevirtual 93, 3) := by decide +kernel
theorem dX5_step_83 : decode cX5_step 83 = .ok (.ireturn, 1) := by decide +kernel
theorem dX5_isShared_0 : decode cX5_isShared 0 = .ok (.iconst (-1), 1) := by decide +kernel
theorem dX5_isShared_1 : decode cX5_isShared 1 = .ok (.istore_n 3, 1) := by decide +kernel
theorem dX5_isShared_2 : decode cX5_isShared 2 = .ok (.iconst 0, 1) := by decide +kernel
theorem dX5_isShared_3 : decode cX5_isShared 3 = .ok (.istore 4, 2) := by decide +kernel
theorem dX5_isShared_5 : decode cX5_isShared 5 = .ok (.iload 4, 2) := by decide +kernel
theorem dX5_isShared_7 : decode cX5_isShared 7 = .ok (.aload_n 0, 1) := by decide +kernel
theorem dX5_isShared_8 : decode cX5_isShared 8 = .ok (.getfield 56, 3) := by decide +kernel
theorem dX5_isShared_11 : decode cX5_isShared 11 = .ok (.if_icmp .ge 57, 3) := by decide +kernel
theorem dX5_isShared_14 : decode cX5_isShared 14 = .ok (.aload_n 0, 1) := by decide +kernel
theorem dX5_isShared_15 : decode cX5_isShared 15 = .ok (.iload 4, 2) := by decide +kernel
theorem dX5_isShared_17 : decode cX5_isShared 17 = .ok (.invokevirtual 97, 3) := by decide +kernel
theorem dX5_isShared_20 : decode cX5_isShared 20 = .ok (.ifCond .eq 42, 3) := by decide +kernel
theorem dX5_isShared_23 : decode cX5_isShared 23 = .ok (.aload_n 0, 1) := by decide +kernel
theorem dX5_isShared_24 : decode cX5_isShared 24 = .ok (.getfield 21, 3) := by decide +kernel
theorem dX5_isShared_27 : decode cX5_isShared 27 = .ok (.iload 4, 2) := by decide +kernel
theorem dX5_isShared_29 : decode cX5_isShared 29 = .ok (.aaload, 1) := by decide +kernel
theorem dX5_isShared_30 : decode cX5_isShared 30 = .ok (.iload_n 1, 1) := by decide +kernel
theorem dX5_isShared_31 : decode cX5_isShared 31 = .ok (.iaload, 1) := by decide +kernel
theorem dX5_isShared_32 : decode cX5_isShared 32 = .ok (.iload_n 2, 1) := by decide +kernel
theorem dX5_isShared_33 : decode cX5_isShared 33 = .ok (.if_icmp .ne 29, 3) := by decide +kernel
theorem dX5_isShared_36 : decode cX5_isShared 36 = .ok (.iload_n 3, 1) := by decide +kernel
theorem dX5_isShared_37 : decode cX5_isShared 37 = .ok (.iconst (-1), 1) := by decide +kernel
theorem dX5_isShared_38 : decode cX5_isShared 38 = .ok (.if_icmp .eq 16, 3) := by decide +kernel
theorem dX5_isShared_41 : decode cX5_isShared 41 = .ok (.aload_n 0, 1) := by decide +kernel
theorem dX5_isShared_42 : decode cX5_isShared 42 = .ok (.getfield 41, 3) := by decide +kernel
theorem dX5_isShared_45 : decode cX5_isShared 45 = .ok (.iload 4, 2) := by decide +kernel
theorem dX5_isShared_47 : decode cX5_isShared 47 = .ok (.iaload, 1) := by decide +kernel
theorem dX5_isShared_48 : decode cX5_isShared 48 = .ok (.iload_n 3, 1) := by decide +kernel
theorem dX5_isShared_49 : decode cX5_isShared 49 = .ok (.if_icmp .eq 5, 3) := by decide +kernel
theorem dX5_isShared_52 : decode cX5_isShared 52 = .ok (.iconst 1, 1) := by decide +kernel
theorem dX5_isShared_53 : decode cX5_isShared 53 = .ok (.ireturn, 1) := by decide +kernel
theorem dX5_isShared_54 : decode cX5_isShared 54 = .ok (.aload_n 0, 1) := by decide +kernel
theorem dX5_isShared_55 : decode cX5_isShared 55 = .ok (.getfield 41, 3) := by decide +kernel
theorem dX5_isShared_58 : decode cX5_isShared 58 = .ok (.iload 4, 2) := by decide +kernel
theorem dX5_isShared_60 : decode cX5_isShared 60 = .ok (.iaload, 1) := by decide +kernel
theorem dX5_isShared_61 : decode cX5_isShared 61 = .ok (.istore_n 3, 1) := by decide +kernel
theorem dX5_isShared_62 : decode cX5_isShared 62 = .ok (.iinc 4 1, 3) := by decide +kernel
theorem dX5_isShared_65 : decode cX5_isShared 65 = .ok (.goto (-60), 3) := by decide +kernel
theorem dX5_isShared_68 : decode cX5_isShared 68 = .ok (.iconst 0, 1) := by decide +kernel
theorem dX5_isShared_69 : decode cX5_isShared 69 = .ok (.ireturn, 1) := by decide +kernel
theorem dX5_shared_0 : decode cX5_shared 0 = .ok (.aload_n 0, 1) := by decide +kernel
theorem dX5_shared_1 : decode cX5_shared 1 = .ok (.iload_n 1, 1) := by decide +kernel
theorem dX5_shared_2 : decode cX5_shared 2 = .ok (.iconst 0, 1) := by decide +kernel
theorem dX5_shared_3 : decode cX5_shared 3 = .ok (.iconst 2, 1) := by decide +kernel
theorem dX5_shared_4 : decode cX5_shared 4 = .ok (.invokestatic 59, 3) := by decide +kernel
theorem dX5_shared_7 : decode cX5_shared 7 = .ok (.ifCond .eq 7, 3) := by decide +kernel
theorem dX5_shared_10 : decode cX5_shared 10 = .ok (.iconst 0, 1) := by decide +kernel
theorem dX5_shared_11 : decode cX5_shared 11 = .ok (.goto 4, 3) := by decide +kernel
theorem dX5_shared_14 : decode cX5_shared 14 = .ok (.iconst 1, 1) := by decide +kernel
theorem dX5_shared_15 : decode cX5_shared 15 = .ok (.putfield 53, 3) := by decide +kernel
theorem dX5_shared_18 : decode cX5_shared 18 = .ok (.aload_n 0, 1) := by decide +kernel
theorem dX5_shared_19 : decode cX5_shared 19 = .ok (.getfield 53, 3) := by decide +kernel
theorem dX5_shared_22 : decode cX5_shared 22 = .ok (.ifCond .le 5, 3) := by decide +kernel
theorem dX5_shared_25 : decode cX5_shared 25 = .ok (.iconst 0, 1) := by decide +kernel
theorem dX5_shared_26 : decode cX5_shared 26 = .ok (.ireturn, 1) := by decide +kernel
theorem dX5_shared_27 : decode cX5_shared 27 = .ok (.aload_n 0, 1) := by decide +kernel
theorem dX5_shared_28 : decode cX5_shared 28 = .ok (.iconst 2, 1) := by decide +kernel
theorem dX5_shared_29 : decode cX5_shared 29 = .ok (.invokevirtual 113, 3) := by decide +kernel
theorem dX5_shared_32 : decode cX5_shared 32 = .ok (.iconst 0, 1) := by decide +kernel
theorem dX5_shared_33 : decode cX5_shared 33 = .ok (.istore_n 2, 1) := by decide +kernel
theorem dX5_shared_34 : decode cX5_shared 34 = .ok (.iconst 0, 1) := by decide +kernel
theorem dX5_shared_35 : decode cX5_shared 35 = .ok (.istore_n 3, 1) := by decide +kernel
theorem dX5_shared_36 : decode cX5_shared 36 = .ok (.iload_n 3, 1) := by decide +kernel
theorem dX5_shared_37 : decode cX5_shared 37 = .ok (.bipush 99, 2) := by decide +kernel
theorem dX5_shared_39 : decode cX5_shared 39 = .ok (.if_icmp .gt 26, 3) := by decide +kernel
theorem dX5_shared_42 : decode cX5_shared 42 = .ok (.iload_n 2, 1) := by decide +kernel
theorem dX5_shared_43 : decode cX5_shared 43 = .ok (.aload_n 0, 1) := by decide +kernel
theorem dX5_shared_44 : decode cX5_shared 44 = .ok (.iload_n 1, 1) := by decide +kernel
theorem dX5_shared_45 : decode cX5_shared 45 = .ok (.iload_n 3, 1) := by decide +kernel
theorem dX5_shared_46 : decode cX5_shared 46 = .ok (.invokevirtual 125, 3) := by decide +kernel
theorem dX5_shared_49 : decode cX5_shared 49 = .ok (.ifCond .eq 7, 3) := by decide +kernel
theorem dX5_shared_52 : decode cX5_shared 52 = .ok (.iconst 1, 1) := by decide +kernel
theorem dX5_shared_53 : decode cX5_shared 53 = .ok (.goto 4, 3) := by decide +kernel
theorem dX5_shared_56 : decode cX5_shared 56 = .ok (.iconst 0, 1) := by decide +kernel
theorem dX5_shared_57 : decode cX5_shared 57 = .ok (.iadd, 1) := by decide +kernel
theorem dX5_shared_58 : decode cX5_shared 58 = .ok (.istore_n 2, 1) := by decide +kernel
theorem dX5_shared_59 : decode cX5_shared 59 = .ok (.iinc 3 1, 3) := by decide +kernel
theorem dX5_shared_62 : decode cX5_shared 62 = .ok (.goto (-26), 3) := by decide +kernel
theorem dX5_shared_65 : decode cX5_shared 65 = .ok (.iload_n 2, 1) := by decide +kernel
theorem dX5_shared_66 : decode cX5_shared 66 = .ok (.ireturn, 1) := by decide +kernel
theorem dX5_thingsWithout_0 : decode cX5_thingsWithout 0 = .ok (.aload_n 0, 1) := by decide +kernel
theorem dX5_thingsWithout_1 : decode cX5_thingsWithout 1 = .ok (.iload_n 1, 1) := by decide +kernel
theorem dX5_thingsWithout_2 : decode cX5_thingsWithout 2 = .ok (.invokevirtual 76, 3) := by decide +kernel
theorem dX5_thingsWithout_5 : decode cX5_thingsWithout 5 = .ok (.ifCond .eq 5, 3) := by decide +kernel
theorem dX5_thingsWithout_8 : decode cX5_thingsWithout 8 = .ok (.iconst 0, 1) := by decide +kernel
theorem dX5_thingsWithout_9 : decode cX5_thingsWithout 9 = .ok (.ireturn, 1) := by decide +kernel
theorem dX5_thingsWithout_10 : decode cX5_thingsWithout 10 = .ok (.aload_n 0, 1) := by decide +kernel
theorem dX5_thingsWithout_11 : decode cX5_thingsWithout 11 = .ok (.iload_n 1, 1) := by decide +kernel
theorem dX5_thingsWithout_12 : decode cX5_thingsWithout 12 = .ok (.putfield 47, 3) := by decide +kernel
theorem dX5_thingsWithout_15 : decode cX5_thingsWithout 15 = .ok (.aload_n 0, 1) := by decide +kernel
theorem dX5_thingsWithout_16 : decode cX5_thingsWithout 16 = .ok (.invokevirtual 119, 3) := by decide +kernel
theorem dX5_thingsWithout_19 : decode cX5_thingsWithout 19 = .ok (.istore_n 2, 1) := by decide +kernel
theorem dX5_thingsWithout_20 : decode cX5_thingsWithout 20 = .ok (.aload_n 0, 1) := by decide +kernel
theorem dX5_thingsWithout_21 : decode cX5_thingsWithout 21 = .ok (.iconst (-1), 1) := by decide +kernel
theorem dX5_thingsWithout_22 : decode cX5_thingsWithout 22 = .ok (.putfield 47, 3) := by decide +kernel
theorem dX5_thingsWithout_25 : decode cX5_thingsWithout 25 = .ok (.iload_n 2, 1) := by decide +kernel
theorem dX5_thingsWithout_26 : decode cX5_thingsWithout 26 = .ok (.ireturn, 1) := by decide +kernel
theorem dX5_thingsIf_0 : decode cX5_thingsIf 0 = .ok (.aload_n 0, 1) := by decide +kernel
theorem dX5_thingsIf_1 : decode cX5_thingsIf 1 = .ok (.iload_n 1, 1) := by decide +kernel
theorem dX5_thingsIf_2 : decode cX5_thingsIf 2 = .ok (.iload_n 2, 1) := by decide +kernel
theorem dX5_thingsIf_3 : decode cX5_thingsIf 3 = .ok (.iload_n 3, 1) := by decide +kernel
theorem dX5_thingsIf_4 : decode cX5_thingsIf 4 = .ok (.invokevirtual 128, 3) := by decide +kernel
theorem dX5_thingsIf_7 : decode cX5_thingsIf 7 = .ok (.istore 4, 2) := by decide +kernel
theorem dX5_thingsIf_9 : decode cX5_thingsIf 9 = .ok (.aload_n 0, 1) := by decide +kernel
theorem dX5_thingsIf_10 : decode cX5_thingsIf 10 = .ok (.getfield 53, 3) := by decide +kernel
theorem dX5_thingsIf_13 : decode cX5_thingsIf 13 = .ok (.ifCond .le 5, 3) := by decide +kernel
theorem dX5_thingsIf_16 : decode cX5_thingsIf 16 = .ok (.iconst 0, 1) := by decide +kernel
theorem dX5_thingsIf_17 : decode cX5_thingsIf 17 = .ok (.ireturn, 1) := by decide +kernel
theorem dX5_thingsIf_18 : decode cX5_thingsIf 18 = .ok (.aload_n 0, 1) := by decide +kernel
theorem dX5_thingsIf_19 : decode cX5_thingsIf 19 = .ok (.invokevirtual 119, 3) := by decide +kernel
theorem dX5_thingsIf_22 : decode cX5_thingsIf 22 = .ok (.istore 5, 2) := by decide +kernel
theorem dX5_thingsIf_24 : decode cX5_thingsIf 24 = .ok (.aload_n 0, 1) := by decide +kernel
theorem dX5_thingsIf_25 : decode cX5_thingsIf 25 = .ok (.getfield 21, 3) := by decide +kernel
theorem dX5_thingsIf_28 : decode cX5_thingsIf 28 = .ok (.iload_n 1, 1) := by decide +kernel
theorem dX5_thingsIf_29 : decode cX5_thingsIf 29 = .ok (.aaload, 1) := by decide +kernel
theorem dX5_thingsIf_30 : decode cX5_thingsIf 30 = .ok (.iload_n 2, 1) := by decide +kernel
theorem dX5_thingsIf_31 : decode cX5_thingsIf 31 = .ok (.iload 4, 2) := by decide +kernel
theorem dX5_thingsIf_33 : decode cX5_thingsIf 33 = .ok (.iastore, 1) := by decide +kernel
theorem dX5_thingsIf_34 : decode cX5_thingsIf 34 = .ok (.iload 5, 2) := by decide +kernel
theorem dX5_thingsIf_36 : decode cX5_thingsIf 36 = .ok (.ireturn, 1) := by decide +kernel
theorem dX5_thingsIfAllowed_0 : decode cX5_thingsIfAllowed 0 = .ok (.aload_n 0, 1) := by decide +kernel
theorem dX5_thingsIfAllowed_1 : decode cX5_thingsIfAllowed 1 = .ok (.iload_n 1, 1) := by decide +kernel
theorem dX5_thingsIfAllowed_2 : decode cX5_thingsIfAllowed 2 = .ok (.invokevirtual 63, 3) := by decide +kernel
theorem dX5_thingsIfAllowed_5 : decode cX5_thingsIfAllowed 5 = .ok (.ifCond .eq 11, 3) := by decide +kernel
theorem dX5_thingsIfAllowed_8 : decode cX5_thingsIfAllowed 8 = .ok (.aload_n 0, 1) := by decide +kernel
theorem dX5_thingsIfAllowed_9 : decode cX5_thingsIfAllowed 9 = .ok (.iload_n 2, 1) := by decide +kernel
theorem dX5_thingsIfAllowed_10 : decode cX5_thingsIfAllowed 10 = .ok (.invokevirtual 63, 3) := by decide +kernel
theorem dX5_thingsIfAllowed_13 : decode cX5_thingsIfAllowed 13 = .ok (.ifCond .ne 9, 3) := by decide +kernel
theorem dX5_thingsIfAllowed_16 : decode cX5_thingsIfAllowed 16 = .ok (.aload_n 0, 1) := by decide +kernel
theorem dX5_thingsIfAllowed_17 : decode cX5_thingsIfAllowed 17 = .ok (.iconst 1, 1) := by decide +kernel
theorem dX5_thingsIfAllowed_18 : decode cX5_thingsIfAllowed 18 = .ok (.invokevirtual 93, 3) := by decide +kernel
theorem dX5_thingsIfAllowed_21 : decode cX5_thingsIfAllowed 21 = .ok (.ireturn, 1) := by decide +kernel
theorem dX5_thingsIfAllowed_22 : decode cX5_thingsIfAllowed 22 = .ok (.aload_n 0, 1) := by decide +kernel
theorem dX5_thingsIfAllowed_23 : decode cX5_thingsIfAllowed 23 = .ok (.iload_n 1, 1) := by decide +kernel
theorem dX5_thingsIfAllowed_24 : decode cX5_thingsIfAllowed 24 = .ok (.iload_n 2, 1) := by decide +kernel
theorem dX5_thingsIfAllowed_25 : decode cX5_thingsIfAllowed 25 = .ok (.invokevirtual 86, 3) := by decide +kernel
theorem dX5_thingsIfAllowed_28 : decode cX5_thingsIfAllowed 28 = .ok (.istore_n 3, 1) := by decide +kernel
theorem dX5_thingsIfAllowed_29 : decode cX5_thingsIfAllowed 29 = .ok (.iload_n 3, 1) := by decide +kernel
theorem dX5_thingsIfAllowed_30 : decode cX5_thingsIfAllowed 30 = .ok (.iconst (-1), 1) := by decide +kernel
theorem dX5_thingsIfAllowed_31 : decode cX5_thingsIfAllowed 31 = .ok (.if_icmp .ne 9, 3) := by decide +kernel
theorem dX5_thingsIfAllowed_34 : decode cX5_thingsIfAllowed 34 = .ok (.aload_n 0, 1) := by decide +kernel
theorem dX5_thingsIfAllowed_35 : decode cX5_thingsIfAllowed 35 = .ok (.iconst 2, 1) := by decide +kernel
theorem dX5_thingsIfAllowed_36 : decode cX5_thingsIfAllowed 36 = .ok (.invokevirtual 93, 3) := by decide +kernel
theorem dX5_thingsIfAllowed_39 : decode cX5_thingsIfAllowed 39 = .ok (.ireturn, 1) := by decide +kernel
theorem dX5_thingsIfAllowed_40 : decode cX5_thingsIfAllowed 40 = .ok (.aload_n 0, 1) := by decide +kernel
theorem dX5_thingsIfAllowed_41 : decode cX5_thingsIfAllowed 41 = .ok (.iconst 0, 1) := by decide +kernel
theorem dX5_thingsIfAllowed_42 : decode cX5_thingsIfAllowed 42 = .ok (.putfield 53, 3) := by decide +kernel
theorem dX5_thingsIfAllowed_45 : decode cX5_thingsIfAllowed 45 = .ok (.aload_n 0, 1) := by decide +kernel
theorem dX5_thingsIfAllowed_46 : decode cX5_thingsIfAllowed 46 = .ok (.iload_n 3, 1) := by decide +kernel
theorem dX5_thingsIfAllowed_47 : decode cX5_thingsIfAllowed 47 = .ok (.putfield 50, 3) := by decide +kernel
theorem dX5_thingsIfAllowed_50 : decode cX5_thingsIfAllowed 50 = .ok (.aload_n 0, 1) := by decide +kernel
theorem dX5_thingsIfAllowed_51 : decode cX5_thingsIfAllowed 51 = .ok (.invokevirtual 119, 3) := by decide +kernel
theorem dX5_thingsIfAllowed_54 : decode cX5_thingsIfAllowed 54 = .ok (.istore 4, 2) := by decide +kernel
theorem dX5_thingsIfAllowed_56 : decode cX5_thingsIfAllowed 56 = .ok (.aload_n 0, 1) := by decide +kernel
theorem dX5_thingsIfAllowed_57 : decode cX5_thingsIfAllowed 57 = .ok (.iconst (-1), 1) := by decide +kernel
theorem dX5_thingsIfAllowed_58 : decode cX5_thingsIfAllowed 58 = .ok (.putfield 50, 3) := by decide +kernel
theorem dX5_thingsIfAllowed_61 : decode cX5_thingsIfAllowed 61 = .ok (.iload 4, 2) := by decide +kernel
theorem dX5_thingsIfAllowed_63 : decode cX5_thingsIfAllowed 63 = .ok (.ireturn, 1) := by decide +kernel
theorem dX5_weightOf_0 : decode cX5_weightOf 0 = .ok (.aload_n 0, 1) := by decide +kernel
theorem dX5_weightOf_1 : decode cX5_weightOf 1 = .ok (.getfield 9, 3) := by decide +kernel
theorem dX5_weightOf_4 : decode cX5_weightOf 4 = .ok (.aload_n 0, 1) := by decide +kernel
theorem dX5_weightOf_5 : decode cX5_weightOf 5 = .ok (.getfield 13, 3) := by decide +kernel
theorem dX5_weightOf_8 : decode cX5_weightOf 8 = .ok (.iload_n 1, 1) := by decide +kernel
theorem dX5_weightOf_9 : decode cX5_weightOf 9 = .ok (.iaload, 1) := by decide +kernel
theorem dX5_weightOf_10 : decode cX5_weightOf 10 = .ok (.iaload, 1) := by decide +kernel
theorem dX5_weightOf_11 : decode cX5_weightOf 11 = .ok (.aload_n 0, 1) := by decide +kernel
theorem dX5_weightOf_12 : decode cX5_weightOf 12 = .ok (.getfield 73, 3) := by decide +kernel
theorem dX5_weightOf_15 : decode cX5_weightOf 15 = .ok (.aload_n 0, 1) := by decide +kernel
theorem dX5_weightOf_16 : decode cX5_weightOf 16 = .ok (.getfield 16, 3) := by decide +kernel
theorem dX5_weightOf_19 : decode cX5_weightOf 19 = .ok (.iload_n 1, 1) := by decide +kernel
theorem dX5_weightOf_20 : decode cX5_weightOf 20 = .ok (.iaload, 1) := by decide +kernel
theorem dX5_weightOf_21 : decode cX5_weightOf 21 = .ok (.isub, 1) := by decide +kernel
theorem dX5_weightOf_22 : decode cX5_weightOf 22 = .ok (.bipush 10, 2) := by decide +kernel
theorem dX5_weightOf_24 : decode cX5_weightOf 24 = .ok (.idiv, 1) := by decide +kernel
theorem dX5_weightOf_25 : decode cX5_weightOf 25 = .ok (.isub, 1) := by decide +kernel
theorem dX5_weightOf_26 : decode cX5_weightOf 26 = .ok (.ireturn, 1) := by decide +kernel
theorem dX5_weight_0 : decode cX5_weight 0 = .ok (.aload_n 0, 1) := by decide +kernel
theorem dX5_weight_1 : decode cX5_weight 1 = .ok (.iload_n 1, 1) := by decide +kernel
theorem dX5_weight_2 : decode cX5_weight 2 = .ok (.invokevirtual 76, 3) := by decide +kernel
theorem dX5_weight_5 : decode cX5_weight 5 = .ok (.ifCond .eq 7, 3) := by decide +kernel
theorem dX5_weight_8 : decode cX5_weight 8 = .ok (.iconst 0, 1) := by decide +kernel
theorem dX5_weight_9 : decode cX5_weight 9 = .ok (.goto 8, 3) := by decide +kernel
theorem dX5_weight_12 : decode cX5_weight 12 = .ok (.aload_n 0, 1) := by decide +kernel
theorem dX5_weight_13 : decode cX5_weight 13 = .ok (.iload_n 1, 1) := by decide +kernel
theorem dX5_weight_14 : decode cX5_weight 14 = .ok (.invokevirtual 132, 3) := by decide +kernel
theorem dX5_weight_17 : decode cX5_weight 17 = .ok (.ireturn, 1) := by decide +kernel
theorem dX5_isAhead_0 : decode cX5_isAhead 0 = .ok (.aload_n 0, 1) := by decide +kernel
theorem dX5_isAhead_1 : decode cX5_isAhead 1 = .ok (.iload_n 1, 1) := by decide +kernel
theorem dX5_isAhead_2 : decode cX5_isAhead 2 = .ok (.invokevirtual 132, 3) := by decide +kernel
theorem dX5_isAhead_5 : decode cX5_isAhead 5 = .ok (.aload_n 0, 1) := by decide +kernel
theorem dX5_isAhead_6 : decode cX5_isAhead 6 = .ok (.iload_n 2, 1) := by decide +kernel
theorem dX5_isAhead_7 : decode cX5_isAhead 7 = .ok (.invokevirtual 132, 3) := by decide +kernel
theorem dX5_isAhead_10 : decode cX5_isAhead 10 = .ok (.if_icmp .eq 22, 3) := by decide +kernel
theorem dX5_isAhead_13 : decode cX5_isAhead 13 = .ok (.aload_n 0, 1) := by decide +kernel
theorem dX5_isAhead_14 : decode cX5_isAhead 14 = .ok (.iload_n 1, 1) := by decide +kernel
theorem dX5_isAhead_15 : decode cX5_isAhead 15 = .ok (.invokevirtual 132, 3) := by decide +kernel
theorem dX5_isAhead_18 : decode cX5_isAhead 18 = .ok (.aload_n 0, 1) := by decide +kernel
theorem dX5_isAhead_19 : decode cX5_isAhead 19 = .ok (.iload_n 2, 1) := by decide +kernel
theorem dX5_isAhead_20 : decode cX5_isAhead 20 = .ok (.invokevirtual 132, 3) := by decide +kernel
theorem dX5_isAhead_23 : decode cX5_isAhead 23 = .ok (.if_icmp .le 7, 3) := by decide +kernel
theorem dX5_isAhead_26 : decode cX5_isAhead 26 = .ok (.iconst 1, 1) := by decide +kernel
theorem dX5_isAhead_27 : decode cX5_isAhead 27 = .ok (.goto 4, 3) := by decide +kernel
theorem dX5_isAhead_30 : decode cX5_isAhead 30 = .ok (.iconst 0, 1) := by decide +kernel
theorem dX5_isAhead_31 : decode cX5_isAhead 31 = .ok (.ireturn, 1) := by decide +kernel
theorem dX5_isAhead_32 : decode cX5_isAhead 32 = .ok (.aload_n 0, 1) := by decide +kernel
theorem dX5_isAhead_33 : decode cX5_isAhead 33 = .ok (.getfield 16, 3) := by decide +kernel
theorem dX5_isAhead_36 : decode cX5_isAhead 36 = .ok (.iload_n 1, 1) := by decide +kernel
theorem dX5_isAhead_37 : decode cX5_isAhead 37 = .ok (.iaload, 1) := by decide +kernel
theorem dX5_isAhead_38 : decode cX5_isAhead 38 = .ok (.aload_n 0, 1) := by decide +kernel
theorem dX5_isAhead_39 : decode cX5_isAhead 39 = .ok (.getfield 16, 3) := by decide +kernel
theorem dX5_isAhead_42 : decode cX5_isAhead 42 = .ok (.iload_n 2, 1) := by decide +kernel
theorem dX5_isAhead_43 : decode cX5_isAhead 43 = .ok (.iaload, 1) := by decide +kernel
theorem dX5_isAhead_44 : decode cX5_isAhead 44 = .ok (.if_icmp .eq 26, 3) := by decide +kernel
theorem dX5_isAhead_47 : decode cX5_isAhead 47 = .ok (.aload_n 0, 1) := by decide +kernel
theorem dX5_isAhead_48 : decode cX5_isAhead 48 = .ok (.getfield 16, 3) := by decide +kernel
theorem dX5_isAhead_51 : decode cX5_isAhead 51 = .ok (.iload_n 1, 1) := by decide +kernel
theorem dX5_isAhead_52 : decode cX5_isAhead 52 = .ok (.iaload, 1) := by decide +kernel
theorem dX5_isAhead_53 : decode cX5_isAhead 53 = .ok (.aload_n 0, 1) := by decide +kernel
theorem dX5_isAhead_54 : decode cX5_isAhead 54 = .ok (.getfield 16, 3) := by decide +kernel
theorem dX5_isAhead_57 : decode cX5_isAhead 57 = .ok (.iload_n 2, 1) := by decide +kernel
theorem dX5_isAhead_58 : decode cX5_isAhead 58 = .ok (.iaload, 1) := by decide +kernel
theorem dX5_isAhead_59 : decode cX5_isAhead 59 = .ok (.if_icmp .le 7, 3) := by decide +kernel
theorem dX5_isAhead_62 : decode cX5_isAhead 62 = .ok (.iconst 1, 1) := by decide +kernel
theorem dX5_isAhead_63 : decode cX5_isAhead 63 = .ok (.goto 17, 3) := by decide +kernel
theorem dX5_isAhead_66 : decode cX5_isAhead 66 = .ok (.iconst 0, 1) := by decide +kernel
theorem dX5_isAhead_67 : decode cX5_isAhead 67 = .ok (.goto 13, 3) := by decide +kernel
theorem dX5_isAhead_70 : decode cX5_isAhead 70 = .ok (.iload_n 1, 1) := by decide +kernel
theorem dX5_isAhead_71 : decode cX5_isAhead 71 = .ok (.iload_n 2, 1) := by decide +kernel
theorem dX5_isAhead_72 : decode cX5_isAhead 72 = .ok (.if_icmp .le 7, 3) := by decide +kernel
theorem dX5_isAhead_75 : decode cX5_isAhead 75 = .ok (.iconst 1, 1) := by decide +kernel
theorem dX5_isAhead_76 : decode cX5_isAhead 76 = .ok (.goto 4, 3) := by decide +kernel
theorem dX5_isAhead_79 : decode cX5_isAhead 79 = .ok (.iconst 0, 1) := by decide +kernel
theorem dX5_isAhead_80 : decode cX5_isAhead 80 = .ok (.ireturn, 1) := by decide +kernel
theorem dX5_teller_0 : decode cX5_teller 0 = .ok (.aload_n 0, 1) := by decide +kernel
theorem dX5_teller_1 : decode cX5_teller 1 = .ok (.aload_n 0, 1) := by decide +kernel
theorem dX5_teller_2 : decode cX5_teller 2 = .ok (.iload_n 1, 1) := by decide +kernel
theorem dX5_teller_3 : decode cX5_teller 3 = .ok (.invokevirtual 63, 3) := by decide +kernel
theorem dX5_teller_6 : decode cX5_teller 6 = .ok (.ifCond .eq 16, 3) := by decide +kernel
theorem dX5_teller_9 : decode cX5_teller 9 = .ok (.iload_n 2, 1) := by decide +kernel
theorem dX5_teller_10 : decode cX5_teller 10 = .ok (.iconst 0, 1) := by decide +kernel
theorem dX5_teller_11 : decode cX5_teller 11 = .ok (.iconst 2, 1) := by decide +kernel
theorem dX5_teller_12 : decode cX5_teller 12 = .ok (.invokestatic 59, 3) := by decide +kernel
theorem dX5_teller_15 : decode cX5_teller 15 = .ok (.ifCond .eq 7, 3) := by decide +kernel
theorem dX5_teller_18 : decode cX5_teller 18 = .ok (.iconst 0, 1) := by decide +kernel
theorem dX5_teller_19 : decode cX5_teller 19 = .ok (.goto 4, 3) := by decide +kernel
theorem dX5_teller_22 : decode cX5_teller 22 = .ok (.iconst 1, 1) := by decide +kernel
theorem dX5_teller_23 : decode cX5_teller 23 = .ok (.putfield 53, 3) := by decide +kernel
theorem dX5_teller_26 : decode cX5_teller 26 = .ok (.aload_n 0, 1) := by decide +kernel
theorem dX5_teller_27 : decode cX5_teller 27 = .ok (.getfield 53, 3) := by decide +kernel
theorem dX5_teller_30 : decode cX5_teller 30 = .ok (.ifCond .le 5, 3) := by decide +kernel
theorem dX5_teller_33 : decode cX5_teller 33 = .ok (.iconst (-1), 1) := by decide +kernel
theorem dX5_teller_34 : decode cX5_teller 34 = .ok (.ireturn, 1) := by decide +kernel
theorem dX5_teller_35 : decode cX5_teller 35 = .ok (.aload_n 0, 1) := by decide +kernel
theorem dX5_teller_36 : decode cX5_teller 36 = .ok (.iconst 2, 1) := by decide +kernel
theorem dX5_teller_37 : decode cX5_teller 37 = .ok (.invokevirtual 113, 3) := by decide +kernel
theorem dX5_teller_40 : decode cX5_teller 40 = .ok (.iconst (-1), 1) := by decide +kernel
theorem dX5_teller_41 : decode cX5_teller 41 = .ok (.istore_n 3, 1) := by decide +kernel
theorem dX5_teller_42 : decode cX5_teller 42 = .ok (.iconst 0, 1) := by decide +kernel
theorem dX5_teller_43 : decode cX5_teller 43 = .ok (.istore 4, 2) := by decide +kernel
theorem dX5_teller_45 : decode cX5_teller 45 = .ok (.iload 4, 2) := by decide +kernel
theorem dX5_teller_47 : decode cX5_teller 47 = .ok (.aload_n 0, 1) := by decide +kernel
theorem dX5_teller_48 : decode cX5_teller 48 = .ok (.getfield 56, 3) := by decide +kernel
theorem dX5_teller_51 : decode cX5_teller 51 = .ok (.if_icmp .ge 55, 3) := by decide +kernel
theorem dX5_teller_54 : decode cX5_teller 54 = .ok (.aload_n 0, 1) := by decide +kernel
theorem dX5_teller_55 : decode cX5_teller 55 = .ok (.iload 4, 2) := by decide +kernel
theorem dX5_teller_57 : decode cX5_teller 57 = .ok (.aload_n 0, 1) := by decide +kernel
theorem dX5_teller_58 : decode cX5_teller 58 = .ok (.getfield 41, 3) := by decide +kernel
theorem dX5_teller_61 : decode cX5_teller 61 = .ok (.iload_n 1, 1) := by decide +kernel
theorem dX5_teller_62 : decode cX5_teller 62 = .ok (.iaload, 1) := by decide +kernel
theorem dX5_teller_63 : decode cX5_teller 63 = .ok (.invokevirtual 122, 3) := by decide +kernel
theorem dX5_teller_66 : decode cX5_teller 66 = .ok (.ifCond .eq 34, 3) := by decide +kernel
theorem dX5_teller_69 : decode cX5_teller 69 = .ok (.aload_n 0, 1) := by decide +kernel
theorem dX5_teller_70 : decode cX5_teller 70 = .ok (.getfield 24, 3) := by decide +kernel
theorem dX5_teller_73 : decode cX5_teller 73 = .ok (.iload 4, 2) := by decide +kernel
theorem dX5_teller_75 : decode cX5_teller 75 = .ok (.aaload, 1) := by decide +kernel
theorem dX5_teller_76 : decode cX5_teller 76 = .ok (.iload_n 2, 1) := by decide +kernel
theorem dX5_teller_77 : decode cX5_teller 77 = .ok (.iaload, 1) := by decide +kernel
theorem dX5_teller_78 : decode cX5_teller 78 = .ok (.iconst (-1), 1) := by decide +kernel
theorem dX5_teller_79 : decode cX5_teller 79 = .ok (.if_icmp .eq 21, 3) := by decide +kernel
theorem dX5_teller_82 : decode cX5_teller 82 = .ok (.iload_n 3, 1) := by decide +kernel
theorem dX5_teller_83 : decode cX5_teller 83 = .ok (.iconst (-1), 1) := by decide +kernel
theorem dX5_teller_84 : decode cX5_teller 84 = .ok (.if_icmp .eq 13, 3) := by decide +kernel
theorem dX5_teller_87 : decode cX5_teller 87 = .ok (.aload_n 0, 1) := by decide +kernel
theorem dX5_teller_88 : decode cX5_teller 88 = .ok (.iload 4, 2) := by decide +kernel
theorem dX5_teller_90 : decode cX5_teller 90 = .ok (.iload_n 3, 1) := by decide +kernel
theorem dX5_teller_91 : decode cX5_teller 91 = .ok (.invokevirtual 135, 3) := by decide +kernel
theorem dX5_teller_94 : decode cX5_teller 94 = .ok (.ifCond .eq 6, 3) := by decide +kernel
theorem dX5_teller_97 : decode cX5_teller 97 = .ok (.iload 4, 2) := by decide +kernel
theorem dX5_teller_99 : decode cX5_teller 99 = .ok (.istore_n 3, 1) := by decide +kernel
theorem dX5_teller_100 : decode cX5_teller 100 = .ok (.iinc 4 1, 3) := by decide +kernel
theorem dX5_teller_103 : decode cX5_teller 103 = .ok (.goto (-58), 3) := by decide +kernel
theorem dX5_teller_106 : decode cX5_teller 106 = .ok (.aload_n 0, 1) := by decide +kernel
theorem dX5_teller_107 : decode cX5_teller 107 = .ok (.iload_n 3, 1) := by decide +kernel
theorem dX5_teller_108 : decode cX5_teller 108 = .ok (.iconst (-1), 1) := by decide +kernel
theorem dX5_teller_109 : decode cX5_teller 109 = .ok (.if_icmp .ne 7, 3) := by decide +kernel
theorem dX5_teller_112 : decode cX5_teller 112 = .ok (.iconst 2, 1) := by decide +kernel
theorem dX5_teller_113 : decode cX5_teller 113 = .ok (.goto 4, 3) := by decide +kernel
theorem dX5_teller_116 : decode cX5_teller 116 = .ok (.iconst 0, 1) := by decide +kernel
theorem dX5_teller_117 : decode cX5_teller 117 = .ok (.putfield 53, 3) := by decide +kernel
theorem dX5_teller_120 : decode cX5_teller 120 = .ok (.iload_n 3, 1) := by decide +kernel
theorem dX5_teller_121 : decode cX5_teller 121 = .ok (.ireturn, 1) := by decide +kernel
theorem dX5_fact_0 : decode cX5_fact 0 = .ok (.aload_n 0, 1) := by decide +kernel
theorem dX5_fact_1 : decode cX5_fact 1 = .ok (.iload_n 1, 1) := by decide +kernel
theorem dX5_fact_2 : decode cX5_fact 2 = .ok (.iload_n 2, 1) := by decide +kernel
theorem dX5_fact_3 : decode cX5_fact 3 = .ok (.invokevirtual 138, 3) := by decide +kernel
theorem dX5_fact_6 : decode cX5_fact 6 = .ok (.istore_n 3, 1) := by decide +kernel
theorem dX5_fact_7 : decode cX5_fact 7 = .ok (.iload_n 3, 1) := by decide +kernel
theorem dX5_fact_8 : decode cX5_fact 8 = .ok (.iconst (-1), 1) := by decide +kernel
theorem dX5_fact_9 : decode cX5_fact 9 = .ok (.if_icmp .ne 7, 3) := by decide +kernel
theorem dX5_fact_12 : decode cX5_fact 12 = .ok (.iconst 0, 1) := by decide +kernel
theorem dX5_fact_13 : decode cX5_fact 13 = .ok (.goto 11, 3) := by decide +kernel
theorem dX5_fact_16 : decode cX5_fact 16 = .ok (.aload_n 0, 1) := by decide +kernel
theorem dX5_fact_17 : decode cX5_fact 17 = .ok (.getfield 24, 3) := by decide +kernel
theorem dX5_fact_20 : decode cX5_fact 20 = .ok (.iload_n 3, 1) := by decide +kernel
theorem dX5_fact_21 : decode cX5_fact 21 = .ok (.aaload, 1) := by decide +kernel
theorem dX5_fact_22 : decode cX5_fact 22 = .ok (.iload_n 2, 1) := by decide +kernel
theorem dX5_fact_23 : decode cX5_fact 23 = .ok (.iaload, 1) := by decide +kernel
theorem dX5_fact_24 : decode cX5_fact 24 = .ok (.ireturn, 1) := by decide +kernel
theorem dX5_factByPairs_0 : decode cX5_factByPairs 0 = .ok (.aload_n 0, 1) := by decide +kernel
theorem dX5_factByPairs_1 : decode cX5_factByPairs 1 = .ok (.iload_n 1, 1) := by decide +kernel
theorem dX5_factByPairs_2 : decode cX5_factByPairs 2 = .ok (.iload_n 2, 1) := by decide +kernel
theorem dX5_factByPairs_3 : decode cX5_factByPairs 3 = .ok (.invokevirtual 141, 3) := by decide +kernel
theorem dX5_factByPairs_6 : decode cX5_factByPairs 6 = .ok (.ireturn, 1) := by decide +kernel
theorem dX5_factFrom_0 : decode cX5_factFrom 0 = .ok (.aload_n 0, 1) := by decide +kernel
theorem dX5_factFrom_1 : decode cX5_factFrom 1 = .ok (.iload_n 1, 1) := by decide +kernel
theorem dX5_factFrom_2 : decode cX5_factFrom 2 = .ok (.iload_n 2, 1) := by decide +kernel
theorem dX5_factFrom_3 : decode cX5_factFrom 3 = .ok (.invokevirtual 138, 3) := by decide +kernel
theorem dX5_factFrom_6 : decode cX5_factFrom 6 = .ok (.istore_n 3, 1) := by decide +kernel
theorem dX5_factFrom_7 : decode cX5_factFrom 7 = .ok (.iload_n 3, 1) := by decide +kernel
theorem dX5_factFrom_8 : decode cX5_factFrom 8 = .ok (.iconst (-1), 1) := by decide +kernel
theorem dX5_factFrom_9 : decode cX5_factFrom 9 = .ok (.if_icmp .ne 7, 3) := by decide +kernel
theorem dX5_factFrom_12 : decode cX5_factFrom 12 = .ok (.iconst 0, 1) := by decide +kernel
theorem dX5_factFrom_13 : decode cX5_factFrom 13 = .ok (.goto 4, 3) := by decide +kernel
theorem dX5_factFrom_16 : decode cX5_factFrom 16 = .ok (.iload_n 3, 1) := by decide +kernel
theorem dX5_factFrom_17 : decode cX5_factFrom 17 = .ok (.ireturn, 1) := by decide +kernel
theorem dX5_agreement_0 : decode cX5_agreement 0 = .ok (.aload_n 0, 1) := by decide +kernel
theorem dX5_agreement_1 : decode cX5_agreement 1 = .ok (.iload_n 1, 1) := by decide +kernel
theorem dX5_agreement_2 : decode cX5_agreement 2 = .ok (.iload_n 2, 1) := by decide +kernel
theorem dX5_agreement_3 : decode cX5_agreement 3 = .ok (.invokevirtual 138, 3) := by decide +kernel
theorem dX5_agreement_6 : decode cX5_agreement 6 = .ok (.istore_n 3, 1) := by decide +kernel
theorem dX5_agreement_7 : decode cX5_agreement 7 = .ok (.iconst 0, 1) := by decide +kernel
theorem dX5_agreement_8 : decode cX5_agreement 8 = .ok (.istore 4, 2) := by decide +kernel
theorem dX5_agreement_10 : decode cX5_agreement 10 = .ok (.iconst 0, 1) := by decide +kernel
theorem dX5_agreement_11 : decode cX5_agreement 11 = .ok (.istore 5, 2) := by decide +kernel
theorem dX5_agreement_13 : decode cX5_agreement 13 = .ok (.iconst 0, 1) := by decide +kernel
theorem dX5_agreement_14 : decode cX5_agreement 14 = .ok (.istore 6, 2) := by decide +kernel
theorem dX5_agreement_16 : decode cX5_agreement 16 = .ok (.iload 6, 2) := by decide +kernel
theorem dX5_agreement_18 : decode cX5_agreement 18 = .ok (.aload_n 0, 1) := by decide +kernel
theorem dX5_agreement_19 : decode cX5_agreement 19 = .ok (.getfield 56, 3) := by decide +kernel
theorem dX5_agreement_22 : decode cX5_agreement 22 = .ok (.if_icmp .ge 99, 3) := by decide +kernel
theorem dX5_agreement_25 : decode cX5_agreement 25 = .ok (.iload_n 3, 1) := by decide +kernel
theorem dX5_agreement_26 : decode cX5_agreement 26 = .ok (.iconst (-1), 1) := by decide +kernel
theorem dX5_agreement_27 : decode cX5_agreement 27 = .ok (.if_icmp .eq 94, 3) := by decide +kernel
theorem dX5_agreement_30 : decode cX5_agreement 30 = .ok (.aload_n 0, 1) := by decide +kernel
theorem dX5_agreement_31 : decode cX5_agreement 31 = .ok (.iload 6, 2) := by decide +kernel
theorem dX5_agreement_33 : decode cX5_agreement 33 = .ok (.aload_n 0, 1) := by decide +kernel
theorem dX5_agreement_34 : decode cX5_agreement 34 = .ok (.getfield 41, 3) := by decide +kernel
theorem dX5_agreement_37 : decode cX5_agreement 37 = .ok (.iload_n 1, 1) := by decide +kernel
theorem dX5_agreement_38 : decode cX5_agreement 38 = .ok (.iaload, 1) := by decide +kernel
theorem dX5_agreement_39 : decode cX5_agreement 39 = .ok (.invokevirtual 122, 3) := by decide +kernel
theorem dX5_agreement_42 : decode cX5_agreement 42 = .ok (.ifCond .eq 20, 3) := by decide +kernel
theorem dX5_agreement_45 : decode cX5_agreement 45 = .ok (.aload_n 0, 1) := by decide +kernel
theorem dX5_agreement_46 : decode cX5_agreement 46 = .ok (.getfield 24, 3) := by decide +kernel
theorem dX5_agreement_49 : decode cX5_agreement 49 = .ok (.iload 6, 2) := by decide +kernel
theorem dX5_agreement_51 : decode cX5_agreement 51 = .ok (.aaload, 1) := by decide +kernel
theorem dX5_agreement_52 : decode cX5_agreement 52 = .ok (.iload_n 2, 1) := by decide +kernel
theorem dX5_agreement_53 : decode cX5_agreement 53 = .ok (.iaload, 1) := by decide +kernel
theorem dX5_agreement_54 : decode cX5_agreement 54 = .ok (.iconst (-1), 1) := by decide +kernel
theorem dX5_agreement_55 : decode cX5_agreement 55 = .ok (.if_icmp .eq 7, 3) := by decide +kernel
theorem dX5_agreement_58 : decode cX5_agreement 58 = .ok (.iconst 1, 1) := by decide +kernel
theorem dX5_agreement_59 : decode cX5_agreement 59 = .ok (.goto 4, 3) := by decide +kernel
theorem dX5_agreement_62 : decode cX5_agreement 62 = .ok (.iconst 0, 1) := by decide +kernel
theorem dX5_agreement_63 : decode cX5_agreement 63 = .ok (.istore 7, 2) := by decide +kernel
theorem dX5_agreement_65 : decode cX5_agreement 65 = .ok (.iload 4, 2) := by decide +kernel
theorem dX5_agreement_67 : decode cX5_agreement 67 = .ok (.iload 7, 2) := by decide +kernel
theorem dX5_agreement_69 : decode cX5_agreement 69 = .ok (.ifCond .eq 7, 3) := by decide +kernel
theorem dX5_agreement_72 : decode cX5_agreement 72 = .ok (.iconst 1, 1) := by decide +kernel
theorem dX5_agreement_73 : decode cX5_agreement 73 = .ok (.goto 4, 3) := by decide +kernel
theorem dX5_agreement_76 : decode cX5_agreement 76 = .ok (.iconst 0, 1) := by decide +kernel
theorem dX5_agreement_77 : decode cX5_agreement 77 = .ok (.iadd, 1) := by decide +kernel
theorem dX5_agreement_78 : decode cX5_agreement 78 = .ok (.istore 4, 2) := by decide +kernel
theorem dX5_agreement_80 : decode cX5_agreement 80 = .ok (.iload 5, 2) := by decide +kernel
theorem dX5_agreement_82 : decode cX5_agreement 82 = .ok (.iload 7, 2) := by decide +kernel
theorem dX5_agreement_84 : decode cX5_agreement 84 = .ok (.ifCond .eq 27, 3) := by decide +kernel
theorem dX5_agreement_87 : decode cX5_agreement 87 = .ok (.aload_n 0, 1) := by decide +kernel
theorem dX5_agreement_88 : decode cX5_agreement 88 = .ok (.getfield 24, 3) := by decide +kernel
theorem dX5_agreement_91 : decode cX5_agreement 91 = .ok (.iload 6, 2) := by decide +kernel
theorem dX5_agreement_93 : decode cX5_agreement 93 = .ok (.aaload, 1) := by decide +kernel
theorem dX5_agreement_94 : decode cX5_agreement 94 = .ok (.iload_n 2, 1) := by decide +kernel
theorem dX5_agreement_95 : decode cX5_agreement 95 = .ok (.iaload, 1) := by decide +kernel
theorem dX5_agreement_96 : decode cX5_agreement 96 = .ok (.aload_n 0, 1) := by decide +kernel
theorem dX5_agreement_97 : decode cX5_agreement 97 = .ok (.getfield 24, 3) := by decide +kernel
theorem dX5_agreement_100 : decode cX5_agreement 100 = .ok (.iload_n 3, 1) := by decide +kernel
theorem dX5_agreement_101 : decode cX5_agreement 101 = .ok (.aaload, 1) := by decide +kernel
theorem dX5_agreement_102 : decode cX5_agreement 102 = .ok (.iload_n 2, 1) := by decide +kernel
theorem dX5_agreement_103 : decode cX5_agreement 103 = .ok (.iaload, 1) := by decide +kernel
theorem dX5_agreement_104 : decode cX5_agreement 104 = .ok (.if_icmp .ne 7, 3) := by decide +kernel
theorem dX5_agreement_107 : decode cX5_agreement 107 = .ok (.iconst 1, 1) := by decide +kernel
theorem dX5_agreement_108 : decode cX5_agreement 108 = .ok (.goto 4, 3) := by decide +kernel
theorem dX5_agreement_111 : decode cX5_agreement 111 = .ok (.iconst 0, 1) := by decide +kernel
theorem dX5_agreement_112 : decode cX5_agreement 112 = .ok (.iadd, 1) := by decide +kernel
theorem dX5_agreement_113 : decode cX5_agreement 113 = .ok (.istore 5, 2) := by decide +kernel
theorem dX5_agreement_115 : decode cX5_agreement 115 = .ok (.iinc 6 1, 3) := by decide +kernel
theorem dX5_agreement_118 : decode cX5_agreement 118 = .ok (.goto (-102), 3) := by decide +kernel
theorem dX5_agreement_121 : decode cX5_agreement 121 = .ok (.iload_n 3, 1) := by decide +kernel
theorem dX5_agreement_122 : decode cX5_agreement 122 = .ok (.iconst (-1), 1) := by decide +kernel
theorem dX5_agreement_123 : decode cX5_agreement 123 = .ok (.if_icmp .ne 7, 3) := by decide +kernel
theorem dX5_agreement_126 : decode cX5_agreement 126 = .ok (.fconst 0, 1) := by decide +kernel
theorem dX5_agreement_127 : decode cX5_agreement 127 = .ok (.goto 10, 3) := by decide +kernel
theorem dX5_agreement_130 : decode cX5_agreement 130 = .ok (.iload 5, 2) := by decide +kernel
theorem dX5_agreement_132 : decode cX5_agreement 132 = .ok (.i2f, 1) := by decide +kernel
theorem dX5_agreement_133 : decode cX5_agreement 133 = .ok (.iload 4, 2) := by decide +kernel
theorem dX5_agreement_135 : decode cX5_agreement 135 = .ok (.i2f, 1) := by decide +kernel
theorem dX5_agreement_136 : decode cX5_agreement 136 = .ok (.fdiv, 1) := by decide +kernel
theorem dX5_agreement_137 : decode cX5_agreement 137 = .ok (.freturn, 1) := by decide +kernel
theorem dX5_setLimit_0 : decode cX5_setLimit 0 = .ok (.aload_n 0, 1) := by decide +kernel
theorem dX5_setLimit_1 : decode cX5_setLimit 1 = .ok (.iload_n 1, 1) := by decide +kernel
theorem dX5_setLimit_2 : decode cX5_setLimit 2 = .ok (.iconst 1, 1) := by decide +kernel
theorem dX5_setLimit_3 : decode cX5_setLimit 3 = .ok (.bipush 99, 2) := by decide +kernel
theorem dX5_setLimit_5 : decode cX5_setLimit 5 = .ok (.invokestatic 59, 3) := by decide +kernel
theorem dX5_setLimit_8 : decode cX5_setLimit 8 = .ok (.ifCond .eq 7, 3) := by decide +kernel
theorem dX5_setLimit_11 : decode cX5_setLimit 11 = .ok (.iconst 0, 1) := by decide +kernel
theorem dX5_setLimit_12 : decode cX5_setLimit 12 = .ok (.goto 4, 3) := by decide +kernel
theorem dX5_setLimit_15 : decode cX5_setLimit 15 = .ok (.iconst 1, 1) := by decide +kernel
theorem dX5_setLimit_16 : decode cX5_setLimit 16 = .ok (.putfield 53, 3) := by decide +kernel
theorem dX5_setLimit_19 : decode cX5_setLimit 19 = .ok (.aload_n 0, 1) := by decide +kernel
theorem dX5_setLimit_20 : decode cX5_setLimit 20 = .ok (.getfield 53, 3) := by decide +kernel
theorem dX5_setLimit_23 : decode cX5_setLimit 23 = .ok (.ifCond .le 5, 3) := by decide +kernel
theorem dX5_setLimit_26 : decode cX5_setLimit 26 = .ok (.iconst 0, 1) := by decide +kernel
theorem dX5_setLimit_27 : decode cX5_setLimit 27 = .ok (.ireturn, 1) := by decide +kernel
theorem dX5_setLimit_28 : decode cX5_setLimit 28 = .ok (.aload_n 0, 1) := by decide +kernel
theorem dX5_setLimit_29 : decode cX5_setLimit 29 = .ok (.getfield 37, 3) := by decide +kernel
theorem dX5_setLimit_32 : decode cX5_setLimit 32 = .ok (.istore_n 2, 1) := by decide +kernel
theorem dX5_setLimit_33 : decode cX5_setLimit 33 = .ok (.aload_n 0, 1) := by decide +kernel
theorem dX5_setLimit_34 : decode cX5_setLimit 34 = .ok (.iload_n 1, 1) := by decide +kernel
theorem dX5_setLimit_35 : decode cX5_setLimit 35 = .ok (.putfield 37, 3) := by decide +kernel
theorem dX5_setLimit_38 : decode cX5_setLimit 38 = .ok (.iload_n 2, 1) := by decide +kernel
theorem dX5_setLimit_39 : decode cX5_setLimit 39 = .ok (.ireturn, 1) := by decide +kernel
theorem dX5_lastOf_0 : decode cX5_lastOf 0 = .ok (.iconst (-1), 1) := by decide +kernel
theorem dX5_lastOf_1 : decode cX5_lastOf 1 = .ok (.istore_n 2, 1) := by decide +kernel
theorem dX5_lastOf_2 : decode cX5_lastOf 2 = .ok (.iconst 0, 1) := by decide +kernel
theorem dX5_lastOf_3 : decode cX5_lastOf 3 = .ok (.istore_n 3, 1) := by decide +kernel
theorem dX5_lastOf_4 : decode cX5_lastOf 4 = .ok (.iload_n 3, 1) := by decide +kernel
theorem dX5_lastOf_5 : decode cX5_lastOf 5 = .ok (.aload_n 0, 1) := by decide +kernel
theorem dX5_lastOf_6 : decode cX5_lastOf 6 = .ok (.getfield 56, 3) := by decide +kernel
theorem dX5_lastOf_9 : decode cX5_lastOf 9 = .ok (.if_icmp .ge 33, 3) := by decide +kernel
theorem dX5_lastOf_12 : decode cX5_lastOf 12 = .ok (.aload_n 0, 1) := by decide +kernel
theorem dX5_lastOf_13 : decode cX5_lastOf 13 = .ok (.iload_n 3, 1) := by decide +kernel
theorem dX5_lastOf_14 : decode cX5_lastOf 14 = .ok (.iload_n 1, 1) := by decide +kernel
theorem dX5_lastOf_15 : decode cX5_lastOf 15 = .ok (.invokevirtual 122, 3) := by decide +kernel
theorem dX5_lastOf_18 : decode cX5_lastOf 18 = .ok (.ifCond .eq 16, 3) := by decide +kernel
theorem dX5_lastOf_21 : decode cX5_lastOf 21 = .ok (.iload_n 2, 1) := by decide +kernel
theorem dX5_lastOf_22 : decode cX5_lastOf 22 = .ok (.aload_n 0, 1) := by decide +kernel
theorem dX5_lastOf_23 : decode cX5_lastOf 23 = .ok (.getfield 16, 3) := by decide +kernel
theorem dX5_lastOf_26 : decode cX5_lastOf 26 = .ok (.iload_n 3, 1) := by decide +kernel
theorem dX5_lastOf_27 : decode cX5_lastOf 27 = .ok (.iaload, 1) := by decide +kernel
theorem dX5_lastOf_28 : decode cX5_lastOf 28 = .ok (.invokestatic 144, 3) := by decide +kernel
theorem dX5_lastOf_31 : decode cX5_lastOf 31 = .ok (.goto 4, 3) := by decide +kernel
theorem dX5_lastOf_34 : decode cX5_lastOf 34 = .ok (.iload_n 2, 1) := by decide +kernel
theorem dX5_lastOf_35 : decode cX5_lastOf 35 = .ok (.istore_n 2, 1) := by decide +kernel
theorem dX5_lastOf_36 : decode cX5_lastOf 36 = .ok (.iinc 3 1, 3) := by decide +kernel
theorem dX5_lastOf_39 : decode cX5_lastOf 39 = .ok (.goto (-35), 3) := by decide +kernel
theorem dX5_lastOf_42 : decode cX5_lastOf 42 = .ok (.iload_n 2, 1) := by decide +kernel
theorem dX5_lastOf_43 : decode cX5_lastOf 43 = .ok (.ireturn, 1) := by decide +kernel
theorem dX5_isGhost_0 : decode cX5_isGhost 0 = .ok (.aload_n 0, 1) := by decide +kernel
theorem dX5_isGhost_1 : decode cX5_isGhost 1 = .ok (.iload_n 1, 1) := by decide +kernel
theorem dX5_isGhost_2 : decode cX5_isGhost 2 = .ok (.invokevirtual 76, 3) := by decide +kernel
theorem dX5_isGhost_5 : decode cX5_isGhost 5 = .ok (.ifCond .eq 5, 3) := by decide +kernel
theorem dX5_isGhost_8 : decode cX5_isGhost 8 = .ok (.iconst 0, 1) := by decide +kernel
theorem dX5_isGhost_9 : decode cX5_isGhost 9 = .ok (.ireturn, 1) := by decide +kernel
theorem dX5_isGhost_10 : decode cX5_isGhost 10 = .ok (.aload_n 0, 1) := by decide +kernel
theorem dX5_isGhost_11 : decode cX5_isGhost 11 = .ok (.iconst 2, 1) := by decide +kernel
theorem dX5_isGhost_12 : decode cX5_isGhost 12 = .ok (.invokevirtual 113, 3) := by decide +kernel
theorem dX5_isGhost_15 : decode cX5_isGhost 15 = .ok (.aload_n 0, 1) := by decide +kernel
theorem dX5_isGhost_16 : decode cX5_isGhost 16 = .ok (.getfield 73, 3) := by decide +kernel
theorem dX5_isGhost_19 : decode cX5_isGhost 19 = .ok (.aload_n 0, 1) := by decide +kernel
theorem dX5_isGhost_20 : decode cX5_isGhost 20 = .ok (.aload_n 0, 1) := by decide +kernel
theorem dX5_isGhost_21 : decode cX5_isGhost 21 = .ok (.getfield 41, 3) := by decide +kernel
theorem dX5_isGhost_24 : decode cX5_isGhost 24 = .ok (.iload_n 1, 1) := by decide +kernel
theorem dX5_isGhost_25 : decode cX5_isGhost 25 = .ok (.iaload, 1) := by decide +kernel
theorem dX5_isGhost_26 : decode cX5_isGhost 26 = .ok (.invokevirtual 149, 3) := by decide +kernel
theorem dX5_isGhost_29 : decode cX5_isGhost 29 = .ok (.isub, 1) := by decide +kernel
theorem dX5_isGhost_30 : decode cX5_isGhost 30 = .ok (.aload_n 0, 1) := by decide +kernel
theorem dX5_isGhost_31 : decode cX5_isGhost 31 = .ok (.getfield 37, 3) := by decide +kernel
theorem dX5_isGhost_34 : decode cX5_isGhost 34 = .ok (.if_icmp .le 7, 3) := by decide +kernel
theorem dX5_isGhost_37 : decode cX5_isGhost 37 = .ok (.iconst 1, 1) := by decide +kernel
theorem dX5_isGhost_38 : decode cX5_isGhost 38 = .ok (.goto 4, 3) := by decide +kernel
theorem dX5_isGhost_41 : decode cX5_isGhost 41 = .ok (.iconst 0, 1) := by decide +kernel
theorem dX5_isGhost_42 : decode cX5_isGhost 42 = .ok (.ireturn, 1) := by decide +kernel
theorem dX5_ghosts_0 : decode cX5_ghosts 0 = .ok (.aload_n 0, 1) := by decide +kernel
theorem dX5_ghosts_1 : decode cX5_ghosts 1 = .ok (.iconst 0, 1) := by decide +kernel
theorem dX5_ghosts_2 : decode cX5_ghosts 2 = .ok (.putfield 53, 3) := by decide +kernel
theorem dX5_ghosts_5 : decode cX5_ghosts 5 = .ok (.aload_n 0, 1) := by decide +kernel
theorem dX5_ghosts_6 : decode cX5_ghosts 6 = .ok (.iconst 2, 1) := by decide +kernel
theorem dX5_ghosts_7 : decode cX5_ghosts 7 = .ok (.invokevirtual 113, 3) := by decide +kernel
theorem dX5_ghosts_10 : decode cX5_ghosts 10 = .ok (.iconst 0, 1) := by decide +kernel
theorem dX5_ghosts_11 : decode cX5_ghosts 11 = .ok (.istore_n 1, 1) := by decide +kernel
theorem dX5_ghosts_12 : decode cX5_ghosts 12 = .ok (.iconst 0, 1) := by decide +kernel
theorem dX5_ghosts_13 : decode cX5_ghosts 13 = .ok (.istore_n 2, 1) := by decide +kernel
theorem dX5_ghosts_14 : decode cX5_ghosts 14 = .ok (.iload_n 2, 1) := by decide +kernel
theorem dX5_ghosts_15 : decode cX5_ghosts 15 = .ok (.aload_n 0, 1) := by decide +kernel
theorem dX5_ghosts_16 : decode cX5_ghosts 16 = .ok (.getfield 56, 3) := by decide +kernel
theorem dX5_ghosts_19 : decode cX5_ghosts 19 = .ok (.if_icmp .ge 43, 3) := by decide +kernel
theorem dX5_ghosts_22 : decode cX5_ghosts 22 = .ok (.iload_n 1, 1) := by decide +kernel
theorem dX5_ghosts_23 : decode cX5_ghosts 23 = .ok (.aload_n 0, 1) := by decide +kernel
theorem dX5_ghosts_24 : decode cX5_ghosts 24 = .ok (.iload_n 2, 1) := by decide +kernel
theorem dX5_ghosts_25 : decode cX5_ghosts 25 = .ok (.iload_n 2, 1) := by decide +kernel
theorem dX5_ghosts_26 : decode cX5_ghosts 26 = .ok (.invokevirtual 122, 3) := by decide +kernel
theorem dX5_ghosts_29 : decode cX5_ghosts 29 = .ok (.ifCond .eq 24, 3) := by decide +kernel
theorem dX5_ghosts_32 : decode cX5_ghosts 32 = .ok (.aload_n 0, 1) := by decide +kernel
theorem dX5_ghosts_33 : decode cX5_ghosts 33 = .ok (.getfield 73, 3) := by decide +kernel
theorem dX5_ghosts_36 : decode cX5_ghosts 36 = .ok (.aload_n 0, 1) := by decide +kernel
theorem dX5_ghosts_37 : decode cX5_ghosts 37 = .ok (.iload_n 2, 1) := by decide +kernel
theorem dX5_ghosts_38 : decode cX5_ghosts 38 = .ok (.invokevirtual 149, 3) := by decide +kernel
theorem dX5_ghosts_41 : decode cX5_ghosts 41 = .ok (.isub, 1) := by decide +kernel
theorem dX5_ghosts_42 : decode cX5_ghosts 42 = .ok (.aload_n 0, 1) := by decide +kernel
theorem dX5_ghosts_43 : decode cX5_ghosts 43 = .ok (.getfield 37, 3) := by decide +kernel
theorem dX5_ghosts_46 : decode cX5_ghosts 46 = .ok (.if_icmp .le 7, 3) := by decide +kernel
theorem dX5_ghosts_49 : decode cX5_ghosts 49 = .ok (.iconst 1, 1) := by decide +kernel
theorem dX5_ghosts_50 : decode cX5_ghosts 50 = .ok (.goto 4, 3) := by decide +kernel
theorem dX5_ghosts_53 : decode cX5_ghosts 53 = .ok (.iconst 0, 1) := by decide +kernel
theorem dX5_ghosts_54 : decode cX5_ghosts 54 = .ok (.iadd, 1) := by decide +kernel
theorem dX5_ghosts_55 : decode cX5_ghosts 55 = .ok (.istore_n 1, 1) := by decide +kernel
theorem dX5_ghosts_56 : decode cX5_ghosts 56 = .ok (.iinc 2 1, 3) := by decide +kernel
theorem dX5_ghosts_59 : decode cX5_ghosts 59 = .ok (.goto (-45), 3) := by decide +kernel
theorem dX5_ghosts_62 : decode cX5_ghosts 62 = .ok (.iload_n 1, 1) := by decide +kernel
theorem dX5_ghosts_63 : decode cX5_ghosts 63 = .ok (.ireturn, 1) := by decide +kernel
theorem dX5_nextGhost_0 : decode cX5_nextGhost 0 = .ok (.aload_n 0, 1) := by decide +kernel
theorem dX5_nextGhost_1 : decode cX5_nextGhost 1 = .ok (.iconst 0, 1) := by decide +kernel
theorem dX5_nextGhost_2 : decode cX5_nextGhost 2 = .ok (.putfield 53, 3) := by decide +kernel
theorem dX5_nextGhost_5 : decode cX5_nextGhost 5 = .ok (.aload_n 0, 1) := by decide +kernel
theorem dX5_nextGhost_6 : decode cX5_nextGhost 6 = .ok (.iconst 2, 1) := by decide +kernel
theorem dX5_nextGhost_7 : decode cX5_nextGhost 7 = .ok (.invokevirtual 113, 3) := by decide +kernel
theorem dX5_nextGhost_10 : decode cX5_nextGhost 10 = .ok (.iconst (-1), 1) := by decide +kernel
theorem dX5_nextGhost_11 : decode cX5_nextGhost 11 = .ok (.istore_n 1, 1) := by decide +kernel
theorem dX5_nextGhost_12 : decode cX5_nextGhost 12 = .ok (.iconst 0, 1) := by decide +kernel
theorem dX5_nextGhost_13 : decode cX5_nextGhost 13 = .ok (.istore_n 2, 1) := by decide +kernel
theorem dX5_nextGhost_14 : decode cX5_nextGhost 14 = .ok (.iload_n 2, 1) := by decide +kernel
theorem dX5_nextGhost_15 : decode cX5_nextGhost 15 = .ok (.aload_n 0, 1) := by decide +kernel
theorem dX5_nextGhost_16 : decode cX5_nextGhost 16 = .ok (.getfield 56, 3) := by decide +kernel
theorem dX5_nextGhost_19 : decode cX5_nextGhost 19 = .ok (.if_icmp .ge 67, 3) := by decide +kernel
theorem dX5_nextGhost_22 : decode cX5_nextGhost 22 = .ok (.aload_n 0, 1) := by decide +kernel
theorem dX5_nextGhost_23 : decode cX5_nextGhost 23 = .ok (.iload_n 2, 1) := by decide +kernel
theorem dX5_nextGhost_24 : decode cX5_nextGhost 24 = .ok (.iload_n 2, 1) := by decide +kernel
theorem dX5_nextGhost_25 : decode cX5_nextGhost 25 = .ok (.invokevirtual 122, 3) := by decide +kernel
theorem dX5_nextGhost_28 : decode cX5_nextGhost 28 = .ok (.ifCond .eq 18, 3) := by decide +kernel
theorem dX5_nextGhost_31 : decode cX5_nextGhost 31 = .ok (.aload_n 0, 1) := by decide +kernel
theorem dX5_nextGhost_32 : decode cX5_nextGhost 32 = .ok (.iload_n 2, 1) := by decide +kernel
theorem dX5_nextGhost_33 : decode cX5_nextGhost 33 = .ok (.invokevirtual 149, 3) := by decide +kernel
theorem dX5_nextGhost_36 : decode cX5_nextGhost 36 = .ok (.aload_n 0, 1) := by decide +kernel
theorem dX5_nextGhost_37 : decode cX5_nextGhost 37 = .ok (.getfield 37, 3) := by decide +kernel
theorem dX5_nextGhost_40 : decode cX5_nextGhost 40 = .ok (.iadd, 1) := by decide +kernel
theorem dX5_nextGhost_41 : decode cX5_nextGhost 41 = .ok (.iconst 1, 1) := by decide +kernel
theorem dX5_nextGhost_42 : decode cX5_nextGhost 42 = .ok (.iadd, 1) := by decide +kernel
theorem dX5_nextGhost_43 : decode cX5_nextGhost 43 = .ok (.goto 4, 3) := by decide +kernel
theorem dX5_nextGhost_46 : decode cX5_nextGhost 46 = .ok (.iconst 0, 1) := by decide +kernel
theorem dX5_nextGhost_47 : decode cX5_nextGhost 47 = .ok (.istore_n 3, 1) := by decide +kernel
theorem dX5_nextGhost_48 : decode cX5_nextGhost 48 = .ok (.iload_n 3, 1) := by decide +kernel
theorem dX5_nextGhost_49 : decode cX5_nextGhost 49 = .ok (.aload_n 0, 1) := by decide +kernel
theorem dX5_nextGhost_50 : decode cX5_nextGhost 50 = .ok (.getfield 73, 3) := by decide +kernel
theorem dX5_nextGhost_53 : decode cX5_nextGhost 53 = .ok (.iconst 1, 1) := by decide +kernel
theorem dX5_nextGhost_54 : decode cX5_nextGhost 54 = .ok (.iadd, 1) := by decide +kernel
theorem dX5_nextGhost_55 : decode cX5_nextGhost 55 = .ok (.sipush 999, 3) := by decide +kernel
theorem dX5_nextGhost_58 : decode cX5_nextGhost 58 = .ok (.invokestatic 59, 3) := by decide +kernel
theorem dX5_nextGhost_61 : decode cX5_nextGhost 61 = .ok (.ifCond .eq 17, 3) := by decide +kernel
theorem dX5_nextGhost_64 : decode cX5_nextGhost 64 = .ok (.iload_n 1, 1) := by decide +kernel
theorem dX5_nextGhost_65 : decode cX5_nextGhost 65 = .ok (.iconst (-1), 1) := by decide +kernel
theorem dX5_nextGhost_66 : decode cX5_nextGhost 66 = .ok (.if_icmp .eq 8, 3) := by decide +kernel
theorem dX5_nextGhost_69 : decode cX5_nextGhost 69 = .ok (.iload_n 3, 1) := by decide +kernel
theorem dX5_nextGhost_70 : decode cX5_nextGhost 70 = .ok (.iload_n 1, 1) := by decide +kernel
theorem dX5_nextGhost_71 : decode cX5_nextGhost 71 = .ok (.if_icmp .ge 7, 3) := by decide +kernel
theorem dX5_nextGhost_74 : decode cX5_nextGhost 74 = .ok (.iload_n 3, 1) := by decide +kernel
theorem dX5_nextGhost_75 : decode cX5_nextGhost 75 = .ok (.goto 4, 3) := by decide +kernel
theorem dX5_nextGhost_78 : decode cX5_nextGhost 78 = .ok (.iload_n 1, 1) := by decide +kernel
theorem dX5_nextGhost_79 : decode cX5_nextGhost 79 = .ok (.istore_n 1, 1) := by decide +kernel
theorem dX5_nextGhost_80 : decode cX5_nextGhost 80 = .ok (.iinc 2 1, 3) := by decide +kernel
theorem dX5_nextGhost_83 : decode cX5_nextGhost 83 = .ok (.goto (-69), 3) := by decide +kernel
theorem dX5_nextGhost_86 : decode cX5_nextGhost 86 = .ok (.iload_n 1, 1) := by decide +kernel
theorem dX5_nextGhost_87 : decode cX5_nextGhost 87 = .ok (.ireturn, 1) := by decide +kernel
theorem dX5_nextGhostByDays_0 : decode cX5_nextGhostByDays 0 = .ok (.aload_n 0, 1) := by decide +kernel
theorem dX5_nextGhostByDays_1 : decode cX5_nextGhostByDays 1 = .ok (.invokevirtual 152, 3) := by decide +kernel
theorem dX5_nextGhostByDays_4 : decode cX5_nextGhostByDays 4 = .ok (.ireturn, 1) := by decide +kernel
theorem dX5_pass_0 : decode cX5_pass 0 = .ok (.aload_n 0, 1) := by decide +kernel
theorem dX5_pass_1 : decode cX5_pass 1 = .ok (.iload_n 1, 1) := by decide +kernel
theorem dX5_pass_2 : decode cX5_pass 2 = .ok (.iconst 1, 1) := by decide +kernel
theorem dX5_pass_3 : decode cX5_pass 3 = .ok (.bipush 99, 2) := by decide +kernel
theorem dX5_pass_5 : decode cX5_pass 5 = .ok (.invokestatic 59, 3) := by decide +kernel
theorem dX5_pass_8 : decode cX5_pass 8 = .ok (.ifCond .eq 15, 3) := by decide +kernel
theorem dX5_pass_11 : decode cX5_pass 11 = .ok (.aload_n 0, 1) := by decide +kernel
theorem dX5_pass_12 : decode cX5_pass 12 = .ok (.getfield 73, 3) := by decide +kernel
theorem dX5_pass_15 : decode cX5_pass 15 = .ok (.iload_n 1, 1) := by decide +kernel
theorem dX5_pass_16 : decode cX5_pass 16 = .ok (.iadd, 1) := by decide +kernel
theorem dX5_pass_17 : decode cX5_pass 17 = .ok (.sipush 999, 3) := by decide +kernel
theorem dX5_pass_20 : decode cX5_pass 20 = .ok (.if_icmp .le 7, 3) := by decide +kernel
theorem dX5_pass_23 : decode cX5_pass 23 = .ok (.iconst 1, 1) := by decide +kernel
theorem dX5_pass_24 : decode cX5_pass 24 = .ok (.goto 4, 3) := by decide +kernel
theorem dX5_pass_27 : decode cX5_pass 27 = .ok (.iconst 0, 1) := by decide +kernel
theorem dX5_pass_28 : decode cX5_pass 28 = .ok (.putfield 53, 3) := by decide +kernel
theorem dX5_pass_31 : decode cX5_pass 31 = .ok (.aload_n 0, 1) := by decide +kernel
theorem dX5_pass_32 : decode cX5_pass 32 = .ok (.getfield 53, 3) := by decide +kernel
theorem dX5_pass_35 : decode cX5_pass 35 = .ok (.ifCond .le 5, 3) := by decide +kernel
theorem dX5_pass_38 : decode cX5_pass 38 = .ok (.iconst 0, 1) := by decide +kernel
theorem dX5_pass_39 : decode cX5_pass 39 = .ok (.ireturn, 1) := by decide +kernel
theorem dX5_pass_40 : decode cX5_pass 40 = .ok (.aload_n 0, 1) := by decide +kernel
theorem dX5_pass_41 : decode cX5_pass 41 = .ok (.dup, 1) := by decide +kernel
theorem dX5_pass_42 : decode cX5_pass 42 = .ok (.getfield 73, 3) := by decide +kernel
theorem dX5_pass_45 : decode cX5_pass 45 = .ok (.iload_n 1, 1) := by decide +kernel
theorem dX5_pass_46 : decode cX5_pass 46 = .ok (.iadd, 1) := by decide +kernel
theorem dX5_pass_47 : decode cX5_pass 47 = .ok (.putfield 73, 3) := by decide +kernel
theorem dX5_pass_50 : decode cX5_pass 50 = .ok (.aload_n 0, 1) := by decide +kernel
theorem dX5_pass_51 : decode cX5_pass 51 = .ok (.getfield 73, 3) := by decide +kernel
theorem dX5_pass_54 : decode cX5_pass 54 = .ok (.ireturn, 1) := by decide +kernel
theorem dX5_today_0 : decode cX5_today 0 = .ok (.aload_n 0, 1) := by decide +kernel
theorem dX5_today_1 : decode cX5_today 1 = .ok (.iconst 0, 1) := by decide +kernel
theorem dX5_today_2 : decode cX5_today 2 = .ok (.putfield 53, 3) := by decide +kernel
theorem dX5_today_5 : decode cX5_today 5 = .ok (.aload_n 0, 1) := by decide +kernel
theorem dX5_today_6 : decode cX5_today 6 = .ok (.getfield 73, 3) := by decide +kernel
theorem dX5_today_9 : decode cX5_today 9 = .ok (.ireturn, 1) := by decide +kernel
theorem dX5_mark_0 : decode cX5_mark 0 = .ok (.aload_n 0, 1) := by decide +kernel
theorem dX5_mark_1 : decode cX5_mark 1 = .ok (.iconst 0, 1) := by decide +kernel
theorem dX5_mark_2 : decode cX5_mark 2 = .ok (.putfield 53, 3) := by decide +kernel
theorem dX5_mark_5 : decode cX5_mark 5 = .ok (.aload_n 0, 1) := by decide +kernel
theorem dX5_mark_6 : decode cX5_mark 6 = .ok (.iconst 2, 1) := by decide +kernel
theorem dX5_mark_7 : decode cX5_mark 7 = .ok (.invokevirtual 113, 3) := by decide +kernel
theorem dX5_mark_10 : decode cX5_mark 10 = .ok (.lconst 0, 1) := by decide +kernel
theorem dX5_mark_11 : decode cX5_mark 11 = .ok (.lstore_n 1, 1) := by decide +kernel
theorem dX5_mark_12 : decode cX5_mark 12 = .ok (.iconst 0, 1) := by decide +kernel
theorem dX5_mark_13 : decode cX5_mark 13 = .ok (.istore_n 3, 1) := by decide +kernel
theorem dX5_mark_14 : decode cX5_mark 14 = .ok (.iload_n 3, 1) := by decide +kernel
theorem dX5_mark_15 : decode cX5_mark 15 = .ok (.aload_n 0, 1) := by decide +kernel
theorem dX5_mark_16 : decode cX5_mark 16 = .ok (.getfield 56, 3) := by decide +kernel
theorem dX5_mark_19 : decode cX5_mark 19 = .ok (.if_icmp .ge 99, 3) := by decide +kernel
theorem dX5_mark_22 : decode cX5_mark 22 = .ok (.lconst 0, 1) := by decide +kernel
theorem dX5_mark_23 : decode cX5_mark 23 = .ok (.lstore 4, 2) := by decide +kernel
theorem dX5_mark_25 : decode cX5_mark 25 = .ok (.lconst 0, 1) := by decide +kernel
theorem dX5_mark_26 : decode cX5_mark 26 = .ok (.lstore 6, 2) := by decide +kernel
theorem dX5_mark_28 : decode cX5_mark 28 = .ok (.iconst 0, 1) := by decide +kernel
theorem dX5_mark_29 : decode cX5_mark 29 = .ok (.istore 8, 2) := by decide +kernel
theorem dX5_mark_31 : decode cX5_mark 31 = .ok (.iload 8, 2) := by decide +kernel
theorem dX5_mark_33 : decode cX5_mark 33 = .ok (.aload_n 0, 1) := by decide +kernel
theorem dX5_mark_34 : decode cX5_mark 34 = .ok (.getfield 56, 3) := by decide +kernel
theorem dX5_mark_37 : decode cX5_mark 37 = .ok (.if_icmp .ge 51, 3) := by decide +kernel
theorem dX5_mark_40 : decode cX5_mark 40 = .ok (.lload 4, 2) := by decide +kernel
theorem dX5_mark_42 : decode cX5_mark 42 = .ok (.aload_n 0, 1) := by decide +kernel
theorem dX5_mark_43 : decode cX5_mark 43 = .ok (.iload 8, 2) := by decide +kernel
theorem dX5_mark_45 : decode cX5_mark 45 = .ok (.iload_n 3, 1) := by decide +kernel
theorem dX5_mark_46 : decode cX5_mark 46 = .ok (.invokevirtual 122, 3) := by decide +kernel
theorem dX5_mark_49 : decode cX5_mark 49 = .ok (.ifCond .eq 7, 3) := by decide +kernel
theorem dX5_mark_52 : decode cX5_mark 52 = .ok (.lconst 1, 1) := by decide +kernel
theorem dX5_mark_53 : decode cX5_mark 53 = .ok (.goto 4, 3) := by decide +kernel
theorem dX5_mark_56 : decode cX5_mark 56 = .ok (.lconst 0, 1) := by decide +kernel
theorem dX5_mark_57 : decode cX5_mark 57 = .ok (.ladd, 1) := by decide +kernel
theorem dX5_mark_58 : decode cX5_mark 58 = .ok (.lstore 4, 2) := by decide +kernel
theorem dX5_mark_60 : decode cX5_mark 60 = .ok (.lload 6, 2) := by decide +kernel
theorem dX5_mark_62 : decode cX5_mark 62 = .ok (.aload_n 0, 1) := by decide +kernel
theorem dX5_mark_63 : decode cX5_mark 63 = .ok (.iload 8, 2) := by decide +kernel
theorem dX5_mark_65 : decode cX5_mark 65 = .ok (.iload_n 3, 1) := by decide +kernel
theorem dX5_mark_66 : decode cX5_mark 66 = .ok (.invokevirtual 122, 3) := by decide +kernel
theorem dX5_mark_69 : decode cX5_mark 69 = .ok (.ifCond .eq 9, 3) := by decide +kernel
theorem dX5_mark_72 : decode cX5_mark 72 = .ok (.iload 8, 2) := by decide +kernel
theorem dX5_mark_74 : decode cX5_mark 74 = .ok (.i2l, 1) := by decide +kernel
theorem dX5_mark_75 : decode cX5_mark 75 = .ok (.goto 4, 3) := by decide +kernel
theorem dX5_mark_78 : decode cX5_mark 78 = .ok (.lconst 0, 1) := by decide +kernel
theorem dX5_mark_79 : decode cX5_mark 79 = .ok (.ladd, 1) := by decide +kernel
theorem dX5_mark_80 : decode cX5_mark 80 = .ok (.lstore 6, 2) := by decide +kernel
theorem dX5_mark_82 : decode cX5_mark 82 = .ok (.iinc 8 1, 3) := by decide +kernel
theorem dX5_mark_85 : decode cX5_mark 85 = .ok (.goto (-54), 3) := by decide +kernel
theorem dX5_mark_88 : decode cX5_mark 88 = .ok (.lload_n 1, 1) := by decide +kernel
theorem dX5_mark_89 : decode cX5_mark 89 = .ok (.lload 4, 2) := by decide +kernel
theorem dX5_mark_91 : decode cX5_mark 91 = .ok (.lconst 0, 1) := by decide +kernel
theorem dX5_mark_92 : decode cX5_mark 92 = .ok (.lcmp, 1) := by decide +kernel
theorem dX5_mark_93 : decode cX5_mark 93 = .ok (.ifCond .le 16, 3) := by decide +kernel
theorem dX5_mark_96 : decode cX5_mark 96 = .ok (.lload 4, 2) := by decide +kernel
theorem dX5_mark_98 : decode cX5_mark 98 = .ok (.lload 4, 2) := by decide +kernel
theorem dX5_mark_100 : decode cX5_mark 100 = .ok (.lmul, 1) := by decide +kernel
theorem dX5_mark_101 : decode cX5_mark 101 = .ok (.lload 6, 2) := by decide +kernel
theorem dX5_mark_103 : decode cX5_mark 103 = .ok (.lmul, 1) := by decide +kernel
theorem dX5_mark_104 : decode cX5_mark 104 = .ok (.lconst 1, 1) := by decide +kernel
theorem dX5_mark_105 : decode cX5_mark 105 = .ok (.ladd, 1) := by decide +kernel
theorem dX5_mark_106 : decode cX5_mark 106 = .ok (.goto 4, 3) := by decide +kernel
theorem dX5_mark_109 : decode cX5_mark 109 = .ok (.lconst 0, 1) := by decide +kernel
theorem dX5_mark_110 : decode cX5_mark 110 = .ok (.ladd, 1) := by decide +kernel
theorem dX5_mark_111 : decode cX5_mark 111 = .ok (.lstore_n 1, 1) := by decide +kernel
theorem dX5_mark_112 : decode cX5_mark 112 = .ok (.iinc 3 1, 3) := by decide +kernel
theorem dX5_mark_115 : decode cX5_mark 115 = .ok (.goto (-101), 3) := by decide +kernel
theorem dX5_mark_118 : decode cX5_mark 118 = .ok (.lload_n 1, 1) := by decide +kernel
theorem dX5_mark_119 : decode cX5_mark 119 = .ok (.lreturn, 1) := by decide +kernel
end
section
theorem dL_addSource_0 : decode cL_addSource 0 = .ok (.aload_n 2, 1) := by decide +kernel
theorem dL_addSource_1 : decode cL_addSource 1 = .ok (.iconst 0, 1) := by decide +kernel
theorem dL_addSource_2 : decode cL_addSource 2 = .ok (.aload_n 0, 1) := by decide +kernel
theorem dL_addSource_3 : decode cL_addSource 3 = .ok (.iload_n 1, 1) := by decide +kernel
theorem dL_addSource_4 : decode cL_addSource 4 = .ok (.invokevirtual 7, 3) := by decide +kernel
theorem dL_addSource_7 : decode cL_addSource 7 = .ok (.i2l, 1) := by decide +kernel
theorem dL_addSource_8 : decode cL_addSource 8 = .ok (.lastore, 1) := by decide +kernel
theorem dL_addSource_9 : decode cL_addSource 9 = .ok (.goto 9, 3) := by decide +kernel
theorem dL_addSource_12 : decode cL_addSource 12 = .ok (.astore_n 3, 1) := by decide +kernel
theorem dL_addSource_13 : decode cL_addSource 13 = .ok (.iconst 1, 1) := by decide +kernel
theorem dL_addSource_14 : decode cL_addSource 14 = .ok (.ireturn, 1) := by decide +kernel
theorem dL_addSource_15 : decode cL_addSource 15 = .ok (.astore_n 3, 1) := by decide +kernel
theorem dL_addSource_16 : decode cL_addSource 16 = .ok (.iconst 2, 1) := by decide +kernel
theorem dL_addSource_17 : decode cL_addSource 17 = .ok (.ireturn, 1) := by decide +kernel
theorem dL_addSource_18 : decode cL_addSource 18 = .ok (.iconst 0, 1) := by decide +kernel
theorem dL_addSource_19 : decode cL_addSource 19 = .ok (.ireturn, 1) := by decide +kernel
theorem dL_setTrust_0 : decode cL_setTrust 0 = .ok (.aload_n 3, 1) := by decide +kernel
theorem dL_setTrust_1 : decode cL_setTrust 1 = .ok (.iconst 0, 1) := by decide +kernel
theorem dL_setTrust_2 : decode cL_setTrust 2 = .ok (.aload_n 0, 1) := by decide +kernel
theorem dL_setTrust_3 : decode cL_setTrust 3 = .ok (.iload_n 1, 1) := by decide +kernel
theorem dL_setTrust_4 : decode cL_setTrust 4 = .ok (.iload_n 2, 1) := by decide +kernel
theorem dL_setTrust_5 : decode cL_setTrust 5 = .ok (.invokevirtual 17, 3) := by decide +kernel
theorem dL_setTrust_8 : decode cL_setTrust 8 = .ok (.i2l, 1) := by decide +kernel
theorem dL_setTrust_9 : decode cL_setTrust 9 = .ok (.lastore, 1) := by decide +kernel
theorem dL_setTrust_10 : decode cL_setTrust 10 = .ok (.goto 11, 3) := by decide +kernel
theorem dL_setTrust_13 : decode cL_setTrust 13 = .ok (.astore 4, 2) := by decide +kernel
theorem dL_setTrust_15 : decode cL_setTrust 15 = .ok (.iconst 1, 1) := by decide +kernel
theorem dL_setTrust_16 : decode cL_setTrust 16 = .ok (.ireturn, 1) := by decide +kernel
theorem dL_setTrust_17 : decode cL_setTrust 17 = .ok (.astore 4, 2) := by decide +kernel
theorem dL_setTrust_19 : decode cL_setTrust 19 = .ok (.iconst 2, 1) := by decide +kernel
theorem dL_setTrust_20 : decode cL_setTrust 20 = .ok (.ireturn, 1) := by decide +kernel
theorem dL_setTrust_21 : decode cL_setTrust 21 = .ok (.iconst 0, 1) := by decide +kernel
theorem dL_setTrust_22 : decode cL_setTrust 22 = .ok (.ireturn, 1) := by decide +kernel
theorem dL_addRecord_0 : decode cL_addRecord 0 = .ok (.aload 5, 2) := by decide +kernel
theorem dL_addRecord_2 : decode cL_addRecord 2 = .ok (.iconst 0, 1) := by decide +kernel
theorem dL_addRecord_3 : decode cL_addRecord 3 = .ok (.aload_n 0, 1) := by decide +kernel
theorem dL_addRecord_4 : decode cL_addRecord 4 = .ok (.iload_n 1, 1) := by decide +kernel
theorem dL_addRecord_5 : decode cL_addRecord 5 = .ok (.iload_n 2, 1) := by decide +kernel
theorem dL_addRecord_6 : decode cL_addRecord 6 = .ok (.iload_n 3, 1) := by decide +kernel
theorem dL_addRecord_7 : decode cL_addRecord 7 = .ok (.iload 4, 2) := by decide +kernel
theorem dL_addRecord_9 : decode cL_addRecord 9 = .ok (.invokevirtual 23, 3) := by decide +kernel
theorem dL_addRecord_12 : decode cL_addRecord 12 = .ok (.i2l, 1) := by decide +kernel
theorem dL_addRecord_13 : decode cL_addRecord 13 = .ok (.lastore, 1) := by decide +kernel
theorem dL_addRecord_14 : decode cL_addRecord 14 = .ok (.goto 15, 3) := by decide +kernel
theorem dL_addRecord_17 : decode cL_addRecord 17 = .ok (.astore 6, 2) := by decide +kernel
theorem dL_addRecord_19 : decode cL_addRecord 19 = .ok (.iconst 1, 1) := by decide +kernel
theorem dL_addRecord_20 : decode cL_addRecord 20 = .ok (.ireturn, 1) := by decide +kernel
theorem dL_addRecord_21 : decode cL_addRecord 21 = .ok (.astore 6, 2) := by decide +kernel
theorem dL_addRecord_23 : decode cL_addRecord 23 = .ok (.iconst 2, 1) := by decide +kernel
theorem dL_addRecord_24 : decode cL_addRecord 24 = .ok (.ireturn, 1) := by decide +kernel
theorem dL_addRecord_25 : decode cL_addRecord 25 = .ok (.astore 6, 2) := by decide +kernel
theorem dL_addRecord_27 : decode cL_addRecord 27 = .ok (.iconst 3, 1) := by decide +kernel
theorem dL_addRecord_28 : decode cL_addRecord 28 = .ok (.ireturn, 1) := by decide +kernel
theorem dL_addRecord_29 : decode cL_addRecord 29 = .ok (.iconst 0, 1) := by decide +kernel
theorem dL_addRecord_30 : decode cL_addRecord 30 = .ok (.ireturn, 1) := by decide +kernel
theorem dL_setKey_0 : decode cL_setKey 0 = .ok (.aload 4, 2) := by decide +kernel
theorem dL_setKey_2 : decode cL_setKey 2 = .ok (.iconst 0, 1) := by decide +kernel
theorem dL_setKey_3 : decode cL_setKey 3 = .ok (.aload_n 0, 1) := by decide +kernel
theorem dL_setKey_4 : decode cL_setKey 4 = .ok (.iload_n 1, 1) := by decide +kernel
theorem dL_setKey_5 : decode cL_setKey 5 = .ok (.iload_n 2, 1) := by decide +kernel
theorem dL_setKey_6 : decode cL_setKey 6 = .ok (.iload_n 3, 1) := by decide +kernel
theorem dL_setKey_7 : decode cL_setKey 7 = .ok (.invokevirtual 27, 3) := by decide +kernel
theorem dL_setKey_10 : decode cL_setKey 10 = .ok (.i2l, 1) := by decide +kernel
theorem dL_setKey_11 : decode cL_setKey 11 = .ok (.lastore, 1) := by decide +kernel
theorem dL_setKey_12 : decode cL_setKey 12 = .ok (.goto 11, 3) := by decide +kernel
theorem dL_setKey_15 : decode cL_setKey 15 = .ok (.astore 5, 2) := by decide +kernel
theorem dL_setKey_17 : decode cL_setKey 17 = .ok (.iconst 1, 1) := by decide +kernel
theorem dL_setKey_18 : decode cL_setKey 18 = .ok (.ireturn, 1) := by decide +kernel
theorem dL_setKey_19 : decode cL_setKey 19 = .ok (.astore 5, 2) := by decide +kernel
theorem dL_setKey_21 : decode cL_setKey 21 = .ok (.iconst 2, 1) := by decide +kernel
theorem dL_setKey_22 : decode cL_setKey 22 = .ok (.ireturn, 1) := by decide +kernel
theorem dL_setKey_23 : decode cL_setKey 23 = .ok (.iconst 0, 1) := by decide +kernel
theorem dL_setKey_24 : decode cL_setKey 24 = .ok (.ireturn, 1) := by decide +kernel
theorem dL_setFact_0 : decode cL_setFact 0 = .ok (.aload 4, 2) := by decide +kernel
theorem dL_setFact_2 : decode cL_setFact 2 = .ok (.iconst 0, 1) := by decide +kernel
theorem dL_setFact_3 : decode cL_setFact 3 = .ok (.aload_n 0, 1) := by decide +kernel
theorem dL_setFact_4 : decode cL_setFact 4 = .ok (.iload_n 1, 1) := by decide +kernel
theorem dL_setFact_5 : decode cL_setFact 5 = .ok (.iload_n 2, 1) := by decide +kernel
theorem dL_setFact_6 : decode cL_setFact 6 = .ok (.iload_n 3, 1) := by decide +kernel
theorem dL_setFact_7 : decode cL_setFact 7 = .ok (.invokevirtual 31, 3) := by decide +kernel
theorem dL_setFact_10 : decode cL_setFact 10 = .ok (.i2l, 1) := by decide +kernel
theorem dL_setFact_11 : decode cL_setFact 11 = .ok (.lastore, 1) := by decide +kernel
theorem dL_setFact_12 : decode cL_setFact 12 = .ok (.goto 11, 3) := by decide +kernel
theorem dL_setFact_15 : decode cL_setFact 15 = .ok (.astore 5, 2) := by decide +kernel
theorem dL_setFact_17 : decode cL_setFact 17 = .ok (.iconst 1, 1) := by decide +kernel
theorem dL_setFact_18 : decode cL_setFact 18 = .ok (.ireturn, 1) := by decide +kernel
theorem dL_setFact_19 : decode cL_setFact 19 = .ok (.astore 5, 2) := by decide +kernel
theorem dL_setFact_21 : decode cL_setFact 21 = .ok (.iconst 2, 1) := by decide +kernel
theorem dL_setFact_22 : decode cL_setFact 22 = .ok (.ireturn, 1) := by decide +kernel
theorem dL_setFact_23 : decode cL_setFact 23 = .ok (.iconst 0, 1) := by decide +kernel
theorem dL_setFact_24 : decode cL_setFact 24 = .ok (.ireturn, 1) := by decide +kernel
theorem dL_see_0 : decode cL_see 0 = .ok (.aload_n 2, 1) := by decide +kernel
theorem dL_see_1 : decode cL_see 1 = .ok (.iconst 0, 1) := by decide +kernel
theorem dL_see_2 : decode cL_see 2 = .ok (.aload_n 0, 1) := by decide +kernel
theorem dL_see_3 : decode cL_see 3 = .ok (.iload_n 1, 1) := by decide +kernel
theorem dL_see_4 : decode cL_see 4 = .ok (.invokevirtual 34, 3) := by decide +kernel
theorem dL_see_7 : decode cL_see 7 = .ok (.i2l, 1) := by decide +kernel
theorem dL_see_8 : decode cL_see 8 = .ok (.lastore, 1) := by decide +kernel
theorem dL_see_9 : decode cL_see 9 = .ok (.goto 6, 3) := by decide +kernel
theorem dL_see_12 : decode cL_see 12 = .ok (.astore_n 3, 1) := by decide +kernel
theorem dL_see_13 : decode cL_see 13 = .ok (.iconst 1, 1) := by decide +kernel
theorem dL_see_14 : decode cL_see 14 = .ok (.ireturn, 1) := by decide +kernel
theorem dL_see_15 : decode cL_see 15 = .ok (.iconst 0, 1) := by decide +kernel
theorem dL_see_16 : decode cL_see 16 = .ok (.ireturn, 1) := by decide +kernel
theorem dL_drop_0 : decode cL_drop 0 = .ok (.aload_n 2, 1) := by decide +kernel
theorem dL_drop_1 : decode cL_drop 1 = .ok (.iconst 0, 1) := by decide +kernel
theorem dL_drop_2 : decode cL_drop 2 = .ok (.aload_n 0, 1) := by decide +kernel
theorem dL_drop_3 : decode cL_drop 3 = .ok (.iload_n 1, 1) := by decide +kernel
theorem dL_drop_4 : decode cL_drop 4 = .ok (.invokevirtual 37, 3) := by decide +kernel
theorem dL_drop_7 : decode cL_drop 7 = .ok (.i2l, 1) := by decide +kernel
theorem dL_drop_8 : decode cL_drop 8 = .ok (.lastore, 1) := by decide +kernel
theorem dL_drop_9 : decode cL_drop 9 = .ok (.goto 6, 3) := by decide +kernel
theorem dL_drop_12 : decode cL_drop 12 = .ok (.astore_n 3, 1) := by decide +kernel
theorem dL_drop_13 : decode cL_drop 13 = .ok (.iconst 1, 1) := by decide +kernel
theorem dL_drop_14 : decode cL_drop 14 = .ok (.ireturn, 1) := by decide +kernel
theorem dL_drop_15 : decode cL_drop 15 = .ok (.iconst 0, 1) := by decide +kernel
theorem dL_drop_16 : decode cL_drop 16 = .ok (.ireturn, 1) := by decide +kernel
theorem dL_forbid_0 : decode cL_forbid 0 = .ok (.aload_n 3, 1) := by decide +kernel
theorem dL_forbid_1 : decode cL_forbid 1 = .ok (.iconst 0, 1) := by decide +kernel
theorem dL_forbid_2 : decode cL_forbid 2 = .ok (.aload_n 0, 1) := by decide +kernel
theorem dL_forbid_3 : decode cL_forbid 3 = .ok (.iload_n 1, 1) := by decide +kernel
theorem dL_forbid_4 : decode cL_forbid 4 = .ok (.iload_n 2, 1) := by decide +kernel
theorem dL_forbid_5 : decode cL_forbid 5 = .ok (.invokevirtual 40, 3) := by decide +kernel
theorem dL_forbid_8 : decode cL_forbid 8 = .ok (.i2l, 1) := by decide +kernel
theorem dL_forbid_9 : decode cL_forbid 9 = .ok (.lastore, 1) := by decide +kernel
theorem dL_forbid_10 : decode cL_forbid 10 = .ok (.goto 15, 3) := by decide +kernel
theorem dL_forbid_13 : decode cL_forbid 13 = .ok (.astore 4, 2) := by decide +kernel
theorem dL_forbid_15 : decode cL_forbid 15 = .ok (.iconst 1, 1) := by decide +kernel
theorem dL_forbid_16 : decode cL_forbid 16 = .ok (.ireturn, 1) := by decide +kernel
theorem dL_forbid_17 : decode cL_forbid 17 = .ok (.astore 4, 2) := by decide +kernel
theorem dL_forbid_19 : decode cL_forbid 19 = .ok (.iconst 2, 1) := by decide +kernel
theorem dL_forbid_20 : decode cL_forbid 20 = .ok (.ireturn, 1) := by decide +kernel
theorem dL_forbid_21 : decode cL_forbid 21 = .ok (.astore 4, 2) := by decide +kernel
theorem dL_forbid_23 : decode cL_forbid 23 = .ok (.iconst 3, 1) := by decide +kernel
theorem dL_forbid_24 : decode cL_forbid 24 = .ok (.ireturn, 1) := by decide +kernel
theorem dL_forbid_25 : decode cL_forbid 25 = .ok (.iconst 0, 1) := by decide +kernel
theorem dL_forbid_26 : decode cL_forbid 26 = .ok (.ireturn, 1) := by decide +kernel
theorem dL_allow_0 : decode cL_allow 0 = .ok (.aload_n 3, 1) := by decide +kernel
theorem dL_allow_1 : decode cL_allow 1 = .ok (.iconst 0, 1) := by decide +kernel
theorem dL_allow_2 : decode cL_allow 2 = .ok (.aload_n 0, 1) := by decide +kernel
theorem dL_allow_3 : decode cL_allow 3 = .ok (.iload_n 1, 1) := by decide +kernel
theorem dL_allow_4 : decode cL_allow 4 = .ok (.iload_n 2, 1) := by decide +kernel
theorem dL_allow_5 : decode cL_allow 5 = .ok (.invokevirtual 43, 3) := by decide +kernel
theorem dL_allow_8 : decode cL_allow 8 = .ok (.i2l, 1) := by decide +kernel
theorem dL_allow_9 : decode cL_allow 9 = .ok (.lastore, 1) := by decide +kernel
theorem dL_allow_10 : decode cL_allow 10 = .ok (.goto 11, 3) := by decide +kernel
theorem dL_allow_13 : decode cL_allow 13 = .ok (.astore 4, 2) := by decide +kernel
theorem dL_allow_15 : decode cL_allow 15 = .ok (.iconst 1, 1) := by decide +kernel
theorem dL_allow_16 : decode cL_allow 16 = .ok (.ireturn, 1) := by decide +kernel
theorem dL_allow_17 : decode cL_allow 17 = .ok (.astore 4, 2) := by decide +kernel
theorem dL_allow_19 : decode cL_allow 19 = .ok (.iconst 2, 1) := by decide +kernel
theorem dL_allow_20 : decode cL_allow 20 = .ok (.ireturn, 1) := by decide +kernel
theorem dL_allow_21 : decode cL_allow 21 = .ok (.iconst 0, 1) := by decide +kernel
theorem dL_allow_22 : decode cL_allow 22 = .ok (.ireturn, 1) := by decide +kernel
theorem dL_key_0 : decode cL_key 0 = .ok (.aload_n 3, 1) := by decide +kernel
theorem dL_key_1 : decode cL_key 1 = .ok (.iconst 0, 1) := by decide +kernel
theorem dL_key_2 : decode cL_key 2 = .ok (.aload_n 0, 1) := by decide +kernel
theorem dL_key_3 : decode cL_key 3 = .ok (.iload_n 1, 1) := by decide +kernel
theorem dL_key_4 : decode cL_key 4 = .ok (.iload_n 2, 1) := by decide +kernel
theorem dL_key_5 : decode cL_key 5 = .ok (.invokevirtual 48, 3) := by decide +kernel
theorem dL_key_8 : decode cL_key 8 = .ok (.i2l, 1) := by decide +kernel
theorem dL_key_9 : decode cL_key 9 = .ok (.lastore, 1) := by decide +kernel
theorem dL_key_10 : decode cL_key 10 = .ok (.goto 7, 3) := by decide +kernel
theorem dL_key_13 : decode cL_key 13 = .ok (.astore 4, 2) := by decide +kernel
theorem dL_key_15 : decode cL_key 15 = .ok (.iconst 1, 1) := by decide +kernel
theorem dL_key_16 : decode cL_key 16 = .ok (.ireturn, 1) := by decide +kernel
theorem dL_key_17 : decode cL_key 17 = .ok (.iconst 0, 1) := by decide +kernel
theorem dL_key_18 : decode cL_key 18 = .ok (.ireturn, 1) := by decide +kernel
theorem dL_seen_0 : decode cL_seen 0 = .ok (.aload_n 2, 1) := by decide +kernel
theorem dL_seen_1 : decode cL_seen 1 = .ok (.iconst 0, 1) := by decide +kernel
theorem dL_seen_2 : decode cL_seen 2 = .ok (.aload_n 0, 1) := by decide +kernel
theorem dL_seen_3 : decode cL_seen 3 = .ok (.iload_n 1, 1) := by decide +kernel
theorem dL_seen_4 : decode cL_seen 4 = .ok (.invokevirtual 51, 3) := by decide +kernel
theorem dL_seen_7 : decode cL_seen 7 = .ok (.i2l, 1) := by decide +kernel
theorem dL_seen_8 : decode cL_seen 8 = .ok (.lastore, 1) := by decide +kernel
theorem dL_seen_9 : decode cL_seen 9 = .ok (.goto 6, 3) := by decide +kernel
theorem dL_seen_12 : decode cL_seen 12 = .ok (.astore_n 3, 1) := by decide +kernel
theorem dL_seen_13 : decode cL_seen 13 = .ok (.iconst 1, 1) := by decide +kernel
theorem dL_seen_14 : decode cL_seen 14 = .ok (.ireturn, 1) := by decide +kernel
theorem dL_seen_15 : decode cL_seen 15 = .ok (.iconst 0, 1) := by decide +kernel
theorem dL_seen_16 : decode cL_seen 16 = .ok (.ireturn, 1) := by decide +kernel
theorem dL_thing_0 : decode cL_thing 0 = .ok (.aload_n 2, 1) := by decide +kernel
theorem dL_thing_1 : decode cL_thing 1 = .ok (.iconst 0, 1) := by decide +kernel
theorem dL_thing_2 : decode cL_thing 2 = .ok (.aload_n 0, 1) := by decide +kernel
theorem dL_thing_3 : decode cL_thing 3 = .ok (.iload_n 1, 1) := by decide +kernel
theorem dL_thing_4 : decode cL_thing 4 = .ok (.invokevirtual 54, 3) := by decide +kernel
theorem dL_thing_7 : decode cL_thing 7 = .ok (.i2l, 1) := by decide +kernel
theorem dL_thing_8 : decode cL_thing 8 = .ok (.lastore, 1) := by decide +kernel
theorem dL_thing_9 : decode cL_thing 9 = .ok (.goto 6, 3) := by decide +kernel
theorem dL_thing_12 : decode cL_thing 12 = .ok (.astore_n 3, 1) := by decide +kernel
theorem dL_thing_13 : decode cL_thing 13 = .ok (.iconst 1, 1) := by decide +kernel
theorem dL_thing_14 : decode cL_thing 14 = .ok (.ireturn, 1) := by decide +kernel
theorem dL_thing_15 : decode cL_thing 15 = .ok (.iconst 0, 1) := by decide +kernel
theorem dL_thing_16 : decode cL_thing 16 = .ok (.ireturn, 1) := by decide +kernel
theorem dL_thingByRounds_0 : decode cL_thingByRounds 0 = .ok (.aload_n 2, 1) := by decide +kernel
theorem dL_thingByRounds_1 : decode cL_thingByRounds 1 = .ok (.iconst 0, 1) := by decide +kernel
theorem dL_thingByRounds_2 : decode cL_thingByRounds 2 = .ok (.aload_n 0, 1) := by decide +kernel
theorem dL_thingByRounds_3 : decode cL_thingByRounds 3 = .ok (.iload_n 1, 1) := by decide +kernel
theorem dL_thingByRounds_4 : decode cL_thingByRounds 4 = .ok (.invokevirtual 57, 3) := by decide +kernel
theorem dL_thingByRounds_7 : decode cL_thingByRounds 7 = .ok (.i2l, 1) := by decide +kernel
theorem dL_thingByRounds_8 : decode cL_thingByRounds 8 = .ok (.lastore, 1) := by decide +kernel
theorem dL_thingByRounds_9 : decode cL_thingByRounds 9 = .ok (.goto 6, 3) := by decide +kernel
theorem dL_thingByRounds_12 : decode cL_thingByRounds 12 = .ok (.astore_n 3, 1) := by decide +kernel
theorem dL_thingByRounds_13 : decode cL_thingByRounds 13 = .ok (.iconst 1, 1) := by decide +kernel
theorem dL_thingByRounds_14 : decode cL_thingByRounds 14 = .ok (.ireturn, 1) := by decide +kernel
theorem dL_thingByRounds_15 : decode cL_thingByRounds 15 = .ok (.iconst 0, 1) := by decide +kernel
theorem dL_thingByRounds_16 : decode cL_thingByRounds 16 = .ok (.ireturn, 1) := by decide +kernel
theorem dL_size_0 : decode cL_size 0 = .ok (.aload_n 2, 1) := by decide +kernel
theorem dL_size_1 : decode cL_size 1 = .ok (.iconst 0, 1) := by decide +kernel
theorem dL_size_2 : decode cL_size 2 = .ok (.aload_n 0, 1) := by decide +kernel
theorem dL_size_3 : decode cL_size 3 = .ok (.iload_n 1, 1) := by decide +kernel
theorem dL_size_4 : decode cL_size 4 = .ok (.invokevirtual 60, 3) := by decide +kernel
theorem dL_size_7 : decode cL_size 7 = .ok (.i2l, 1) := by decide +kernel
theorem dL_size_8 : decode cL_size 8 = .ok (.lastore, 1) := by decide +kernel
theorem dL_size_9 : decode cL_size 9 = .ok (.goto 6, 3) := by decide +kernel
theorem dL_size_12 : decode cL_size 12 = .ok (.astore_n 3, 1) := by decide +kernel
theorem dL_size_13 : decode cL_size 13 = .ok (.iconst 1, 1) := by decide +kernel
theorem dL_size_14 : decode cL_size 14 = .ok (.ireturn, 1) := by decide +kernel
theorem dL_size_15 : decode cL_size 15 = .ok (.iconst 0, 1) := by decide +kernel
theorem dL_size_16 : decode cL_size 16 = .ok (.ireturn, 1) := by decide +kernel
theorem dL_member_0 : decode cL_member 0 = .ok (.aload_n 3, 1) := by decide +kernel
theorem dL_member_1 : decode cL_member 1 = .ok (.iconst 0, 1) := by decide +kernel
theorem dL_member_2 : decode cL_member 2 = .ok (.aload_n 0, 1) := by decide +kernel
theorem dL_member_3 : decode cL_member 3 = .ok (.iload_n 1, 1) := by decide +kernel
theorem dL_member_4 : decode cL_member 4 = .ok (.iload_n 2, 1) := by decide +kernel
theorem dL_member_5 : decode cL_member 5 = .ok (.invokevirtual 63, 3) := by decide +kernel
theorem dL_member_8 : decode cL_member 8 = .ok (.i2l, 1) := by decide +kernel
theorem dL_member_9 : decode cL_member 9 = .ok (.lastore, 1) := by decide +kernel
theorem dL_member_10 : decode cL_member 10 = .ok (.goto 11, 3) := by decide +kernel
theorem dL_member_13 : decode cL_member 13 = .ok (.astore 4, 2) := by decide +kernel
theorem dL_member_15 : decode cL_member 15 = .ok (.iconst 1, 1) := by decide +kernel
theorem dL_member_16 : decode cL_member 16 = .ok (.ireturn, 1) := by decide +kernel
theorem dL_member_17 : decode cL_member 17 = .ok (.astore 4, 2) := by decide +kernel
theorem dL_member_19 : decode cL_member 19 = .ok (.iconst 2, 1) := by decide +kernel
theorem dL_member_20 : decode cL_member 20 = .ok (.ireturn, 1) := by decide +kernel
theorem dL_member_21 : decode cL_member 21 = .ok (.iconst 0, 1) := by decide +kernel
theorem dL_member_22 : decode cL_member 22 = .ok (.ireturn, 1) := by decide +kernel
theorem dL_areTogether_0 : decode cL_areTogether 0 = .ok (.aload_n 3, 1) := by decide +kernel
theorem dL_areTogether_1 : decode cL_areTogether 1 = .ok (.iconst 0, 1) := by decide +kernel
theorem dL_areTogether_2 : decode cL_areTogether 2 = .ok (.aload_n 0, 1) := by decide +kernel
theorem dL_areTogether_3 : decode cL_areTogether 3 = .ok (.iload_n 1, 1) := by decide +kernel
theorem dL_areTogether_4 : decode cL_areTogether 4 = .ok (.iload_n 2, 1) := by decide +kernel
theorem dL_areTogether_5 : decode cL_areTogether 5 = .ok (.invokevirtual 66, 3) := by decide +kernel
theorem dL_areTogether_8 : decode cL_areTogether 8 = .ok (.ifCond .eq 7, 3) := by decide +kernel
theorem dL_areTogether_11 : decode cL_areTogether 11 = .ok (.lconst 1, 1) := by decide +kernel
theorem dL_areTogether_12 : decode cL_areTogether 12 = .ok (.goto 4, 3) := by decide +kernel
theorem dL_areTogether_15 : decode cL_areTogether 15 = .ok (.lconst 0, 1) := by decide +kernel
theorem dL_areTogether_16 : decode cL_areTogether 16 = .ok (.lastore, 1) := by decide +kernel
theorem dL_areTogether_17 : decode cL_areTogether 17 = .ok (.goto 7, 3) := by decide +kernel
theorem dL_areTogether_20 : decode cL_areTogether 20 = .ok (.astore 4, 2) := by decide +kernel
theorem dL_areTogether_22 : decode cL_areTogether 22 = .ok (.iconst 1, 1) := by decide +kernel
theorem dL_areTogether_23 : decode cL_areTogether 23 = .ok (.ireturn, 1) := by decide +kernel
theorem dL_areTogether_24 : decode cL_areTogether 24 = .ok (.iconst 0, 1) := by decide +kernel
theorem dL_areTogether_25 : decode cL_areTogether 25 = .ok (.ireturn, 1) := by decide +kernel
theorem dL_step_0 : decode cL_step 0 = .ok (.aload_n 3, 1) := by decide +kernel
theorem dL_step_1 : decode cL_step 1 = .ok (.iconst 0, 1) := by decide +kernel
theorem dL_step_2 : decode cL_step 2 = .ok (.aload_n 0, 1) := by decide +kernel
theorem dL_step_3 : decode cL_step 3 = .ok (.iload_n 1, 1) := by decide +kernel
theorem dL_step_4 : decode cL_step 4 = .ok (.iload_n 2, 1) := by decide +kernel
theorem dL_step_5 : decode cL_step 5 = .ok (.invokevirtual 70, 3) := by decide +kernel
theorem dL_step_8 : decode cL_step 8 = .ok (.i2l, 1) := by decide +kernel
theorem dL_step_9 : decode cL_step 9 = .ok (.lastore, 1) := by decide +kernel
theorem dL_step_10 : decode cL_step 10 = .ok (.goto 15, 3) := by decide +kernel
theorem dL_step_13 : decode cL_step 13 = .ok (.astore 4, 2) := by decide +kernel
theorem dL_step_15 : decode cL_step 15 = .ok (.iconst 1, 1) := by decide +kernel
theorem dL_step_16 : decode cL_step 16 = .ok (.ireturn, 1) := by decide +kernel
theorem dL_step_17 : decode cL_step 17 = .ok (.astore 4, 2) := by decide +kernel
theorem dL_step_19 : decode cL_step 19 = .ok (.iconst 2, 1) := by decide +kernel
theorem dL_step_20 : decode cL_step 20 = .ok (.ireturn, 1) := by decide +kernel
theorem dL_step_21 : decode cL_step 21 = .ok (.astore 4, 2) := by decide +kernel
theorem dL_step_23 : decode cL_step 23 = .ok (.iconst 3, 1) := by decide +kernel
theorem dL_step_24 : decode cL_step 24 = .ok (.ireturn, 1) := by decide +kernel
theorem dL_step_25 : decode cL_step 25 = .ok (.iconst 0, 1) := by decide +kernel
theorem dL_step_26 : decode cL_step 26 = .ok (.ireturn, 1) := by decide +kernel
theorem dL_shared_0 : decode cL_shared 0 = .ok (.aload_n 2, 1) := by decide +kernel
theorem dL_shared_1 : decode cL_shared 1 = .ok (.iconst 0, 1) := by decide +kernel
theorem dL_shared_2 : decode cL_shared 2 = .ok (.aload_n 0, 1) := by decide +kernel
theorem dL_shared_3 : decode cL_shared 3 = .ok (.iload_n 1, 1) := by decide +kernel
theorem dL_shared_4 : decode cL_shared 4 = .ok (.invokevirtual 73, 3) := by decide +kernel
theorem dL_shared_7 : decode cL_shared 7 = .ok (.i2l, 1) := by decide +kernel
theorem dL_shared_8 : decode cL_shared 8 = .ok (.lastore, 1) := by decide +kernel
theorem dL_shared_9 : decode cL_shared 9 = .ok (.goto 6, 3) := by decide +kernel
theorem dL_shared_12 : decode cL_shared 12 = .ok (.astore_n 3, 1) := by decide +kernel
theorem dL_shared_13 : decode cL_shared 13 = .ok (.iconst 1, 1) := by decide +kernel
theorem dL_shared_14 : decode cL_shared 14 = .ok (.ireturn, 1) := by decide +kernel
theorem dL_shared_15 : decode cL_shared 15 = .ok (.iconst 0, 1) := by decide +kernel
theorem dL_shared_16 : decode cL_shared 16 = .ok (.ireturn, 1) := by decide +kernel
theorem dL_thingsWithout_0 : decode cL_thingsWithout 0 = .ok (.aload_n 2, 1) := by decide +kernel
theorem dL_thingsWithout_1 : decode cL_thingsWithout 1 = .ok (.iconst 0, 1) := by decide +kernel
theorem dL_thingsWithout_2 : decode cL_thingsWithout 2 = .ok (.aload_n 0, 1) := by decide +kernel
theorem dL_thingsWithout_3 : decode cL_thingsWithout 3 = .ok (.iload_n 1, 1) := by decide +kernel
theorem dL_thingsWithout_4 : decode cL_thingsWithout 4 = .ok (.invokevirtual 76, 3) := by decide +kernel
theorem dL_thingsWithout_7 : decode cL_thingsWithout 7 = .ok (.i2l, 1) := by decide +kernel
theorem dL_thingsWithout_8 : decode cL_thingsWithout 8 = .ok (.lastore, 1) := by decide +kernel
theorem dL_thingsWithout_9 : decode cL_thingsWithout 9 = .ok (.goto 6, 3) := by decide +kernel
theorem dL_thingsWithout_12 : decode cL_thingsWithout 12 = .ok (.astore_n 3, 1) := by decide +kernel
theorem dL_thingsWithout_13 : decode cL_thingsWithout 13 = .ok (.iconst 1, 1) := by decide +kernel
theorem dL_thingsWithout_14 : decode cL_thingsWithout 14 = .ok (.ireturn, 1) := by decide +kernel
theorem dL_thingsWithout_15 : decode cL_thingsWithout 15 = .ok (.iconst 0, 1) := by decide +kernel
theorem dL_thingsWithout_16 : decode cL_thingsWithout 16 = .ok (.ireturn, 1) := by decide +kernel
theorem dL_thingsIf_0 : decode cL_thingsIf 0 = .ok (.aload 4, 2) := by decide +kernel
theorem dL_thingsIf_2 : decode cL_thingsIf 2 = .ok (.iconst 0, 1) := by decide +kernel
theorem dL_thingsIf_3 : decode cL_thingsIf 3 = .ok (.aload_n 0, 1) := by decide +kernel
theorem dL_thingsIf_4 : decode cL_thingsIf 4 = .ok (.iload_n 1, 1) := by decide +kernel
theorem dL_thingsIf_5 : decode cL_thingsIf 5 = .ok (.iload_n 2, 1) := by decide +kernel
theorem dL_thingsIf_6 : decode cL_thingsIf 6 = .ok (.iload_n 3, 1) := by decide +kernel
theorem dL_thingsIf_7 : decode cL_thingsIf 7 = .ok (.invokevirtual 79, 3) := by decide +kernel
theorem dL_thingsIf_10 : decode cL_thingsIf 10 = .ok (.i2l, 1) := by decide +kernel
theorem dL_thingsIf_11 : decode cL_thingsIf 11 = .ok (.lastore, 1) := by decide +kernel
theorem dL_thingsIf_12 : decode cL_thingsIf 12 = .ok (.goto 11, 3) := by decide +kernel
theorem dL_thingsIf_15 : decode cL_thingsIf 15 = .ok (.astore 5, 2) := by decide +kernel
theorem dL_thingsIf_17 : decode cL_thingsIf 17 = .ok (.iconst 1, 1) := by decide +kernel
theorem dL_thingsIf_18 : decode cL_thingsIf 18 = .ok (.ireturn, 1) := by decide +kernel
theorem dL_thingsIf_19 : decode cL_thingsIf 19 = .ok (.astore 5, 2) := by decide +kernel
theorem dL_thingsIf_21 : decode cL_thingsIf 21 = .ok (.iconst 2, 1) := by decide +kernel
theorem dL_thingsIf_22 : decode cL_thingsIf 22 = .ok (.ireturn, 1) := by decide +kernel
theorem dL_thingsIf_23 : decode cL_thingsIf 23 = .ok (.iconst 0, 1) := by decide +kernel
theorem dL_thingsIf_24 : decode cL_thingsIf 24 = .ok (.ireturn, 1) := by decide +kernel
theorem dL_thingsIfAllowed_0 : decode cL_thingsIfAllowed 0 = .ok (.aload_n 3, 1) := by decide +kernel
theorem dL_thingsIfAllowed_1 : decode cL_thingsIfAllowed 1 = .ok (.iconst 0, 1) := by decide +kernel
theorem dL_thingsIfAllowed_2 : decode cL_thingsIfAllowed 2 = .ok (.aload_n 0, 1) := by decide +kernel
theorem dL_thingsIfAllowed_3 : decode cL_thingsIfAllowed 3 = .ok (.iload_n 1, 1) := by decide +kernel
theorem dL_thingsIfAllowed_4 : decode cL_thingsIfAllowed 4 = .ok (.iload_n 2, 1) := by decide +kernel
theorem dL_thingsIfAllowed_5 : decode cL_thingsIfAllowed 5 = .ok (.invokevirtual 82, 3) := by decide +kernel
theorem dL_thingsIfAllowed_8 : decode cL_thingsIfAllowed 8 = .ok (.i2l, 1) := by decide +kernel
theorem dL_thingsIfAllowed_9 : decode cL_thingsIfAllowed 9 = .ok (.lastore, 1) := by decide +kernel
theorem dL_thingsIfAllowed_10 : decode cL_thingsIfAllowed 10 = .ok (.goto 11, 3) := by decide +kernel
theorem dL_thingsIfAllowed_13 : decode cL_thingsIfAllowed 13 = .ok (.astore 4, 2) := by decide +kernel
theorem dL_thingsIfAllowed_15 : decode cL_thingsIfAllowed 15 = .ok (.iconst 1, 1) := by decide +kernel
theorem dL_thingsIfAllowed_16 : decode cL_thingsIfAllowed 16 = .ok (.ireturn, 1) := by decide +kernel
theorem dL_thingsIfAllowed_17 : decode cL_thingsIfAllowed 17 = .ok (.astore 4, 2) := by decide +kernel
theorem dL_thingsIfAllowed_19 : decode cL_thingsIfAllowed 19 = .ok (.iconst 2, 1) := by decide +kernel
theorem dL_thingsIfAllowed_20 : decode cL_thingsIfAllowed 20 = .ok (.ireturn, 1) := by decide +kernel
theorem dL_thingsIfAllowed_21 : decode cL_thingsIfAllowed 21 = .ok (.iconst 0, 1) := by decide +kernel
theorem dL_thingsIfAllowed_22 : decode cL_thingsIfAllowed 22 = .ok (.ireturn, 1) := by decide +kernel
theorem dL_weight_0 : decode cL_weight 0 = .ok (.aload_n 2, 1) := by decide +kernel
theorem dL_weight_1 : decode cL_weight 1 = .ok (.iconst 0, 1) := by decide +kernel
theorem dL_weight_2 : decode cL_weight 2 = .ok (.aload_n 0, 1) := by decide +kernel
theorem dL_weight_3 : decode cL_weight 3 = .ok (.iload_n 1, 1) := by decide +kernel
theorem dL_weight_4 : decode cL_weight 4 = .ok (.invokevirtual 85, 3) := by decide +kernel
theorem dL_weight_7 : decode cL_weight 7 = .ok (.i2l, 1) := by decide +kernel
theorem dL_weight_8 : decode cL_weight 8 = .ok (.lastore, 1) := by decide +kernel
theorem dL_weight_9 : decode cL_weight 9 = .ok (.goto 6, 3) := by decide +kernel
theorem dL_weight_12 : decode cL_weight 12 = .ok (.astore_n 3, 1) := by decide +kernel
theorem dL_weight_13 : decode cL_weight 13 = .ok (.iconst 1, 1) := by decide +kernel
theorem dL_weight_14 : decode cL_weight 14 = .ok (.ireturn, 1) := by decide +kernel
theorem dL_weight_15 : decode cL_weight 15 = .ok (.iconst 0, 1) := by decide +kernel
theorem dL_weight_16 : decode cL_weight 16 = .ok (.ireturn, 1) := by decide +kernel
theorem dL_fact_0 : decode cL_fact 0 = .ok (.aload_n 3, 1) := by decide +kernel
theorem dL_fact_1 : decode cL_fact 1 = .ok (.iconst 0, 1) := by decide +kernel
theorem dL_fact_2 : decode cL_fact 2 = .ok (.aload_n 0, 1) := by decide +kernel
theorem dL_fact_3 : decode cL_fact 3 = .ok (.iload_n 1, 1) := by decide +kernel
theorem dL_fact_4 : decode cL_fact 4 = .ok (.iload_n 2, 1) := by decide +kernel
theorem dL_fact_5 : decode cL_fact 5 = .ok (.invokevirtual 88, 3) := by decide +kernel
theorem dL_fact_8 : decode cL_fact 8 = .ok (.i2l, 1) := by decide +kernel
theorem dL_fact_9 : decode cL_fact 9 = .ok (.lastore, 1) := by decide +kernel
theorem dL_fact_10 : decode cL_fact 10 = .ok (.goto 11, 3) := by decide +kernel
theorem dL_fact_13 : decode cL_fact 13 = .ok (.astore 4, 2) := by decide +kernel
theorem dL_fact_15 : decode cL_fact 15 = .ok (.iconst 1, 1) := by decide +kernel
theorem dL_fact_16 : decode cL_fact 16 = .ok (.ireturn, 1) := by decide +kernel
theorem dL_fact_17 : decode cL_fact 17 = .ok (.astore 4, 2) := by decide +kernel
theorem dL_fact_19 : decode cL_fact 19 = .ok (.iconst 2, 1) := by decide +kernel
theorem dL_fact_20 : decode cL_fact 20 = .ok (.ireturn, 1) := by decide +kernel
theorem dL_fact_21 : decode cL_fact 21 = .ok (.iconst 0, 1) := by decide +kernel
theorem dL_fact_22 : decode cL_fact 22 = .ok (.ireturn, 1) := by decide +kernel
theorem dL_factByPairs_0 : decode cL_factByPairs 0 = .ok (.aload_n 3, 1) := by decide +kernel
theorem dL_factByPairs_1 : decode cL_factByPairs 1 = .ok (.iconst 0, 1) := by decide +kernel
theorem dL_factByPairs_2 : decode cL_factByPairs 2 = .ok (.aload_n 0, 1) := by decide +kernel
theorem dL_factByPairs_3 : decode cL_factByPairs 3 = .ok (.iload_n 1, 1) := by decide +kernel
theorem dL_factByPairs_4 : decode cL_factByPairs 4 = .ok (.iload_n 2, 1) := by decide +kernel
theorem dL_factByPairs_5 : decode cL_factByPairs 5 = .ok (.invokevirtual 91, 3) := by decide +kernel
theorem dL_factByPairs_8 : decode cL_factByPairs 8 = .ok (.i2l, 1) := by decide +kernel
theorem dL_factByPairs_9 : decode cL_factByPairs 9 = .ok (.lastore, 1) := by decide +kernel
theorem dL_factByPairs_10 : decode cL_factByPairs 10 = .ok (.goto 11, 3) := by decide +kernel
theorem dL_factByPairs_13 : decode cL_factByPairs 13 = .ok (.astore 4, 2) := by decide +kernel
theorem dL_factByPairs_15 : decode cL_factByPairs 15 = .ok (.iconst 1, 1) := by decide +kernel
theorem dL_factByPairs_16 : decode cL_factByPairs 16 = .ok (.ireturn, 1) := by decide +kernel
theorem dL_factByPairs_17 : decode cL_factByPairs 17 = .ok (.astore 4, 2) := by decide +kernel
theorem dL_factByPairs_19 : decode cL_factByPairs 19 = .ok (.iconst 2, 1) := by decide +kernel
theorem dL_factByPairs_20 : decode cL_factByPairs 20 = .ok (.ireturn, 1) := by decide +kernel
theorem dL_factByPairs_21 : decode cL_factByPairs 21 = .ok (.iconst 0, 1) := by decide +kernel
theorem dL_factByPairs_22 : decode cL_factByPairs 22 = .ok (.ireturn, 1) := by decide +kernel
theorem dL_factFrom_0 : decode cL_factFrom 0 = .ok (.aload_n 3, 1) := by decide +kernel
theorem dL_factFrom_1 : decode cL_factFrom 1 = .ok (.iconst 0, 1) := by decide +kernel
theorem dL_factFrom_2 : decode cL_factFrom 2 = .ok (.aload_n 0, 1) := by decide +kernel
theorem dL_factFrom_3 : decode cL_factFrom 3 = .ok (.iload_n 1, 1) := by decide +kernel
theorem dL_factFrom_4 : decode cL_factFrom 4 = .ok (.iload_n 2, 1) := by decide +kernel
theorem dL_factFrom_5 : decode cL_factFrom 5 = .ok (.invokevirtual 94, 3) := by decide +kernel
theorem dL_factFrom_8 : decode cL_factFrom 8 = .ok (.i2l, 1) := by decide +kernel
theorem dL_factFrom_9 : decode cL_factFrom 9 = .ok (.lastore, 1) := by decide +kernel
theorem dL_factFrom_10 : decode cL_factFrom 10 = .ok (.goto 11, 3) := by decide +kernel
theorem dL_factFrom_13 : decode cL_factFrom 13 = .ok (.astore 4, 2) := by decide +kernel
theorem dL_factFrom_15 : decode cL_factFrom 15 = .ok (.iconst 1, 1) := by decide +kernel
theorem dL_factFrom_16 : decode cL_factFrom 16 = .ok (.ireturn, 1) := by decide +kernel
theorem dL_factFrom_17 : decode cL_factFrom 17 = .ok (.astore 4, 2) := by decide +kernel
theorem dL_factFrom_19 : decode cL_factFrom 19 = .ok (.iconst 2, 1) := by decide +kernel
theorem dL_factFrom_20 : decode cL_factFrom 20 = .ok (.ireturn, 1) := by decide +kernel
theorem dL_factFrom_21 : decode cL_factFrom 21 = .ok (.iconst 0, 1) := by decide +kernel
theorem dL_factFrom_22 : decode cL_factFrom 22 = .ok (.ireturn, 1) := by decide +kernel
theorem dL_agreement_0 : decode cL_agreement 0 = .ok (.aload_n 3, 1) := by decide +kernel
theorem dL_agreement_1 : decode cL_agreement 1 = .ok (.iconst 0, 1) := by decide +kernel
theorem dL_agreement_2 : decode cL_agreement 2 = .ok (.aload_n 0, 1) := by decide +kernel
theorem dL_agreement_3 : decode cL_agreement 3 = .ok (.iload_n 1, 1) := by decide +kernel
theorem dL_agreement_4 : decode cL_agreement 4 = .ok (.iload_n 2, 1) := by decide +kernel
theorem dL_agreement_5 : decode cL_agreement 5 = .ok (.invokevirtual 97, 3) := by decide +kernel
theorem dL_agreement_8 : decode cL_agreement 8 = .ok (.f2d, 1) := by decide +kernel
theorem dL_agreement_9 : decode cL_agreement 9 = .ok (.dastore, 1) := by decide +kernel
theorem dL_agreement_10 : decode cL_agreement 10 = .ok (.goto 11, 3) := by decide +kernel
theorem dL_agreement_13 : decode cL_agreement 13 = .ok (.astore 4, 2) := by decide +kernel
theorem dL_agreement_15 : decode cL_agreement 15 = .ok (.iconst 1, 1) := by decide +kernel
theorem dL_agreement_16 : decode cL_agreement 16 = .ok (.ireturn, 1) := by decide +kernel
theorem dL_agreement_17 : decode cL_agreement 17 = .ok (.astore 4, 2) := by decide +kernel
theorem dL_agreement_19 : decode cL_agreement 19 = .ok (.iconst 2, 1) := by decide +kernel
theorem dL_agreement_20 : decode cL_agreement 20 = .ok (.ireturn, 1) := by decide +kernel
theorem dL_agreement_21 : decode cL_agreement 21 = .ok (.iconst 0, 1) := by decide +kernel
theorem dL_agreement_22 : decode cL_agreement 22 = .ok (.ireturn, 1) := by decide +kernel
theorem dL_setLimit_0 : decode cL_setLimit 0 = .ok (.aload_n 2, 1) := by decide +kernel
theorem dL_setLimit_1 : decode cL_setLimit 1 = .ok (.iconst 0, 1) := by decide +kernel
theorem dL_setLimit_2 : decode cL_setLimit 2 = .ok (.aload_n 0, 1) := by decide +kernel
theorem dL_setLimit_3 : decode cL_setLimit 3 = .ok (.iload_n 1, 1) := by decide +kernel
theorem dL_setLimit_4 : decode cL_setLimit 4 = .ok (.invokevirtual 101, 3) := by decide +kernel
theorem dL_setLimit_7 : decode cL_setLimit 7 = .ok (.i2l, 1) := by decide +kernel
theorem dL_setLimit_8 : decode cL_setLimit 8 = .ok (.lastore, 1) := by decide +kernel
theorem dL_setLimit_9 : decode cL_setLimit 9 = .ok (.goto 6, 3) := by decide +kernel
theorem dL_setLimit_12 : decode cL_setLimit 12 = .ok (.astore_n 3, 1) := by decide +kernel
theorem dL_setLimit_13 : decode cL_setLimit 13 = .ok (.iconst 1, 1) := by decide +kernel
theorem dL_setLimit_14 : decode cL_setLimit 14 = .ok (.ireturn, 1) := by decide +kernel
theorem dL_setLimit_15 : decode cL_setLimit 15 = .ok (.iconst 0, 1) := by decide +kernel
theorem dL_setLimit_16 : decode cL_setLimit 16 = .ok (.ireturn, 1) := by decide +kernel
theorem dL_isGhost_0 : decode cL_isGhost 0 = .ok (.aload_n 2, 1) := by decide +kernel
theorem dL_isGhost_1 : decode cL_isGhost 1 = .ok (.iconst 0, 1) := by decide +kernel
theorem dL_isGhost_2 : decode cL_isGhost 2 = .ok (.aload_n 0, 1) := by decide +kernel
theorem dL_isGhost_3 : decode cL_isGhost 3 = .ok (.iload_n 1, 1) := by decide +kernel
theorem dL_isGhost_4 : decode cL_isGhost 4 = .ok (.invokevirtual 104, 3) := by decide +kernel
theorem dL_isGhost_7 : decode cL_isGhost 7 = .ok (.ifCond .eq 7, 3) := by decide +kernel
theorem dL_isGhost_10 : decode cL_isGhost 10 = .ok (.lconst 1, 1) := by decide +kernel
theorem dL_isGhost_11 : decode cL_isGhost 11 = .ok (.goto 4, 3) := by decide +kernel
theorem dL_isGhost_14 : decode cL_isGhost 14 = .ok (.lconst 0, 1) := by decide +kernel
theorem dL_isGhost_15 : decode cL_isGhost 15 = .ok (.lastore, 1) := by decide +kernel
theorem dL_isGhost_16 : decode cL_isGhost 16 = .ok (.goto 6, 3) := by decide +kernel
theorem dL_isGhost_19 : decode cL_isGhost 19 = .ok (.astore_n 3, 1) := by decide +kernel
theorem dL_isGhost_20 : decode cL_isGhost 20 = .ok (.iconst 1, 1) := by decide +kernel
theorem dL_isGhost_21 : decode cL_isGhost 21 = .ok (.ireturn, 1) := by decide +kernel
theorem dL_isGhost_22 : decode cL_isGhost 22 = .ok (.iconst 0, 1) := by decide +kernel
theorem dL_isGhost_23 : decode cL_isGhost 23 = .ok (.ireturn, 1) := by decide +kernel
theorem dL_pass_0 : decode cL_pass 0 = .ok (.aload_n 2, 1) := by decide +kernel
theorem dL_pass_1 : decode cL_pass 1 = .ok (.iconst 0, 1) := by decide +kernel
theorem dL_pass_2 : decode cL_pass 2 = .ok (.aload_n 0, 1) := by decide +kernel
theorem dL_pass_3 : decode cL_pass 3 = .ok (.iload_n 1, 1) := by decide +kernel
theorem dL_pass_4 : decode cL_pass 4 = .ok (.invokevirtual 108, 3) := by decide +kernel
theorem dL_pass_7 : decode cL_pass 7 = .ok (.i2l, 1) := by decide +kernel
theorem dL_pass_8 : decode cL_pass 8 = .ok (.lastore, 1) := by decide +kernel
theorem dL_pass_9 : decode cL_pass 9 = .ok (.goto 6, 3) := by decide +kernel
theorem dL_pass_12 : decode cL_pass 12 = .ok (.astore_n 3, 1) := by decide +kernel
theorem dL_pass_13 : decode cL_pass 13 = .ok (.iconst 1, 1) := by decide +kernel
theorem dL_pass_14 : decode cL_pass 14 = .ok (.ireturn, 1) := by decide +kernel
theorem dL_pass_15 : decode cL_pass 15 = .ok (.iconst 0, 1) := by decide +kernel
theorem dL_pass_16 : decode cL_pass 16 = .ok (.ireturn, 1) := by decide +kernel
theorem dL_law_0 : decode cL_law 0 = .ok (.new 8, 3) := by decide +kernel
theorem dL_law_3 : decode cL_law 3 = .ok (.dup, 1) := by decide +kernel
theorem dL_law_4 : decode cL_law 4 = .ok (.invokespecial 111, 3) := by decide +kernel
theorem dL_law_7 : decode cL_law 7 = .ok (.astore_n 1, 1) := by decide +kernel
theorem dL_law_8 : decode cL_law 8 = .ok (.new 112, 3) := by decide +kernel
theorem dL_law_11 : decode cL_law 11 = .ok (.dup, 1) := by decide +kernel
theorem dL_law_12 : decode cL_law 12 = .ok (.invokespecial 114, 3) := by decide +kernel
theorem dL_law_15 : decode cL_law 15 = .ok (.astore_n 2, 1) := by decide +kernel
theorem dL_law_16 : decode cL_law 16 = .ok (.iconst 1, 1) := by decide +kernel
theorem dL_law_17 : decode cL_law 17 = .ok (.newarray .long, 2) := by decide +kernel
theorem dL_law_19 : decode cL_law 19 = .ok (.astore_n 3, 1) := by decide +kernel
theorem dL_law_20 : decode cL_law 20 = .ok (.iconst 1, 1) := by decide +kernel
theorem dL_law_21 : decode cL_law 21 = .ok (.newarray .double, 2) := by decide +kernel
theorem dL_law_23 : decode cL_law 23 = .ok (.astore 4, 2) := by decide +kernel
theorem dL_law_25 : decode cL_law 25 = .ok (.iconst 0, 1) := by decide +kernel
theorem dL_law_26 : decode cL_law 26 = .ok (.istore 5, 2) := by decide +kernel
theorem dL_law_28 : decode cL_law 28 = .ok (.iload 5, 2) := by decide +kernel
theorem dL_law_30 : decode cL_law 30 = .ok (.aload_n 0, 1) := by decide +kernel
theorem dL_law_31 : decode cL_law 31 = .ok (.arraylength, 1) := by decide +kernel
theorem dL_law_32 : decode cL_law 32 = .ok (.iconst 5, 1) := by decide +kernel
theorem dL_law_33 : decode cL_law 33 = .ok (.isub, 1) := by decide +kernel
theorem dL_law_34 : decode cL_law 34 = .ok (.if_icmp .gt 2180, 3) := by decide +kernel
theorem dL_law_37 : decode cL_law 37 = .ok (.aload_n 0, 1) := by decide +kernel
theorem dL_law_38 : decode cL_law 38 = .ok (.iload 5, 2) := by decide +kernel
theorem dL_law_40 : decode cL_law 40 = .ok (.iaload, 1) := by decide +kernel
theorem dL_law_41 : decode cL_law 41 = .ok (.bipush 63, 2) := by decide +kernel
theorem dL_law_43 : decode cL_law 43 = .ok (.iand, 1) := by decide +kernel
theorem dL_law_44 : decode cL_law 44 = .ok (.tableswitch 2164 0 35 #[160, 216, 284, 376, 456, 536, 592, 648, 716, 784, 797, 865, 921, 977, 1033, 1046, 1102, 1170, 1245, 1313, 1369, 1425, 1505, 1573, 1629, 1697, 1765, 1833, 1923, 1979, 2042, 2055, 2068, 2081, 2137, 2150], 160) := by decide +kernel
theorem dL_law_204 : decode cL_law 204 = .ok (.aload_n 1, 1) := by decide +kernel
theorem dL_law_205 : decode cL_law 205 = .ok (.aload_n 0, 1) := by decide +kernel
theorem dL_law_206 : decode cL_law 206 = .ok (.iload 5, 2) := by decide +kernel
theorem dL_law_208 : decode cL_law 208 = .ok (.iconst 1, 1) := by decide +kernel
theorem dL_law_209 : decode cL_law 209 = .ok (.iadd, 1) := by decide +kernel
theorem dL_law_210 : decode cL_law 210 = .ok (.iaload, 1) := by decide +kernel
theorem dL_law_211 : decode cL_law 211 = .ok (.aload_n 3, 1) := by decide +kernel
theorem dL_law_212 : decode cL_law 212 = .ok (.invokestatic 115, 3) := by decide +kernel
theorem dL_law_215 : decode cL_law 215 = .ok (.istore 6, 2) := by decide +kernel
theorem dL_law_217 : decode cL_law 217 = .ok (.aload_n 2, 1) := by decide +kernel
theorem dL_law_218 : decode cL_law 218 = .ok (.aload_n 0, 1) := by decide +kernel
theorem dL_law_219 : decode cL_law 219 = .ok (.iload 5, 2) := by decide +kernel
theorem dL_law_221 : decode cL_law 221 = .ok (.iconst 1, 1) := by decide +kernel
theorem dL_law_222 : decode cL_law 222 = .ok (.iadd, 1) := by decide +kernel
theorem dL_law_223 : decode cL_law 223 = .ok (.iaload, 1) := by decide +kernel
theorem dL_law_224 : decode cL_law 224 = .ok (.invokevirtual 120, 3) := by decide +kernel
theorem dL_law_227 : decode cL_law 227 = .ok (.istore 7, 2) := by decide +kernel
theorem dL_law_229 : decode cL_law 229 = .ok (.aload_n 2, 1) := by decide +kernel
theorem dL_law_230 : decode cL_law 230 = .ok (.invokevirtual 121, 3) := by decide +kernel
theorem dL_law_233 : decode cL_law 233 = .ok (.iload 6, 2) := by decide +kernel
theorem dL_law_235 : decode cL_law 235 = .ok (.if_icmp .eq 5, 3) := by decide +kernel
theorem dL_law_238 : decode cL_law 238 = .ok (.iconst 0, 1) := by decide +kernel
theorem dL_law_239 : decode cL_law 239 = .ok (.ireturn, 1) := by decide +kernel
theorem dL_law_240 : decode cL_law 240 = .ok (.iload 6, 2) := by decide +kernel
theorem dL_law_242 : decode cL_law 242 = .ok (.ifCond .ne 15, 3) := by decide +kernel
theorem dL_law_245 : decode cL_law 245 = .ok (.aload_n 3, 1) := by decide +kernel
theorem dL_law_246 : decode cL_law 246 = .ok (.iconst 0, 1) := by decide +kernel
theorem dL_law_247 : decode cL_law 247 = .ok (.laload, 1) := by decide +kernel
theorem dL_law_248 : decode cL_law 248 = .ok (.iload 7, 2) := by decide +kernel
theorem dL_law_250 : decode cL_law 250 = .ok (.i2l, 1) := by decide +kernel
theorem dL_law_251 : decode cL_law 251 = .ok (.lcmp, 1) := by decide +kernel
theorem dL_law_252 : decode cL_law 252 = .ok (.ifCond .eq 5, 3) := by decide +kernel
theorem dL_law_255 : decode cL_law 255 = .ok (.iconst 0, 1) := by decide +kernel
theorem dL_law_256 : decode cL_law 256 = .ok (.ireturn, 1) := by decide +kernel
theorem dL_law_257 : decode cL_law 257 = .ok (.goto 1951, 3) := by decide +kernel
theorem dL_law_260 : decode cL_law 260 = .ok (.aload_n 1, 1) := by decide +kernel
theorem dL_law_261 : decode cL_law 261 = .ok (.aload_n 0, 1) := by decide +kernel
theorem dL_law_262 : decode cL_law 262 = .ok (.iload 5, 2) := by decide +kernel
theorem dL_law_264 : decode cL_law 264 = .ok (.iconst 1, 1) := by decide +kernel
theorem dL_law_265 : decode cL_law 265 = .ok (.iadd, 1) := by decide +kernel
theorem dL_law_266 : decode cL_law 266 = .ok (.iaload, 1) := by decide +kernel
theorem dL_law_267 : decode cL_law 267 = .ok (.aload_n 0, 1) := by decide +kernel
theorem dL_law_268 : decode cL_law 268 = .ok (.iload 5, 2) := by decide +kernel
theorem dL_law_270 : decode cL_law 270 = .ok (.iconst 2, 1) := by decide +kernel
theorem dL_law_271 : decode cL_law 271 = .ok (.iadd, 1) := by decide +kernel
theorem dL_law_272 : decode cL_law 272 = .ok (.iaload, 1) := by decide +kernel
theorem dL_law_273 : decode cL_law 273 = .ok (.aload_n 3, 1) := by decide +kernel
theorem dL_law_274 : decode cL_law 274 = .ok (.invokestatic 125, 3) := by decide +kernel
theorem dL_law_277 : decode cL_law 277 = .ok (.istore 6, 2) := by decide +kernel
theorem dL_law_279 : decode cL_law 279 = .ok (.aload_n 2, 1) := by decide +kernel
theorem dL_law_280 : decode cL_law 280 = .ok (.aload_n 0, 1) := by decide +kernel
theorem dL_law_281 : decode cL_law 281 = .ok (.iload 5, 2) := by decide +kernel
theorem dL_law_283 : decode cL_law 283 = .ok (.iconst 1, 1) := by decide +kernel
theorem dL_law_284 : decode cL_law 284 = .ok (.iadd, 1) := by decide +kernel
theorem dL_law_285 : decode cL_law 285 = .ok (.iaload, 1) := by decide +kernel
theorem dL_law_286 : decode cL_law 286 = .ok (.aload_n 0, 1) := by decide +kernel
theorem dL_law_287 : decode cL_law 287 = .ok (.iload 5, 2) := by decide +kernel
theorem dL_law_289 : decode cL_law 289 = .ok (.iconst 2, 1) := by decide +kernel
theorem dL_law_290 : decode cL_law 290 = .ok (.iadd, 1) := by decide +kernel
theorem dL_law_291 : decode cL_law 291 = .ok (.iaload, 1) := by decide +kernel
theorem dL_law_292 : decode cL_law 292 = .ok (.invokevirtual 128, 3) := by decide +kernel
theorem dL_law_295 : decode cL_law 295 = .ok (.istore 7, 2) := by decide +kernel
theorem dL_law_297 : decode cL_law 297 = .ok (.aload_n 2, 1) := by decide +kernel
theorem dL_law_298 : decode cL_law 298 = .ok (.invokevirtual 121, 3) := by decide +kernel
theorem dL_law_301 : decode cL_law 301 = .ok (.iload 6, 2) := by decide +kernel
theorem dL_law_303 : decode cL_law 303 = .ok (.if_icmp .eq 5, 3) := by decide +kernel
theorem dL_law_306 : decode cL_law 306 = .ok (.iconst 0, 1) := by decide +kernel
theorem dL_law_307 : decode cL_law 307 = .ok (.ireturn, 1) := by decide +kernel
theorem dL_law_308 : decode cL_law 308 = .ok (.iload 6, 2) := by decide +kernel
theorem dL_law_310 : decode cL_law 310 = .ok (.ifCond .ne 15, 3) := by decide +kernel
theorem dL_law_313 : decode cL_law 313 = .ok (.aload_n 3, 1) := by decide +kernel
theorem dL_law_314 : decode cL_law 314 = .ok (.iconst 0, 1) := by decide +kernel
theorem dL_law_315 : decode cL_law 315 = .ok (.laload, 1) := by decide +kernel
theorem dL_law_316 : decode cL_law 316 = .ok (.iload 7, 2) := by decide +kernel
theorem dL_law_318 : decode cL_law 318 = .ok (.i2l, 1) := by decide +kernel
theorem dL_law_319 : decode cL_law 319 = .ok (.lcmp, 1) := by decide +kernel
theorem dL_law_320 : decode cL_law 320 = .ok (.ifCond .eq 5, 3) := by decide +kernel
theorem dL_law_323 : decode cL_law 323 = .ok (.iconst 0, 1) := by decide +kernel
theorem dL_law_324 : decode cL_law 324 = .ok (.ireturn, 1) := by decide +kernel
theorem dL_law_325 : decode cL_law 325 = .ok (.goto 1883, 3) := by decide +kernel
theorem dL_law_328 : decode cL_law 328 = .ok (.aload_n 1, 1) := by decide +kernel
theorem dL_law_329 : decode cL_law 329 = .ok (.aload_n 0, 1) := by decide +kernel
theorem dL_law_330 : decode cL_law 330 = .ok (.iload 5, 2) := by decide +kernel
theorem dL_law_332 : decode cL_law 332 = .ok (.iconst 1, 1) := by decide +kernel
theorem dL_law_333 : decode cL_law 333 = .ok (.iadd, 1) := by decide +kernel
theorem dL_law_334 : decode cL_law 334 = .ok (.iaload, 1) := by decide +kernel
theorem dL_law_335 : decode cL_law 335 = .ok (.aload_n 0, 1) := by decide +kernel
theorem dL_law_336 : decode cL_law 336 = .ok (.iload 5, 2) := by decide +kernel
theorem dL_law_338 : decode cL_law 338 = .ok (.iconst 2, 1) := by decide +kernel
theorem dL_law_339 : decode cL_law 339 = .ok (.iadd, 1) := by decide +kernel
theorem dL_law_340 : decode cL_law 340 = .ok (.iaload, 1) := by decide +kernel
theorem dL_law_341 : decode cL_law 341 = .ok (.aload_n 0, 1) := by decide +kernel
theorem dL_law_342 : decode cL_law 342 = .ok (.iload 5, 2) := by decide +kernel
theorem dL_law_344 : decode cL_law 344 = .ok (.iconst 3, 1) := by decide +kernel
theorem dL_law_345 : decode cL_law 345 = .ok (.iadd, 1) := by decide +kernel
theorem dL_law_346 : decode cL_law 346 = .ok (.iaload, 1) := by decide +kernel
theorem dL_law_347 : decode cL_law 347 = .ok (.aload_n 0, 1) := by decide +kernel
theorem dL_law_348 : decode cL_law 348 = .ok (.iload 5, 2) := by decide +kernel
theorem dL_law_350 : decode cL_law 350 = .ok (.iconst 4, 1) := by decide +kernel
theorem dL_law_351 : decode cL_law 351 = .ok (.iadd, 1) := by decide +kernel
theorem dL_law_352 : decode cL_law 352 = .ok (.iaload, 1) := by decide +kernel
theorem dL_law_353 : decode cL_law 353 = .ok (.aload_n 3, 1) := by decide +kernel
theorem dL_law_354 : decode cL_law 354 = .ok (.invokestatic 129, 3) := by decide +kernel
theorem dL_law_357 : decode cL_law 357 = .ok (.istore 6, 2) := by decide +kernel
theorem dL_law_359 : decode cL_law 359 = .ok (.aload_n 2, 1) := by decide +kernel
theorem dL_law_360 : decode cL_law 360 = .ok (.aload_n 0, 1) := by decide +kernel
theorem dL_law_361 : decode cL_law 361 = .ok (.iload 5, 2) := by decide +kernel
theorem dL_law_363 : decode cL_law 363 = .ok (.iconst 1, 1) := by decide +kernel
theorem dL_law_364 : decode cL_law 364 = .ok (.iadd, 1) := by decide +kernel
theorem dL_law_365 : decode cL_law 365 = .ok (.iaload, 1) := by decide +kernel
theorem dL_law_366 : decode cL_law 366 = .ok (.aload_n 0, 1) := by decide +kernel
theorem dL_law_367 : decode cL_law 367 = .ok (.iload 5, 2) := by decide +kernel
theorem dL_law_369 : decode cL_law 369 = .ok (.iconst 2, 1) := by decide +kernel
theorem dL_law_370 : decode cL_law 370 = .ok (.iadd, 1) := by decide +kernel
theorem dL_law_371 : decode cL_law 371 = .ok (.iaload, 1) := by decide +kernel
theorem dL_law_372 : decode cL_law 372 = .ok (.aload_n 0, 1) := by decide +kernel
theorem dL_law_373 : decode cL_law 373 = .ok (.iload 5, 2) := by decide +kernel
theorem dL_law_375 : decode cL_law 375 = .ok (.iconst 3, 1) := by decide +kernel
theorem dL_law_376 : decode cL_law 376 = .ok (.iadd, 1) := by decide +kernel
theorem dL_law_377 : decode cL_law 377 = .ok (.iaload, 1) := by decide +kernel
theorem dL_law_378 : decode cL_law 378 = .ok (.aload_n 0, 1) := by decide +kernel
theorem dL_law_379 : decode cL_law 379 = .ok (.iload 5, 2) := by decide +kernel
theorem dL_law_381 : decode cL_law 381 = .ok (.iconst 4, 1) := by decide +kernel
theorem dL_law_382 : decode cL_law 382 = .ok (.iadd, 1) := by decide +kernel
theorem dL_law_383 : decode cL_law 383 = .ok (.iaload, 1) := by decide +kernel
theorem dL_law_384 : decode cL_law 384 = .ok (.invokevirtual 132, 3) := by decide +kernel
theorem dL_law_387 : decode cL_law 387 = .ok (.istore 7, 2) := by decide +kernel
theorem dL_law_389 : decode cL_law 389 = .ok (.aload_n 2, 1) := by decide +kernel
theorem dL_law_390 : decode cL_law 390 = .ok (.invokevirtual 121, 3) := by decide +kernel
theorem dL_law_393 : decode cL_law 393 = .ok (.iload 6, 2) := by decide +kernel
theorem dL_law_395 : decode cL_law 395 = .ok (.if_icmp .eq 5, 3) := by decide +kernel
theorem dL_law_398 : decode cL_law 398 = .ok (.iconst 0, 1) := by decide +kernel
theorem dL_law_399 : decode cL_law 399 = .ok (.ireturn, 1) := by decide +kernel
theorem dL_law_400 : decode cL_law 400 = .ok (.iload 6, 2) := by decide +kernel
theorem dL_law_402 : decode cL_law 402 = .ok (.ifCond .ne 15, 3) := by decide +kernel
theorem dL_law_405 : decode cL_law 405 = .ok (.aload_n 3, 1) := by decide +kernel
theorem dL_law_406 : decode cL_law 406 = .ok (.iconst 0, 1) := by decide +kernel
theorem dL_law_407 : decode cL_law 407 = .ok (.laload, 1) := by decide +kernel
theorem dL_law_408 : decode cL_law 408 = .ok (.iload 7, 2) := by decide +kernel
theorem dL_law_410 : decode cL_law 410 = .ok (.i2l, 1) := by decide +kernel
theorem dL_law_411 : decode cL_law 411 = .ok (.lcmp, 1) := by decide +kernel
theorem dL_law_412 : decode cL_law 412 = .ok (.ifCond .eq 5, 3) := by decide +kernel
theorem dL_law_415 : decode cL_law 415 = .ok (.iconst 0, 1) := by decide +kernel
theorem dL_law_416 : decode cL_law 416 = .ok (.ireturn, 1) := by decide +kernel
theorem dL_law_417 : decode cL_law 417 = .ok (.goto 1791, 3) := by decide +kernel
theorem dL_law_420 : decode cL_law 420 = .ok (.aload_n 1, 1) := by decide +kernel
theorem dL_law_421 : decode cL_law 421 = .ok (.aload_n 0, 1) := by decide +kernel
theorem dL_law_422 : decode cL_law 422 = .ok (.iload 5, 2) := by decide +kernel
theorem dL_law_424 : decode cL_law 424 = .ok (.iconst 1, 1) := by decide +kernel
theorem dL_law_425 : decode cL_law 425 = .ok (.iadd, 1) := by decide +kernel
theorem dL_law_426 : decode cL_law 426 = .ok (.iaload, 1) := by decide +kernel
theorem dL_law_427 : decode cL_law 427 = .ok (.aload_n 0, 1) := by decide +kernel
theorem dL_law_428 : decode cL_law 428 = .ok (.iload 5, 2) := by decide +kernel
theorem dL_law_430 : decode cL_law 430 = .ok (.iconst 2, 1) := by decide +kernel
theorem dL_law_431 : decode cL_law 431 = .ok (.iadd, 1) := by decide +kernel
theorem dL_law_432 : decode cL_law 432 = .ok (.iaload, 1) := by decide +kernel
theorem dL_law_433 : decode cL_law 433 = .ok (.aload_n 0, 1) := by decide +kernel
theorem dL_law_434 : decode cL_law 434 = .ok (.iload 5, 2) := by decide +kernel
theorem dL_law_436 : decode cL_law 436 = .ok (.iconst 3, 1) := by decide +kernel
theorem dL_law_437 : decode cL_law 437 = .ok (.iadd, 1) := by decide +kernel
theorem dL_law_438 : decode cL_law 438 = .ok (.iaload, 1) := by decide +kernel
theorem dL_law_439 : decode cL_law 439 = .ok (.aload_n 3, 1) := by decide +kernel
theorem dL_law_440 : decode cL_law 440 = .ok (.invokestatic 133, 3) := by decide +kernel
theorem dL_law_443 : decode cL_law 443 = .ok (.istore 6, 2) := by decide +kernel
theorem dL_law_445 : decode cL_law 445 = .ok (.aload_n 2, 1) := by decide +kernel
theorem dL_law_446 : decode cL_law 446 = .ok (.aload_n 0, 1) := by decide +kernel
theorem dL_law_447 : decode cL_law 447 = .ok (.iload 5, 2) := by decide +kernel
theorem dL_law_449 : decode cL_law 449 = .ok (.iconst 1, 1) := by decide +kernel
theorem dL_law_450 : decode cL_law 450 = .ok (.iadd, 1) := by decide +kernel
theorem dL_law_451 : decode cL_law 451 = .ok (.iaload, 1) := by decide +kernel
theorem dL_law_452 : decode cL_law 452 = .ok (.aload_n 0, 1) := by decide +kernel
theorem dL_law_453 : decode cL_law 453 = .ok (.iload 5, 2) := by decide +kernel
theorem dL_law_455 : decode cL_law 455 = .ok (.iconst 2, 1) := by decide +kernel
theorem dL_law_456 : decode cL_law 456 = .ok (.iadd, 1) := by decide +kernel
theorem dL_law_457 : decode cL_law 457 = .ok (.iaload, 1) := by decide +kernel
theorem dL_law_458 : decode cL_law 458 = .ok (.aload_n 0, 1) := by decide +kernel
theorem dL_law_459 : decode cL_law 459 = .ok (.iload 5, 2) := by decide +kernel
theorem dL_law_461 : decode cL_law 461 = .ok (.iconst 3, 1) := by decide +kernel
theorem dL_law_462 : decode cL_law 462 = .ok (.iadd, 1) := by decide +kernel
theorem dL_law_463 : decode cL_law 463 = .ok (.iaload, 1) := by decide +kernel
theorem dL_law_464 : decode cL_law 464 = .ok (.invokevirtual 136, 3) := by decide +kernel
theorem dL_law_467 : decode cL_law 467 = .ok (.istore 7, 2) := by decide +kernel
theorem dL_law_469 : decode cL_law 469 = .ok (.aload_n 2, 1) := by decide +kernel
theorem dL_law_470 : decode cL_law 470 = .ok (.invokevirtual 121, 3) := by decide +kernel
theorem dL_law_473 : decode cL_law 473 = .ok (.iload 6, 2) := by decide +kernel
theorem dL_law_475 : decode cL_law 475 = .ok (.if_icmp .eq 5, 3) := by decide +kernel
theorem dL_law_478 : decode cL_law 478 = .ok (.iconst 0, 1) := by decide +kernel
theorem dL_law_479 : decode cL_law 479 = .ok (.ireturn, 1) := by decide +kernel
theorem dL_law_480 : decode cL_law 480 = .ok (.iload 6, 2) := by decide +kernel
theorem dL_law_482 : decode cL_law 482 = .ok (.ifCond .ne 15, 3) := by decide +kernel
theorem dL_law_485 : decode cL_law 485 = .ok (.aload_n 3, 1) := by decide +kernel
theorem dL_law_486 : decode cL_law 486 = .ok (.iconst 0, 1) := by decide +kernel
theorem dL_law_487 : decode cL_law 487 = .ok (.laload, 1) := by decide +kernel
theorem dL_law_488 : decode cL_law 488 = .ok (.iload 7, 2) := by decide +kernel
theorem dL_law_490 : decode cL_law 490 = .ok (.i2l, 1) := by decide +kernel
theorem dL_law_491 : decode cL_law 491 = .ok (.lcmp, 1) := by decide +kernel
theorem dL_law_492 : decode cL_law 492 = .ok (.ifCond .eq 5, 3) := by decide +kernel
theorem dL_law_495 : decode cL_law 495 = .ok (.iconst 0, 1) := by decide +kernel
theorem dL_law_496 : decode cL_law 496 = .ok (.ireturn, 1) := by decide +kernel
theorem dL_law_497 : decode cL_law 497 = .ok (.goto 1711, 3) := by decide +kernel
theorem dL_law_500 : decode cL_law 500 = .ok (.aload_n 1, 1) := by decide +kernel
theorem dL_law_501 : decode cL_law 501 = .ok (.aload_n 0, 1) := by decide +kernel
theorem dL_law_502 : decode cL_law 502 = .ok (.iload 5, 2) := by decide +kernel
theorem dL_law_504 : decode cL_law 504 = .ok (.iconst 1, 1) := by decide +kernel
theorem dL_law_505 : decode cL_law 505 = .ok (.iadd, 1) := by decide +kernel
theorem dL_law_506 : decode cL_law 506 = .ok (.iaload, 1) := by decide +kernel
theorem dL_law_507 : decode cL_law 507 = .ok (.aload_n 0, 1) := by decide +kernel
theorem dL_law_508 : decode cL_law 508 = .ok (.iload 5, 2) := by decide +kernel
theorem dL_law_510 : decode cL_law 510 = .ok (.iconst 2, 1) := by decide +kernel
theorem dL_law_511 : decode cL_law 511 = .ok (.iadd, 1) := by decide +kernel
theorem dL_law_512 : decode cL_law 512 = .ok (.iaload, 1) := by decide +kernel
theorem dL_law_513 : decode cL_law 513 = .ok (.aload_n 0, 1) := by decide +kernel
theorem dL_law_514 : decode cL_law 514 = .ok (.iload 5, 2) := by decide +kernel
theorem dL_law_516 : decode cL_law 516 = .ok (.iconst 3, 1) := by decide +kernel
theorem dL_law_517 : decode cL_law 517 = .ok (.iadd, 1) := by decide +kernel
theorem dL_law_518 : decode cL_law 518 = .ok (.iaload, 1) := by decide +kernel
theorem dL_law_519 : decode cL_law 519 = .ok (.aload_n 3, 1) := by decide +kernel
theorem dL_law_520 : decode cL_law 520 = .ok (.invokestatic 137, 3) := by decide +kernel
theorem dL_law_523 : decode cL_law 523 = .ok (.istore 6, 2) := by decide +kernel
theorem dL_law_525 : decode cL_law 525 = .ok (.aload_n 2, 1) := by decide +kernel
theorem dL_law_526 : decode cL_law 526 = .ok (.aload_n 0, 1) := by decide +kernel
theorem dL_law_527 : decode cL_law 527 = .ok (.iload 5, 2) := by decide +kernel
theorem dL_law_529 : decode cL_law 529 = .ok (.iconst 1, 1) := by decide +kernel
theorem dL_law_530 : decode cL_law 530 = .ok (.iadd, 1) := by decide +kernel
theorem dL_law_531 : decode cL_law 531 = .ok (.iaload, 1) := by decide +kernel
theorem dL_law_532 : decode cL_law 532 = .ok (.aload_n 0, 1) := by decide +kernel
theorem dL_law_533 : decode cL_law 533 = .ok (.iload 5, 2) := by decide +kernel
theorem dL_law_535 : decode cL_law 535 = .ok (.iconst 2, 1) := by decide +kernel
theorem dL_law_536 : decode cL_law 536 = .ok (.iadd, 1) := by decide +kernel
theorem dL_law_537 : decode cL_law 537 = .ok (.iaload, 1) := by decide +kernel
theorem dL_law_538 : decode cL_law 538 = .ok (.aload_n 0, 1) := by decide +kernel
theorem dL_law_539 : decode cL_law 539 = .ok (.iload 5, 2) := by decide +kernel
theorem dL_law_541 : decode cL_law 541 = .ok (.iconst 3, 1) := by decide +kernel
theorem dL_law_542 : decode cL_law 542 = .ok (.iadd, 1) := by decide +kernel
theorem dL_law_543 : decode cL_law 543 = .ok (.iaload, 1) := by decide +kernel
theorem dL_law_544 : decode cL_law 544 = .ok (.invokevirtual 139, 3) := by decide +kernel
theorem dL_law_547 : decode cL_law 547 = .ok (.istore 7, 2) := by decide +kernel
theorem dL_law_549 : decode cL_law 549 = .ok (.aload_n 2, 1) := by decide +kernel
theorem dL_law_550 : decode cL_law 550 = .ok (.invokevirtual 121, 3) := by decide +kernel
theorem dL_law_553 : decode cL_law 553 = .ok (.iload 6, 2) := by decide +kernel
theorem dL_law_555 : decode cL_law 555 = .ok (.if_icmp .eq 5, 3) := by decide +kernel
theorem dL_law_558 : decode cL_law 558 = .ok (.iconst 0, 1) := by decide +kernel
theorem dL_law_559 : decode cL_law 559 = .ok (.ireturn, 1) := by decide +kernel
theorem dL_law_560 : decode cL_law 560 = .ok (.iload 6, 2) := by decide +kernel
theorem dL_law_562 : decode cL_law 562 = .ok (.ifCond .ne 15, 3) := by decide +kernel
theorem dL_law_565 : decode cL_law 565 = .ok (.aload_n 3, 1) := by decide +kernel
theorem dL_law_566 : decode cL_law 566 = .ok (.iconst 0, 1) := by decide +kernel
theorem dL_law_567 : decode cL_law 567 = .ok (.laload, 1) := by decide +kernel
theorem dL_law_568 : decode cL_law 568 = .ok (.iload 7, 2) := by decide +kernel
theorem dL_law_570 : decode cL_law 570 = .ok (.i2l, 1) := by decide +kernel
theorem dL_law_571 : decode cL_law 571 = .ok (.lcmp, 1) := by decide +kernel
theorem dL_law_572 : decode cL_law 572 = .ok (.ifCond .eq 5, 3) := by decide +kernel
theorem dL_law_575 : decode cL_law 575 = .ok (.iconst 0, 1) := by decide +kernel
theorem dL_law_576 : decode cL_law 576 = .ok (.ireturn, 1) := by decide +kernel
theorem dL_law_577 : decode cL_law 577 = .ok (.goto 1631, 3) := by decide +kernel
theorem dL_law_580 : decode cL_law 580 = .ok (.aload_n 1, 1) := by decide +kernel
theorem dL_law_581 : decode cL_law 581 = .ok (.aload_n 0, 1) := by decide +kernel
theorem dL_law_582 : decode cL_law 582 = .ok (.iload 5, 2) := by decide +kernel
theorem dL_law_584 : decode cL_law 584 = .ok (.iconst 1, 1) := by decide +kernel
theorem dL_law_585 : decode cL_law 585 = .ok (.iadd, 1) := by decide +kernel
theorem dL_law_586 : decode cL_law 586 = .ok (.iaload, 1) := by decide +kernel
theorem dL_law_587 : decode cL_law 587 = .ok (.aload_n 3, 1) := by decide +kernel
theorem dL_law_588 : decode cL_law 588 = .ok (.invokestatic 140, 3) := by decide +kernel
theorem dL_law_591 : decode cL_law 591 = .ok (.istore 6, 2) := by decide +kernel
theorem dL_law_593 : decode cL_law 593 = .ok (.aload_n 2, 1) := by decide +kernel
theorem dL_law_594 : decode cL_law 594 = .ok (.aload_n 0, 1) := by decide +kernel
theorem dL_law_595 : decode cL_law 595 = .ok (.iload 5, 2) := by decide +kernel
theorem dL_law_597 : decode cL_law 597 = .ok (.iconst 1, 1) := by decide +kernel
theorem dL_law_598 : decode cL_law 598 = .ok (.iadd, 1) := by decide +kernel
theorem dL_law_599 : decode cL_law 599 = .ok (.iaload, 1) := by decide +kernel
theorem dL_law_600 : decode cL_law 600 = .ok (.invokevirtual 142, 3) := by decide +kernel
theorem dL_law_603 : decode cL_law 603 = .ok (.istore 7, 2) := by decide +kernel
theorem dL_law_605 : decode cL_law 605 = .ok (.aload_n 2, 1) := by decide +kernel
theorem dL_law_606 : decode cL_law 606 = .ok (.invokevirtual 121, 3) := by decide +kernel
theorem dL_law_609 : decode cL_law 609 = .ok (.iload 6, 2) := by decide +kernel
theorem dL_law_611 : decode cL_law 611 = .ok (.if_icmp .eq 5, 3) := by decide +kernel
theorem dL_law_614 : decode cL_law 614 = .ok (.iconst 0, 1) := by decide +kernel
theorem dL_law_615 : decode cL_law 615 = .ok (.ireturn, 1) := by decide +kernel
theorem dL_law_616 : decode cL_law 616 = .ok (.iload 6, 2) := by decide +kernel
theorem dL_law_618 : decode cL_law 618 = .ok (.ifCond .ne 15, 3) := by decide +kernel
theorem dL_law_621 : decode cL_law 621 = .ok (.aload_n 3, 1) := by decide +kernel
theorem dL_law_622 : decode cL_law 622 = .ok (.iconst 0, 1) := by decide +kernel
theorem dL_law_623 : decode cL_law 623 = .ok (.laload, 1) := by decide +kernel
theorem dL_law_624 : decode cL_law 624 = .ok (.iload 7, 2) := by decide +kernel
theorem dL_law_626 : decode cL_law 626 = .ok (.i2l, 1) := by decide +kernel
theorem dL_law_627 : decode cL_law 627 = .ok (.lcmp, 1) := by decide +kernel
theorem dL_law_628 : decode cL_law 628 = .ok (.ifCond .eq 5, 3) := by decide +kernel
theorem dL_law_631 : decode cL_law 631 = .ok (.iconst 0, 1) := by decide +kernel
theorem dL_law_632 : decode cL_law 632 = .ok (.ireturn, 1) := by decide +kernel
theorem dL_law_633 : decode cL_law 633 = .ok (.goto 1575, 3) := by decide +kernel
theorem dL_law_636 : decode cL_law 636 = .ok (.aload_n 1, 1) := by decide +kernel
theorem dL_law_637 : decode cL_law 637 = .ok (.aload_n 0, 1) := by decide +kernel
theorem dL_law_638 : decode cL_law 638 = .ok (.iload 5, 2) := by decide +kernel
theorem dL_law_640 : decode cL_law 640 = .ok (.iconst 1, 1) := by decide +kernel
theorem dL_law_641 : decode cL_law 641 = .ok (.iadd, 1) := by decide +kernel
theorem dL_law_642 : decode cL_law 642 = .ok (.iaload, 1) := by decide +kernel
theorem dL_law_643 : decode cL_law 643 = .ok (.aload_n 3, 1) := by decide +kernel
theorem dL_law_644 : decode cL_law 644 = .ok (.invokestatic 143, 3) := by decide +kernel
theorem dL_law_647 : decode cL_law 647 = .ok (.istore 6, 2) := by decide +kernel
theorem dL_law_649 : decode cL_law 649 = .ok (.aload_n 2, 1) := by decide +kernel
theorem dL_law_650 : decode cL_law 650 = .ok (.aload_n 0, 1) := by decide +kernel
theorem dL_law_651 : decode cL_law 651 = .ok (.iload 5, 2) := by decide +kernel
theorem dL_law_653 : decode cL_law 653 = .ok (.iconst 1, 1) := by decide +kernel
theorem dL_law_654 : decode cL_law 654 = .ok (.iadd, 1) := by decide +kernel
theorem dL_law_655 : decode cL_law 655 = .ok (.iaload, 1) := by decide +kernel
theorem dL_law_656 : decode cL_law 656 = .ok (.invokevirtual 145, 3) := by decide +kernel
theorem dL_law_659 : decode cL_law 659 = .ok (.istore 7, 2) := by decide +kernel
theorem dL_law_661 : decode cL_law 661 = .ok (.aload_n 2, 1) := by decide +kernel
theorem dL_law_662 : decode cL_law 662 = .ok (.invokevirtual 121, 3) := by decide +kernel
theorem dL_law_665 : decode cL_law 665 = .ok (.iload 6, 2) := by decide +kernel
theorem dL_law_667 : decode cL_law 667 = .ok (.if_icmp .eq 5, 3) := by decide +kernel
theorem dL_law_670 : decode cL_law 670 = .ok (.iconst 0, 1) := by decide +kernel
theorem dL_law_671 : decode cL_law 671 = .ok (.ireturn, 1) := by decide +kernel
theorem dL_law_672 : decode cL_law 672 = .ok (.iload 6, 2) := by decide +kernel
theorem dL_law_674 : decode cL_law 674 = .ok (.ifCond .ne 15, 3) := by decide +kernel
theorem dL_law_677 : decode cL_law 677 = .ok (.aload_n 3, 1) := by decide +kernel
theorem dL_law_678 : decode cL_law 678 = .ok (.iconst 0, 1) := by decide +kernel
theorem dL_law_679 : decode cL_law 679 = .ok (.laload, 1) := by decide +kernel
theorem dL_law_680 : decode cL_law 680 = .ok (.iload 7, 2) := by decide +kernel
theorem dL_law_682 : decode cL_law 682 = .ok (.i2l, 1) := by decide +kernel
theorem dL_law_683 : decode cL_law 683 = .ok (.lcmp, 1) := by decide +kernel
theorem dL_law_684 : decode cL_law 684 = .ok (.ifCond .eq 5, 3) := by decide +kernel
theorem dL_law_687 : decode cL_law 687 = .ok (.iconst 0, 1) := by decide +kernel
theorem dL_law_688 : decode cL_law 688 = .ok (.ireturn, 1) := by decide +kernel
theorem dL_law_689 : decode cL_law 689 = .ok (.goto 1519, 3) := by decide +kernel
theorem dL_law_692 : decode cL_law 692 = .ok (.aload_n 1, 1) := by decide +kernel
theorem dL_law_693 : decode cL_law 693 = .ok (.aload_n 0, 1) := by decide +kernel
theorem dL_law_694 : decode cL_law 694 = .ok (.iload 5, 2) := by decide +kernel
theorem dL_law_696 : decode cL_law 696 = .ok (.iconst 1, 1) := by decide +kernel
theorem dL_law_697 : decode cL_law 697 = .ok (.iadd, 1) := by decide +kernel
theorem dL_law_698 : decode cL_law 698 = .ok (.iaload, 1) := by decide +kernel
theorem dL_law_699 : decode cL_law 699 = .ok (.aload_n 0, 1) := by decide +kernel
theorem dL_law_700 : decode cL_law 700 = .ok (.iload 5, 2) := by decide +kernel
theorem dL_law_702 : decode cL_law 702 = .ok (.iconst 2, 1) := by decide +kernel
theorem dL_law_703 : decode cL_law 703 = .ok (.iadd, 1) := by decide +kernel
theorem dL_law_704 : decode cL_law 704 = .ok (.iaload, 1) := by decide +kernel
theorem dL_law_705 : decode cL_law 705 = .ok (.aload_n 3, 1) := by decide +kernel
theorem dL_law_706 : decode cL_law 706 = .ok (.invokestatic 146, 3) := by decide +kernel
theorem dL_law_709 : decode cL_law 709 = .ok (.istore 6, 2) := by decide +kernel
theorem dL_law_711 : decode cL_law 711 = .ok (.aload_n 2, 1) := by decide +kernel
theorem dL_law_712 : decode cL_law 712 = .ok (.aload_n 0, 1) := by decide +kernel
theorem dL_law_713 : decode cL_law 713 = .ok (.iload 5, 2) := by decide +kernel
theorem dL_law_715 : decode cL_law 715 = .ok (.iconst 1, 1) := by decide +kernel
theorem dL_law_716 : decode cL_law 716 = .ok (.iadd, 1) := by decide +kernel
theorem dL_law_717 : decode cL_law 717 = .ok (.iaload, 1) := by decide +kernel
theorem dL_law_718 : decode cL_law 718 = .ok (.aload_n 0, 1) := by decide +kernel
theorem dL_law_719 : decode cL_law 719 = .ok (.iload 5, 2) := by decide +kernel
theorem dL_law_721 : decode cL_law 721 = .ok (.iconst 2, 1) := by decide +kernel
theorem dL_law_722 : decode cL_law 722 = .ok (.iadd, 1) := by decide +kernel
theorem dL_law_723 : decode cL_law 723 = .ok (.iaload, 1) := by decide +kernel
theorem dL_law_724 : decode cL_law 724 = .ok (.invokevirtual 148, 3) := by decide +kernel
theorem dL_law_727 : decode cL_law 727 = .ok (.istore 7, 2) := by decide +kernel
theorem dL_law_729 : decode cL_law 729 = .ok (.aload_n 2, 1) := by decide +kernel
theorem dL_law_730 : decode cL_law 730 = .ok (.invokevirtual 121, 3) := by decide +kernel
theorem dL_law_733 : decode cL_law 733 = .ok (.iload 6, 2) := by decide +kernel
theorem dL_law_735 : decode cL_law 735 = .ok (.if_icmp .eq 5, 3) := by decide +kernel
theorem dL_law_738 : decode cL_law 738 = .ok (.iconst 0, 1) := by decide +kernel
theorem dL_law_739 : decode cL_law 739 = .ok (.ireturn, 1) := by decide +kernel
theorem dL_law_740 : decode cL_law 740 = .ok (.iload 6, 2) := by decide +kernel
theorem dL_law_742 : decode cL_law 742 = .ok (.ifCond .ne 15, 3) := by decide +kernel
theorem dL_law_745 : decode cL_law 745 = .ok (.aload_n 3, 1) := by decide +kernel
theorem dL_law_746 : decode cL_law 746 = .ok (.iconst 0, 1) := by decide +kernel
theorem dL_law_747 : decode cL_law 747 = .ok (.laload, 1) := by decide +kernel
theorem dL_law_748 : decode cL_law 748 = .ok (.iload 7, 2) := by decide +kernel
theorem dL_law_750 : decode cL_law 750 = .ok (.i2l, 1) := by decide +kernel
theorem dL_law_751 : decode cL_law 751 = .ok (.lcmp, 1) := by decide +kernel
theorem dL_law_752 : decode cL_law 752 = .ok (.ifCond .eq 5, 3) := by decide +kernel
theorem dL_law_755 : decode cL_law 755 = .ok (.iconst 0, 1) := by decide +kernel
theorem dL_law_756 : decode cL_law 756 = .ok (.ireturn, 1) := by decide +kernel
theorem dL_law_757 : decode cL_law 757 = .ok (.goto 1451, 3) := by decide +kernel
theorem dL_law_760 : decode cL_law 760 = .ok (.aload_n 1, 1) := by decide +kernel
theorem dL_law_761 : decode cL_law 761 = .ok (.aload_n 0, 1) := by decide +kernel
theorem dL_law_762 : decode cL_law 762 = .ok (.iload 5, 2) := by decide +kernel
theorem dL_law_764 : decode cL_law 764 = .ok (.iconst 1, 1) := by decide +kernel
theorem dL_law_765 : decode cL_law 765 = .ok (.iadd, 1) := by decide +kernel
theorem dL_law_766 : decode cL_law 766 = .ok (.iaload, 1) := by decide +kernel
theorem dL_law_767 : decode cL_law 767 = .ok (.aload_n 0, 1) := by decide +kernel
theorem dL_law_768 : decode cL_law 768 = .ok (.iload 5, 2) := by decide +kernel
theorem dL_law_770 : decode cL_law 770 = .ok (.iconst 2, 1) := by decide +kernel
theorem dL_law_771 : decode cL_law 771 = .ok (.iadd, 1) := by decide +kernel
theorem dL_law_772 : decode cL_law 772 = .ok (.iaload, 1) := by decide +kernel
theorem dL_law_773 : decode cL_law 773 = .ok (.aload_n 3, 1) := by decide +kernel
theorem dL_law_774 : decode cL_law 774 = .ok (.invokestatic 149, 3) := by decide +kernel
theorem dL_law_777 : decode cL_law 777 = .ok (.istore 6, 2) := by decide +kernel
theorem dL_law_779 : decode cL_law 779 = .ok (.aload_n 2, 1) := by decide +kernel
theorem dL_law_780 : decode cL_law 780 = .ok (.aload_n 0, 1) := by decide +kernel
theorem dL_law_781 : decode cL_law 781 = .ok (.iload 5, 2) := by decide +kernel
theorem dL_law_783 : decode cL_law 783 = .ok (.iconst 1, 1) := by decide +kernel
theorem dL_law_784 : decode cL_law 784 = .ok (.iadd, 1) := by decide +kernel
theorem dL_law_785 : decode cL_law 785 = .ok (.iaload, 1) := by decide +kernel
theorem dL_law_786 : decode cL_law 786 = .ok (.aload_n 0, 1) := by decide +kernel
theorem dL_law_787 : decode cL_law 787 = .ok (.iload 5, 2) := by decide +kernel
theorem dL_law_789 : decode cL_law 789 = .ok (.iconst 2, 1) := by decide +kernel
theorem dL_law_790 : decode cL_law 790 = .ok (.iadd, 1) := by decide +kernel
theorem dL_law_791 : decode cL_law 791 = .ok (.iaload, 1) := by decide +kernel
theorem dL_law_792 : decode cL_law 792 = .ok (.invokevirtual 151, 3) := by decide +kernel
theorem dL_law_795 : decode cL_law 795 = .ok (.istore 7, 2) := by decide +kernel
theorem dL_law_797 : decode cL_law 797 = .ok (.aload_n 2, 1) := by decide +kernel
theorem dL_law_798 : decode cL_law 798 = .ok (.invokevirtual 121, 3) := by decide +kernel
theorem dL_law_801 : decode cL_law 801 = .ok (.iload 6, 2) := by decide +kernel
theorem dL_law_803 : decode cL_law 803 = .ok (.if_icmp .eq 5, 3) := by decide +kernel
theorem dL_law_806 : decode cL_law 806 = .ok (.iconst 0, 1) := by decide +kernel
theorem dL_law_807 : decode cL_law 807 = .ok (.ireturn, 1) := by decide +kernel
theorem dL_law_808 : decode cL_law 808 = .ok (.iload 6, 2) := by decide +kernel
theorem dL_law_810 : decode cL_law 810 = .ok (.ifCond .ne 15, 3) := by decide +kernel
theorem dL_law_813 : decode cL_law 813 = .ok (.aload_n 3, 1) := by decide +kernel
theorem dL_law_814 : decode cL_law 814 = .ok (.iconst 0, 1) := by decide +kernel
theorem dL_law_815 : decode cL_law 815 = .ok (.laload, 1) := by decide +kernel
theorem dL_law_816 : decode cL_law 816 = .ok (.iload 7, 2) := by decide +kernel
theorem dL_law_818 : decode cL_law 818 = .ok (.i2l, 1) := by decide +kernel
theorem dL_law_819 : decode cL_law 819 = .ok (.lcmp, 1) := by decide +kernel
theorem dL_law_820 : decode cL_law 820 = .ok (.ifCond .eq 5, 3) := by decide +kernel
theorem dL_law_823 : decode cL_law 823 = .ok (.iconst 0, 1) := by decide +kernel
theorem dL_law_824 : decode cL_law 824 = .ok (.ireturn, 1) := by decide +kernel
theorem dL_law_825 : decode cL_law 825 = .ok (.goto 1383, 3) := by decide +kernel
theorem dL_law_828 : decode cL_law 828 = .ok (.aload_n 1, 1) := by decide +kernel
theorem dL_law_829 : decode cL_law 829 = .ok (.invokevirtual 152, 3) := by decide +kernel
theorem dL_law_832 : decode cL_law 832 = .ok (.aload_n 2, 1) := by decide +kernel
theorem dL_law_833 : decode cL_law 833 = .ok (.invokevirtual 155, 3) := by decide +kernel
theorem dL_law_836 : decode cL_law 836 = .ok (.if_icmp .eq 1372, 3) := by decide +kernel
theorem dL_law_839 : decode cL_law 839 = .ok (.iconst 0, 1) := by decide +kernel
theorem dL_law_840 : decode cL_law 840 = .ok (.ireturn, 1) := by decide +kernel
theorem dL_law_841 : decode cL_law 841 = .ok (.aload_n 1, 1) := by decide +kernel
theorem dL_law_842 : decode cL_law 842 = .ok (.aload_n 0, 1) := by decide +kernel
theorem dL_law_843 : decode cL_law 843 = .ok (.iload 5, 2) := by decide +kernel
theorem dL_law_845 : decode cL_law 845 = .ok (.iconst 1, 1) := by decide +kernel
theorem dL_law_846 : decode cL_law 846 = .ok (.iadd, 1) := by decide +kernel
theorem dL_law_847 : decode cL_law 847 = .ok (.iaload, 1) := by decide +kernel
theorem dL_law_848 : decode cL_law 848 = .ok (.aload_n 0, 1) := by decide +kernel
theorem dL_law_849 : decode cL_law 849 = .ok (.iload 5, 2) := by decide +kernel
theorem dL_law_851 : decode cL_law 851 = .ok (.iconst 2, 1) := by decide +kernel
theorem dL_law_852 : decode cL_law 852 = .ok (.iadd, 1) := by decide +kernel
theorem dL_law_853 : decode cL_law 853 = .ok (.iaload, 1) := by decide +kernel
theorem dL_law_854 : decode cL_law 854 = .ok (.aload_n 3, 1) := by decide +kernel
theorem dL_law_855 : decode cL_law 855 = .ok (.invokestatic 156, 3) := by decide +kernel
theorem dL_law_858 : decode cL_law 858 = .ok (.istore 6, 2) := by decide +kernel
theorem dL_law_860 : decode cL_law 860 = .ok (.aload_n 2, 1) := by decide +kernel
theorem dL_law_861 : decode cL_law 861 = .ok (.aload_n 0, 1) := by decide +kernel
theorem dL_law_862 : decode cL_law 862 = .ok (.iload 5, 2) := by decide +kernel
theorem dL_law_864 : decode cL_law 864 = .ok (.iconst 1, 1) := by decide +kernel
theorem dL_law_865 : decode cL_law 865 = .ok (.iadd, 1) := by decide +kernel
theorem dL_law_866 : decode cL_law 866 = .ok (.iaload, 1) := by decide +kernel
theorem dL_law_867 : decode cL_law 867 = .ok (.aload_n 0, 1) := by decide +kernel
theorem dL_law_868 : decode cL_law 868 = .ok (.iload 5, 2) := by decide +kernel
theorem dL_law_870 : decode cL_law 870 = .ok (.iconst 2, 1) := by decide +kernel
theorem dL_law_871 : decode cL_law 871 = .ok (.iadd, 1) := by decide +kernel
theorem dL_law_872 : decode cL_law 872 = .ok (.iaload, 1) := by decide +kernel
theorem dL_law_873 : decode cL_law 873 = .ok (.invokevirtual 158, 3) := by decide +kernel
theorem dL_law_876 : decode cL_law 876 = .ok (.istore 7, 2) := by decide +kernel
theorem dL_law_878 : decode cL_law 878 = .ok (.aload_n 2, 1) := by decide +kernel
theorem dL_law_879 : decode cL_law 879 = .ok (.invokevirtual 121, 3) := by decide +kernel
theorem dL_law_882 : decode cL_law 882 = .ok (.iload 6, 2) := by decide +kernel
theorem dL_law_884 : decode cL_law 884 = .ok (.if_icmp .eq 5, 3) := by decide +kernel
theorem dL_law_887 : decode cL_law 887 = .ok (.iconst 0, 1) := by decide +kernel
theorem dL_law_888 : decode cL_law 888 = .ok (.ireturn, 1) := by decide +kernel
theorem dL_law_889 : decode cL_law 889 = .ok (.iload 6, 2) := by decide +kernel
theorem dL_law_891 : decode cL_law 891 = .ok (.ifCond .ne 15, 3) := by decide +kernel
theorem dL_law_894 : decode cL_law 894 = .ok (.aload_n 3, 1) := by decide +kernel
theorem dL_law_895 : decode cL_law 895 = .ok (.iconst 0, 1) := by decide +kernel
theorem dL_law_896 : decode cL_law 896 = .ok (.laload, 1) := by decide +kernel
theorem dL_law_897 : decode cL_law 897 = .ok (.iload 7, 2) := by decide +kernel
theorem dL_law_899 : decode cL_law 899 = .ok (.i2l, 1) := by decide +kernel
theorem dL_law_900 : decode cL_law 900 = .ok (.lcmp, 1) := by decide +kernel
theorem dL_law_901 : decode cL_law 901 = .ok (.ifCond .eq 5, 3) := by decide +kernel
theorem dL_law_904 : decode cL_law 904 = .ok (.iconst 0, 1) := by decide +kernel
theorem dL_law_905 : decode cL_law 905 = .ok (.ireturn, 1) := by decide +kernel
theorem dL_law_906 : decode cL_law 906 = .ok (.goto 1302, 3) := by decide +kernel
theorem dL_law_909 : decode cL_law 909 = .ok (.aload_n 1, 1) := by decide +kernel
theorem dL_law_910 : decode cL_law 910 = .ok (.aload_n 0, 1) := by decide +kernel
theorem dL_law_911 : decode cL_law 911 = .ok (.iload 5, 2) := by decide +kernel
theorem dL_law_913 : decode cL_law 913 = .ok (.iconst 1, 1) := by decide +kernel
theorem dL_law_914 : decode cL_law 914 = .ok (.iadd, 1) := by decide +kernel
theorem dL_law_915 : decode cL_law 915 = .ok (.iaload, 1) := by decide +kernel
theorem dL_law_916 : decode cL_law 916 = .ok (.aload_n 3, 1) := by decide +kernel
theorem dL_law_917 : decode cL_law 917 = .ok (.invokestatic 159, 3) := by decide +kernel
theorem dL_law_920 : decode cL_law 920 = .ok (.istore 6, 2) := by decide +kernel
theorem dL_law_922 : decode cL_law 922 = .ok (.aload_n 2, 1) := by decide +kernel
theorem dL_law_923 : decode cL_law 923 = .ok (.aload_n 0, 1) := by decide +kernel
theorem dL_law_924 : decode cL_law 924 = .ok (.iload 5, 2) := by decide +kernel
theorem dL_law_926 : decode cL_law 926 = .ok (.iconst 1, 1) := by decide +kernel
theorem dL_law_927 : decode cL_law 927 = .ok (.iadd, 1) := by decide +kernel
theorem dL_law_928 : decode cL_law 928 = .ok (.iaload, 1) := by decide +kernel
theorem dL_law_929 : decode cL_law 929 = .ok (.invokevirtual 161, 3) := by decide +kernel
theorem dL_law_932 : decode cL_law 932 = .ok (.istore 7, 2) := by decide +kernel
theorem dL_law_934 : decode cL_law 934 = .ok (.aload_n 2, 1) := by decide +kernel
theorem dL_law_935 : decode cL_law 935 = .ok (.invokevirtual 121, 3) := by decide +kernel
theorem dL_law_938 : decode cL_law 938 = .ok (.iload 6, 2) := by decide +kernel
theorem dL_law_940 : decode cL_law 940 = .ok (.if_icmp .eq 5, 3) := by decide +kernel
theorem dL_law_943 : decode cL_law 943 = .ok (.iconst 0, 1) := by decide +kernel
theorem dL_law_944 : decode cL_law 944 = .ok (.ireturn, 1) := by decide +kernel
theorem dL_law_945 : decode cL_law 945 = .ok (.iload 6, 2) := by decide +kernel
theorem dL_law_947 : decode cL_law 947 = .ok (.ifCond .ne 15, 3) := by decide +kernel
theorem dL_law_950 : decode cL_law 950 = .ok (.aload_n 3, 1) := by decide +kernel
theorem dL_law_951 : decode cL_law 951 = .ok (.iconst 0, 1) := by decide +kernel
theorem dL_law_952 : decode cL_law 952 = .ok (.laload, 1) := by decide +kernel
theorem dL_law_953 : decode cL_law 953 = .ok (.iload 7, 2) := by decide +kernel
theorem dL_law_955 : decode cL_law 955 = .ok (.i2l, 1) := by decide +kernel
theorem dL_law_956 : decode cL_law 956 = .ok (.lcmp, 1) := by decide +kernel
theorem dL_law_957 : decode cL_law 957 = .ok (.ifCond .eq 5, 3) := by decide +kernel
theorem dL_law_960 : decode cL_law 960 = .ok (.iconst 0, 1) := by decide +kernel
theorem dL_law_961 : decode cL_law 961 = .ok (.ireturn, 1) := by decide +kernel
theorem dL_law_962 : decode cL_law 962 = .ok (.goto 1246, 3) := by decide +kernel
theorem dL_law_965 : decode cL_law 965 = .ok (.aload_n 1, 1) := by decide +kernel
theorem dL_law_966 : decode cL_law 966 = .ok (.aload_n 0, 1) := by decide +kernel
theorem dL_law_967 : decode cL_law 967 = .ok (.iload 5, 2) := by decide +kernel
theorem dL_law_969 : decode cL_law 969 = .ok (.iconst 1, 1) := by decide +kernel
theorem dL_law_970 : decode cL_law 970 = .ok (.iadd, 1) := by decide +kernel
theorem dL_law_971 : decode cL_law 971 = .ok (.iaload, 1) := by decide +kernel
theorem dL_law_972 : decode cL_law 972 = .ok (.aload_n 3, 1) := by decide +kernel
theorem dL_law_973 : decode cL_law 973 = .ok (.invokestatic 162, 3) := by decide +kernel
theorem dL_law_976 : decode cL_law 976 = .ok (.istore 6, 2) := by decide +kernel
theorem dL_law_978 : decode cL_law 978 = .ok (.aload_n 2, 1) := by decide +kernel
theorem dL_law_979 : decode cL_law 979 = .ok (.aload_n 0, 1) := by decide +kernel
theorem dL_law_980 : decode cL_law 980 = .ok (.iload 5, 2) := by decide +kernel
theorem dL_law_982 : decode cL_law 982 = .ok (.iconst 1, 1) := by decide +kernel
theorem dL_law_983 : decode cL_law 983 = .ok (.iadd, 1) := by decide +kernel
theorem dL_law_984 : decode cL_law 984 = .ok (.iaload, 1) := by decide +kernel
theorem dL_law_985 : decode cL_law 985 = .ok (.invokevirtual 164, 3) := by decide +kernel
theorem dL_law_988 : decode cL_law 988 = .ok (.istore 7, 2) := by decide +kernel
theorem dL_law_990 : decode cL_law 990 = .ok (.aload_n 2, 1) := by decide +kernel
theorem dL_law_991 : decode cL_law 991 = .ok (.invokevirtual 121, 3) := by decide +kernel
theorem dL_law_994 : decode cL_law 994 = .ok (.iload 6, 2) := by decide +kernel
theorem dL_law_996 : decode cL_law 996 = .ok (.if_icmp .eq 5, 3) := by decide +kernel
theorem dL_law_999 : decode cL_law 999 = .ok (.iconst 0, 1) := by decide +kernel
theorem dL_law_1000 : decode cL_law 1000 = .ok (.ireturn, 1) := by decide +kernel
theorem dL_law_1001 : decode cL_law 1001 = .ok (.iload 6, 2) := by decide +kernel
theorem dL_law_1003 : decode cL_law 1003 = .ok (.ifCond .ne 15, 3) := by decide +kernel
theorem dL_law_1006 : decode cL_law 1006 = .ok (.aload_n 3, 1) := by decide +kernel
theorem dL_law_1007 : decode cL_law 1007 = .ok (.iconst 0, 1) := by decide +kernel
theorem dL_law_1008 : decode cL_law 1008 = .ok (.laload, 1) := by decide +kernel
theorem dL_law_1009 : decode cL_law 1009 = .ok (.iload 7, 2) := by decide +kernel
theorem dL_law_1011 : decode cL_law 1011 = .ok (.i2l, 1) := by decide +kernel
theorem dL_law_1012 : decode cL_law 1012 = .ok (.lcmp, 1) := by decide +kernel
theorem dL_law_1013 : decode cL_law 1013 = .ok (.ifCond .eq 5, 3) := by decide +kernel
theorem dL_law_1016 : decode cL_law 1016 = .ok (.iconst 0, 1) := by decide +kernel
theorem dL_law_1017 : decode cL_law 1017 = .ok (.ireturn, 1) := by decide +kernel
theorem dL_law_1018 : decode cL_law 1018 = .ok (.goto 1190, 3) := by decide +kernel
theorem dL_law_1021 : decode cL_law 1021 = .ok (.aload_n 1, 1) := by decide +kernel
theorem dL_law_1022 : decode cL_law 1022 = .ok (.aload_n 0, 1) := by decide +kernel
theorem dL_law_1023 : decode cL_law 1023 = .ok (.iload 5, 2) := by decide +kernel
theorem dL_law_1025 : decode cL_law 1025 = .ok (.iconst 1, 1) := by decide +kernel
theorem dL_law_1026 : decode cL_law 1026 = .ok (.iadd, 1) := by decide +kernel
theorem dL_law_1027 : decode cL_law 1027 = .ok (.iaload, 1) := by decide +kernel
theorem dL_law_1028 : decode cL_law 1028 = .ok (.aload_n 3, 1) := by decide +kernel
theorem dL_law_1029 : decode cL_law 1029 = .ok (.invokestatic 165, 3) := by decide +kernel
theorem dL_law_1032 : decode cL_law 1032 = .ok (.istore 6, 2) := by decide +kernel
theorem dL_law_1034 : decode cL_law 1034 = .ok (.aload_n 2, 1) := by decide +kernel
theorem dL_law_1035 : decode cL_law 1035 = .ok (.aload_n 0, 1) := by decide +kernel
theorem dL_law_1036 : decode cL_law 1036 = .ok (.iload 5, 2) := by decide +kernel
theorem dL_law_1038 : decode cL_law 1038 = .ok (.iconst 1, 1) := by decide +kernel
theorem dL_law_1039 : decode cL_law 1039 = .ok (.iadd, 1) := by decide +kernel
theorem dL_law_1040 : decode cL_law 1040 = .ok (.iaload, 1) := by decide +kernel
theorem dL_law_1041 : decode cL_law 1041 = .ok (.invokevirtual 167, 3) := by decide +kernel
theorem dL_law_1044 : decode cL_law 1044 = .ok (.istore 7, 2) := by decide +kernel
theorem dL_law_1046 : decode cL_law 1046 = .ok (.aload_n 2, 1) := by decide +kernel
theorem dL_law_1047 : decode cL_law 1047 = .ok (.invokevirtual 121, 3) := by decide +kernel
theorem dL_law_1050 : decode cL_law 1050 = .ok (.iload 6, 2) := by decide +kernel
theorem dL_law_1052 : decode cL_law 1052 = .ok (.if_icmp .eq 5, 3) := by decide +kernel
theorem dL_law_1055 : decode cL_law 1055 = .ok (.iconst 0, 1) := by decide +kernel
theorem dL_law_1056 : decode cL_law 1056 = .ok (.ireturn, 1) := by decide +kernel
theorem dL_law_1057 : decode cL_law 1057 = .ok (.iload 6, 2) := by decide +kernel
theorem dL_law_1059 : decode cL_law 1059 = .ok (.ifCond .ne 15, 3) := by decide +kernel
theorem dL_law_1062 : decode cL_law 1062 = .ok (.aload_n 3, 1) := by decide +kernel
theorem dL_law_1063 : decode cL_law 1063 = .ok (.iconst 0, 1) := by decide +kernel
theorem dL_law_1064 : decode cL_law 1064 = .ok (.laload, 1) := by decide +kernel
theorem dL_law_1065 : decode cL_law 1065 = .ok (.iload 7, 2) := by decide +kernel
theorem dL_law_1067 : decode cL_law 1067 = .ok (.i2l, 1) := by decide +kernel
theorem dL_law_1068 : decode cL_law 1068 = .ok (.lcmp, 1) := by decide +kernel
theorem dL_law_1069 : decode cL_law 1069 = .ok (.ifCond .eq 5, 3) := by decide +kernel
theorem dL_law_1072 : decode cL_law 1072 = .ok (.iconst 0, 1) := by decide +kernel
theorem dL_law_1073 : decode cL_law 1073 = .ok (.ireturn, 1) := by decide +kernel
theorem dL_law_1074 : decode cL_law 1074 = .ok (.goto 1134, 3) := by decide +kernel
theorem dL_law_1077 : decode cL_law 1077 = .ok (.aload_n 1, 1) := by decide +kernel
theorem dL_law_1078 : decode cL_law 1078 = .ok (.invokevirtual 168, 3) := by decide +kernel
theorem dL_law_1081 : decode cL_law 1081 = .ok (.aload_n 2, 1) := by decide +kernel
theorem dL_law_1082 : decode cL_law 1082 = .ok (.invokevirtual 171, 3) := by decide +kernel
theorem dL_law_1085 : decode cL_law 1085 = .ok (.if_icmp .eq 1123, 3) := by decide +kernel
theorem dL_law_1088 : decode cL_law 1088 = .ok (.iconst 0, 1) := by decide +kernel
theorem dL_law_1089 : decode cL_law 1089 = .ok (.ireturn, 1) := by decide +kernel
theorem dL_law_1090 : decode cL_law 1090 = .ok (.aload_n 1, 1) := by decide +kernel
theorem dL_law_1091 : decode cL_law 1091 = .ok (.aload_n 0, 1) := by decide +kernel
theorem dL_law_1092 : decode cL_law 1092 = .ok (.iload 5, 2) := by decide +kernel
theorem dL_law_1094 : decode cL_law 1094 = .ok (.iconst 1, 1) := by decide +kernel
theorem dL_law_1095 : decode cL_law 1095 = .ok (.iadd, 1) := by decide +kernel
theorem dL_law_1096 : decode cL_law 1096 = .ok (.iaload, 1) := by decide +kernel
theorem dL_law_1097 : decode cL_law 1097 = .ok (.aload_n 3, 1) := by decide +kernel
theorem dL_law_1098 : decode cL_law 1098 = .ok (.invokestatic 172, 3) := by decide +kernel
theorem dL_law_1101 : decode cL_law 1101 = .ok (.istore 6, 2) := by decide +kernel
theorem dL_law_1103 : decode cL_law 1103 = .ok (.aload_n 2, 1) := by decide +kernel
theorem dL_law_1104 : decode cL_law 1104 = .ok (.aload_n 0, 1) := by decide +kernel
theorem dL_law_1105 : decode cL_law 1105 = .ok (.iload 5, 2) := by decide +kernel
theorem dL_law_1107 : decode cL_law 1107 = .ok (.iconst 1, 1) := by decide +kernel
theorem dL_law_1108 : decode cL_law 1108 = .ok (.iadd, 1) := by decide +kernel
theorem dL_law_1109 : decode cL_law 1109 = .ok (.iaload, 1) := by decide +kernel
theorem dL_law_1110 : decode cL_law 1110 = .ok (.invokevirtual 174, 3) := by decide +kernel
theorem dL_law_1113 : decode cL_law 1113 = .ok (.istore 7, 2) := by decide +kernel
theorem dL_law_1115 : decode cL_law 1115 = .ok (.aload_n 2, 1) := by decide +kernel
theorem dL_law_1116 : decode cL_law 1116 = .ok (.invokevirtual 121, 3) := by decide +kernel
theorem dL_law_1119 : decode cL_law 1119 = .ok (.iload 6, 2) := by decide +kernel
theorem dL_law_1121 : decode cL_law 1121 = .ok (.if_icmp .eq 5, 3) := by decide +kernel
theorem dL_law_1124 : decode cL_law 1124 = .ok (.iconst 0, 1) := by decide +kernel
theorem dL_law_1125 : decode cL_law 1125 = .ok (.ireturn, 1) := by decide +kernel
theorem dL_law_1126 : decode cL_law 1126 = .ok (.iload 6, 2) := by decide +kernel
theorem dL_law_1128 : decode cL_law 1128 = .ok (.ifCond .ne 15, 3) := by decide +kernel
theorem dL_law_1131 : decode cL_law 1131 = .ok (.aload_n 3, 1) := by decide +kernel
theorem dL_law_1132 : decode cL_law 1132 = .ok (.iconst 0, 1) := by decide +kernel
theorem dL_law_1133 : decode cL_law 1133 = .ok (.laload, 1) := by decide +kernel
theorem dL_law_1134 : decode cL_law 1134 = .ok (.iload 7, 2) := by decide +kernel
theorem dL_law_1136 : decode cL_law 1136 = .ok (.i2l, 1) := by decide +kernel
theorem dL_law_1137 : decode cL_law 1137 = .ok (.lcmp, 1) := by decide +kernel
theorem dL_law_1138 : decode cL_law 1138 = .ok (.ifCond .eq 5, 3) := by decide +kernel
theorem dL_law_1141 : decode cL_law 1141 = .ok (.iconst 0, 1) := by decide +kernel
theorem dL_law_1142 : decode cL_law 1142 = .ok (.ireturn, 1) := by decide +kernel
theorem dL_law_1143 : decode cL_law 1143 = .ok (.goto 1065, 3) := by decide +kernel
theorem dL_law_1146 : decode cL_law 1146 = .ok (.aload_n 1, 1) := by decide +kernel
theorem dL_law_1147 : decode cL_law 1147 = .ok (.aload_n 0, 1) := by decide +kernel
theorem dL_law_1148 : decode cL_law 1148 = .ok (.iload 5, 2) := by decide +kernel
theorem dL_law_1150 : decode cL_law 1150 = .ok (.iconst 1, 1) := by decide +kernel
theorem dL_law_1151 : decode cL_law 1151 = .ok (.iadd, 1) := by decide +kernel
theorem dL_law_1152 : decode cL_law 1152 = .ok (.iaload, 1) := by decide +kernel
theorem dL_law_1153 : decode cL_law 1153 = .ok (.aload_n 0, 1) := by decide +kernel
theorem dL_law_1154 : decode cL_law 1154 = .ok (.iload 5, 2) := by decide +kernel
theorem dL_law_1156 : decode cL_law 1156 = .ok (.iconst 2, 1) := by decide +kernel
theorem dL_law_1157 : decode cL_law 1157 = .ok (.iadd, 1) := by decide +kernel
theorem dL_law_1158 : decode cL_law 1158 = .ok (.iaload, 1) := by decide +kernel
theorem dL_law_1159 : decode cL_law 1159 = .ok (.aload_n 3, 1) := by decide +kernel
theorem dL_law_1160 : decode cL_law 1160 = .ok (.invokestatic 175, 3) := by decide +kernel
theorem dL_law_1163 : decode cL_law 1163 = .ok (.istore 6, 2) := by decide +kernel
theorem dL_law_1165 : decode cL_law 1165 = .ok (.aload_n 2, 1) := by decide +kernel
theorem dL_law_1166 : decode cL_law 1166 = .ok (.aload_n 0, 1) := by decide +kernel
theorem dL_law_1167 : decode cL_law 1167 = .ok (.iload 5, 2) := by decide +kernel
theorem dL_law_1169 : decode cL_law 1169 = .ok (.iconst 1, 1) := by decide +kernel
theorem dL_law_1170 : decode cL_law 1170 = .ok (.iadd, 1) := by decide +kernel
theorem dL_law_1171 : decode cL_law 1171 = .ok (.iaload, 1) := by decide +kernel
theorem dL_law_1172 : decode cL_law 1172 = .ok (.aload_n 0, 1) := by decide +kernel
theorem dL_law_1173 : decode cL_law 1173 = .ok (.iload 5, 2) := by decide +kernel
theorem dL_law_1175 : decode cL_law 1175 = .ok (.iconst 2, 1) := by decide +kernel
theorem dL_law_1176 : decode cL_law 1176 = .ok (.iadd, 1) := by decide +kernel
theorem dL_law_1177 : decode cL_law 1177 = .ok (.iaload, 1) := by decide +kernel
theorem dL_law_1178 : decode cL_law 1178 = .ok (.invokevirtual 177, 3) := by decide +kernel
theorem dL_law_1181 : decode cL_law 1181 = .ok (.istore 7, 2) := by decide +kernel
theorem dL_law_1183 : decode cL_law 1183 = .ok (.aload_n 2, 1) := by decide +kernel
theorem dL_law_1184 : decode cL_law 1184 = .ok (.invokevirtual 121, 3) := by decide +kernel
theorem dL_law_1187 : decode cL_law 1187 = .ok (.iload 6, 2) := by decide +kernel
theorem dL_law_1189 : decode cL_law 1189 = .ok (.if_icmp .eq 5, 3) := by decide +kernel
theorem dL_law_1192 : decode cL_law 1192 = .ok (.iconst 0, 1) := by decide +kernel
theorem dL_law_1193 : decode cL_law 1193 = .ok (.ireturn, 1) := by decide +kernel
theorem dL_law_1194 : decode cL_law 1194 = .ok (.iload 6, 2) := by decide +kernel
theorem dL_law_1196 : decode cL_law 1196 = .ok (.ifCond .ne 15, 3) := by decide +kernel
theorem dL_law_1199 : decode cL_law 1199 = .ok (.aload_n 3, 1) := by decide +kernel
theorem dL_law_1200 : decode cL_law 1200 = .ok (.iconst 0, 1) := by decide +kernel
theorem dL_law_1201 : decode cL_law 1201 = .ok (.laload, 1) := by decide +kernel
theorem dL_law_1202 : decode cL_law 1202 = .ok (.iload 7, 2) := by decide +kernel
theorem dL_law_1204 : decode cL_law 1204 = .ok (.i2l, 1) := by decide +kernel
theorem dL_law_1205 : decode cL_law 1205 = .ok (.lcmp, 1) := by decide +kernel
theorem dL_law_1206 : decode cL_law 1206 = .ok (.ifCond .eq 5, 3) := by decide +kernel
theorem dL_law_1209 : decode cL_law 1209 = .ok (.iconst 0, 1) := by decide +kernel
theorem dL_law_1210 : decode cL_law 1210 = .ok (.ireturn, 1) := by decide +kernel
theorem dL_law_1211 : decode cL_law 1211 = .ok (.goto 997, 3) := by decide +kernel
theorem dL_law_1214 : decode cL_law 1214 = .ok (.aload_n 1, 1) := by decide +kernel
theorem dL_law_1215 : decode cL_law 1215 = .ok (.aload_n 0, 1) := by decide +kernel
theorem dL_law_1216 : decode cL_law 1216 = .ok (.iload 5, 2) := by decide +kernel
theorem dL_law_1218 : decode cL_law 1218 = .ok (.iconst 1, 1) := by decide +kernel
theorem dL_law_1219 : decode cL_law 1219 = .ok (.iadd, 1) := by decide +kernel
theorem dL_law_1220 : decode cL_law 1220 = .ok (.iaload, 1) := by decide +kernel
theorem dL_law_1221 : decode cL_law 1221 = .ok (.aload_n 0, 1) := by decide +kernel
theorem dL_law_1222 : decode cL_law 1222 = .ok (.iload 5, 2) := by decide +kernel
theorem dL_law_1224 : decode cL_law 1224 = .ok (.iconst 2, 1) := by decide +kernel
theorem dL_law_1225 : decode cL_law 1225 = .ok (.iadd, 1) := by decide +kernel
theorem dL_law_1226 : decode cL_law 1226 = .ok (.iaload, 1) := by decide +kernel
theorem dL_law_1227 : decode cL_law 1227 = .ok (.aload_n 3, 1) := by decide +kernel
theorem dL_law_1228 : decode cL_law 1228 = .ok (.invokestatic 178, 3) := by decide +kernel
theorem dL_law_1231 : decode cL_law 1231 = .ok (.istore 6, 2) := by decide +kernel
theorem dL_law_1233 : decode cL_law 1233 = .ok (.aload_n 2, 1) := by decide +kernel
theorem dL_law_1234 : decode cL_law 1234 = .ok (.aload_n 0, 1) := by decide +kernel
theorem dL_law_1235 : decode cL_law 1235 = .ok (.iload 5, 2) := by decide +kernel
theorem dL_law_1237 : decode cL_law 1237 = .ok (.iconst 1, 1) := by decide +kernel
theorem dL_law_1238 : decode cL_law 1238 = .ok (.iadd, 1) := by decide +kernel
theorem dL_law_1239 : decode cL_law 1239 = .ok (.iaload, 1) := by decide +kernel
theorem dL_law_1240 : decode cL_law 1240 = .ok (.aload_n 0, 1) := by decide +kernel
theorem dL_law_1241 : decode cL_law 1241 = .ok (.iload 5, 2) := by decide +kernel
theorem dL_law_1243 : decode cL_law 1243 = .ok (.iconst 2, 1) := by decide +kernel
theorem dL_law_1244 : decode cL_law 1244 = .ok (.iadd, 1) := by decide +kernel
theorem dL_law_1245 : decode cL_law 1245 = .ok (.iaload, 1) := by decide +kernel
theorem dL_law_1246 : decode cL_law 1246 = .ok (.invokevirtual 180, 3) := by decide +kernel
theorem dL_law_1249 : decode cL_law 1249 = .ok (.istore 7, 2) := by decide +kernel
theorem dL_law_1251 : decode cL_law 1251 = .ok (.aload_n 2, 1) := by decide +kernel
theorem dL_law_1252 : decode cL_law 1252 = .ok (.invokevirtual 121, 3) := by decide +kernel
theorem dL_law_1255 : decode cL_law 1255 = .ok (.iload 6, 2) := by decide +kernel
theorem dL_law_1257 : decode cL_law 1257 = .ok (.if_icmp .eq 5, 3) := by decide +kernel
theorem dL_law_1260 : decode cL_law 1260 = .ok (.iconst 0, 1) := by decide +kernel
theorem dL_law_1261 : decode cL_law 1261 = .ok (.ireturn, 1) := by decide +kernel
theorem dL_law_1262 : decode cL_law 1262 = .ok (.iload 6, 2) := by decide +kernel
theorem dL_law_1264 : decode cL_law 1264 = .ok (.ifCond .ne 22, 3) := by decide +kernel
theorem dL_law_1267 : decode cL_law 1267 = .ok (.aload_n 3, 1) := by decide +kernel
theorem dL_law_1268 : decode cL_law 1268 = .ok (.iconst 0, 1) := by decide +kernel
theorem dL_law_1269 : decode cL_law 1269 = .ok (.laload, 1) := by decide +kernel
theorem dL_law_1270 : decode cL_law 1270 = .ok (.iload 7, 2) := by decide +kernel
theorem dL_law_1272 : decode cL_law 1272 = .ok (.ifCond .eq 7, 3) := by decide +kernel
theorem dL_law_1275 : decode cL_law 1275 = .ok (.lconst 1, 1) := by decide +kernel
theorem dL_law_1276 : decode cL_law 1276 = .ok (.goto 4, 3) := by decide +kernel
theorem dL_law_1279 : decode cL_law 1279 = .ok (.lconst 0, 1) := by decide +kernel
theorem dL_law_1280 : decode cL_law 1280 = .ok (.lcmp, 1) := by decide +kernel
theorem dL_law_1281 : decode cL_law 1281 = .ok (.ifCond .eq 5, 3) := by decide +kernel
theorem dL_law_1284 : decode cL_law 1284 = .ok (.iconst 0, 1) := by decide +kernel
theorem dL_law_1285 : decode cL_law 1285 = .ok (.ireturn, 1) := by decide +kernel
theorem dL_law_1286 : decode cL_law 1286 = .ok (.goto 922, 3) := by decide +kernel
theorem dL_law_1289 : decode cL_law 1289 = .ok (.aload_n 1, 1) := by decide +kernel
theorem dL_law_1290 : decode cL_law 1290 = .ok (.aload_n 0, 1) := by decide +kernel
theorem dL_law_1291 : decode cL_law 1291 = .ok (.iload 5, 2) := by decide +kernel
theorem dL_law_1293 : decode cL_law 1293 = .ok (.iconst 1, 1) := by decide +kernel
theorem dL_law_1294 : decode cL_law 1294 = .ok (.iadd, 1) := by decide +kernel
theorem dL_law_1295 : decode cL_law 1295 = .ok (.iaload, 1) := by decide +kernel
theorem dL_law_1296 : decode cL_law 1296 = .ok (.aload_n 0, 1) := by decide +kernel
theorem dL_law_1297 : decode cL_law 1297 = .ok (.iload 5, 2) := by decide +kernel
theorem dL_law_1299 : decode cL_law 1299 = .ok (.iconst 2, 1) := by decide +kernel
theorem dL_law_1300 : decode cL_law 1300 = .ok (.iadd, 1) := by decide +kernel
theorem dL_law_1301 : decode cL_law 1301 = .ok (.iaload, 1) := by decide +kernel
theorem dL_law_1302 : decode cL_law 1302 = .ok (.aload_n 3, 1) := by decide +kernel
theorem dL_law_1303 : decode cL_law 1303 = .ok (.invokestatic 181, 3) := by decide +kernel
theorem dL_law_1306 : decode cL_law 1306 = .ok (.istore 6, 2) := by decide +kernel
theorem dL_law_1308 : decode cL_law 1308 = .ok (.aload_n 2, 1) := by decide +kernel
theorem dL_law_1309 : decode cL_law 1309 = .ok (.aload_n 0, 1) := by decide +kernel
theorem dL_law_1310 : decode cL_law 1310 = .ok (.iload 5, 2) := by decide +kernel
theorem dL_law_1312 : decode cL_law 1312 = .ok (.iconst 1, 1) := by decide +kernel
theorem dL_law_1313 : decode cL_law 1313 = .ok (.iadd, 1) := by decide +kernel
theorem dL_law_1314 : decode cL_law 1314 = .ok (.iaload, 1) := by decide +kernel
theorem dL_law_1315 : decode cL_law 1315 = .ok (.aload_n 0, 1) := by decide +kernel
theorem dL_law_1316 : decode cL_law 1316 = .ok (.iload 5, 2) := by decide +kernel
theorem dL_law_1318 : decode cL_law 1318 = .ok (.iconst 2, 1) := by decide +kernel
theorem dL_law_1319 : decode cL_law 1319 = .ok (.iadd, 1) := by decide +kernel
theorem dL_law_1320 : decode cL_law 1320 = .ok (.iaload, 1) := by decide +kernel
theorem dL_law_1321 : decode cL_law 1321 = .ok (.invokevirtual 183, 3) := by decide +kernel
theorem dL_law_1324 : decode cL_law 1324 = .ok (.istore 7, 2) := by decide +kernel
theorem dL_law_1326 : decode cL_law 1326 = .ok (.aload_n 2, 1) := by decide +kernel
theorem dL_law_1327 : decode cL_law 1327 = .ok (.invokevirtual 121, 3) := by decide +kernel
theorem dL_law_1330 : decode cL_law 1330 = .ok (.iload 6, 2) := by decide +kernel
theorem dL_law_1332 : decode cL_law 1332 = .ok (.if_icmp .eq 5, 3) := by decide +kernel
theorem dL_law_1335 : decode cL_law 1335 = .ok (.iconst 0, 1) := by decide +kernel
theorem dL_law_1336 : decode cL_law 1336 = .ok (.ireturn, 1) := by decide +kernel
theorem dL_law_1337 : decode cL_law 1337 = .ok (.iload 6, 2) := by decide +kernel
theorem dL_law_1339 : decode cL_law 1339 = .ok (.ifCond .ne 15, 3) := by decide +kernel
theorem dL_law_1342 : decode cL_law 1342 = .ok (.aload_n 3, 1) := by decide +kernel
theorem dL_law_1343 : decode cL_law 1343 = .ok (.iconst 0, 1) := by decide +kernel
theorem dL_law_1344 : decode cL_law 1344 = .ok (.laload, 1) := by decide +kernel
theorem dL_law_1345 : decode cL_law 1345 = .ok (.iload 7, 2) := by decide +kernel
theorem dL_law_1347 : decode cL_law 1347 = .ok (.i2l, 1) := by decide +kernel
theorem dL_law_1348 : decode cL_law 1348 = .ok (.lcmp, 1) := by decide +kernel
theorem dL_law_1349 : decode cL_law 1349 = .ok (.ifCond .eq 5, 3) := by decide +kernel
theorem dL_law_1352 : decode cL_law 1352 = .ok (.iconst 0, 1) := by decide +kernel
theorem dL_law_1353 : decode cL_law 1353 = .ok (.ireturn, 1) := by decide +kernel
theorem dL_law_1354 : decode cL_law 1354 = .ok (.goto 854, 3) := by decide +kernel
theorem dL_law_1357 : decode cL_law 1357 = .ok (.aload_n 1, 1) := by decide +kernel
theorem dL_law_1358 : decode cL_law 1358 = .ok (.aload_n 0, 1) := by decide +kernel
theorem dL_law_1359 : decode cL_law 1359 = .ok (.iload 5, 2) := by decide +kernel
theorem dL_law_1361 : decode cL_law 1361 = .ok (.iconst 1, 1) := by decide +kernel
theorem dL_law_1362 : decode cL_law 1362 = .ok (.iadd, 1) := by decide +kernel
theorem dL_law_1363 : decode cL_law 1363 = .ok (.iaload, 1) := by decide +kernel
theorem dL_law_1364 : decode cL_law 1364 = .ok (.aload_n 3, 1) := by decide +kernel
theorem dL_law_1365 : decode cL_law 1365 = .ok (.invokestatic 184, 3) := by decide +kernel
theorem dL_law_1368 : decode cL_law 1368 = .ok (.istore 6, 2) := by decide +kernel
theorem dL_law_1370 : decode cL_law 1370 = .ok (.aload_n 2, 1) := by decide +kernel
theorem dL_law_1371 : decode cL_law 1371 = .ok (.aload_n 0, 1) := by decide +kernel
theorem dL_law_1372 : decode cL_law 1372 = .ok (.iload 5, 2) := by decide +kernel
theorem dL_law_1374 : decode cL_law 1374 = .ok (.iconst 1, 1) := by decide +kernel
theorem dL_law_1375 : decode cL_law 1375 = .ok (.iadd, 1) := by decide +kernel
theorem dL_law_1376 : decode cL_law 1376 = .ok (.iaload, 1) := by decide +kernel
theorem dL_law_1377 : decode cL_law 1377 = .ok (.invokevirtual 186, 3) := by decide +kernel
theorem dL_law_1380 : decode cL_law 1380 = .ok (.istore 7, 2) := by decide +kernel
theorem dL_law_1382 : decode cL_law 1382 = .ok (.aload_n 2, 1) := by decide +kernel
theorem dL_law_1383 : decode cL_law 1383 = .ok (.invokevirtual 121, 3) := by decide +kernel
theorem dL_law_1386 : decode cL_law 1386 = .ok (.iload 6, 2) := by decide +kernel
theorem dL_law_1388 : decode cL_law 1388 = .ok (.if_icmp .eq 5, 3) := by decide +kernel
theorem dL_law_1391 : decode cL_law 1391 = .ok (.iconst 0, 1) := by decide +kernel
theorem dL_law_1392 : decode cL_law 1392 = .ok (.ireturn, 1) := by decide +kernel
theorem dL_law_1393 : decode cL_law 1393 = .ok (.iload 6, 2) := by decide +kernel
theorem dL_law_1395 : decode cL_law 1395 = .ok (.ifCond .ne 15, 3) := by decide +kernel
theorem dL_law_1398 : decode cL_law 1398 = .ok (.aload_n 3, 1) := by decide +kernel
theorem dL_law_1399 : decode cL_law 1399 = .ok (.iconst 0, 1) := by decide +kernel
theorem dL_law_1400 : decode cL_law 1400 = .ok (.laload, 1) := by decide +kernel
theorem dL_law_1401 : decode cL_law 1401 = .ok (.iload 7, 2) := by decide +kernel
theorem dL_law_1403 : decode cL_law 1403 = .ok (.i2l, 1) := by decide +kernel
theorem dL_law_1404 : decode cL_law 1404 = .ok (.lcmp, 1) := by decide +kernel
theorem dL_law_1405 : decode cL_law 1405 = .ok (.ifCond .eq 5, 3) := by decide +kernel
theorem dL_law_1408 : decode cL_law 1408 = .ok (.iconst 0, 1) := by decide +kernel
theorem dL_law_1409 : decode cL_law 1409 = .ok (.ireturn, 1) := by decide +kernel
theorem dL_law_1410 : decode cL_law 1410 = .ok (.goto 798, 3) := by decide +kernel
theorem dL_law_1413 : decode cL_law 1413 = .ok (.aload_n 1, 1) := by decide +kernel
theorem dL_law_1414 : decode cL_law 1414 = .ok (.aload_n 0, 1) := by decide +kernel
theorem dL_law_1415 : decode cL_law 1415 = .ok (.iload 5, 2) := by decide +kernel
theorem dL_law_1417 : decode cL_law 1417 = .ok (.iconst 1, 1) := by decide +kernel
theorem dL_law_1418 : decode cL_law 1418 = .ok (.iadd, 1) := by decide +kernel
theorem dL_law_1419 : decode cL_law 1419 = .ok (.iaload, 1) := by decide +kernel
theorem dL_law_1420 : decode cL_law 1420 = .ok (.aload_n 3, 1) := by decide +kernel
theorem dL_law_1421 : decode cL_law 1421 = .ok (.invokestatic 187, 3) := by decide +kernel
theorem dL_law_1424 : decode cL_law 1424 = .ok (.istore 6, 2) := by decide +kernel
theorem dL_law_1426 : decode cL_law 1426 = .ok (.aload_n 2, 1) := by decide +kernel
theorem dL_law_1427 : decode cL_law 1427 = .ok (.aload_n 0, 1) := by decide +kernel
theorem dL_law_1428 : decode cL_law 1428 = .ok (.iload 5, 2) := by decide +kernel
theorem dL_law_1430 : decode cL_law 1430 = .ok (.iconst 1, 1) := by decide +kernel
theorem dL_law_1431 : decode cL_law 1431 = .ok (.iadd, 1) := by decide +kernel
theorem dL_law_1432 : decode cL_law 1432 = .ok (.iaload, 1) := by decide +kernel
theorem dL_law_1433 : decode cL_law 1433 = .ok (.invokevirtual 189, 3) := by decide +kernel
theorem dL_law_1436 : decode cL_law 1436 = .ok (.istore 7, 2) := by decide +kernel
theorem dL_law_1438 : decode cL_law 1438 = .ok (.aload_n 2, 1) := by decide +kernel
theorem dL_law_1439 : decode cL_law 1439 = .ok (.invokevirtual 121, 3) := by decide +kernel
theorem dL_law_1442 : decode cL_law 1442 = .ok (.iload 6, 2) := by decide +kernel
theorem dL_law_1444 : decode cL_law 1444 = .ok (.if_icmp .eq 5, 3) := by decide +kernel
theorem dL_law_1447 : decode cL_law 1447 = .ok (.iconst 0, 1) := by decide +kernel
theorem dL_law_1448 : decode cL_law 1448 = .ok (.ireturn, 1) := by decide +kernel
theorem dL_law_1449 : decode cL_law 1449 = .ok (.iload 6, 2) := by decide +kernel
theorem dL_law_1451 : decode cL_law 1451 = .ok (.ifCond .ne 15, 3) := by decide +kernel
theorem dL_law_1454 : decode cL_law 1454 = .ok (.aload_n 3, 1) := by decide +kernel
theorem dL_law_1455 : decode cL_law 1455 = .ok (.iconst 0, 1) := by decide +kernel
theorem dL_law_1456 : decode cL_law 1456 = .ok (.laload, 1) := by decide +kernel
theorem dL_law_1457 : decode cL_law 1457 = .ok (.iload 7, 2) := by decide +kernel
theorem dL_law_1459 : decode cL_law 1459 = .ok (.i2l, 1) := by decide +kernel
theorem dL_law_1460 : decode cL_law 1460 = .ok (.lcmp, 1) := by decide +kernel
theorem dL_law_1461 : decode cL_law 1461 = .ok (.ifCond .eq 5, 3) := by decide +kernel
theorem dL_law_1464 : decode cL_law 1464 = .ok (.iconst 0, 1) := by decide +kernel
theorem dL_law_1465 : decode cL_law 1465 = .ok (.ireturn, 1) := by decide +kernel
theorem dL_law_1466 : decode cL_law 1466 = .ok (.goto 742, 3) := by decide +kernel
theorem dL_law_1469 : decode cL_law 1469 = .ok (.aload_n 1, 1) := by decide +kernel
theorem dL_law_1470 : decode cL_law 1470 = .ok (.aload_n 0, 1) := by decide +kernel
theorem dL_law_1471 : decode cL_law 1471 = .ok (.iload 5, 2) := by decide +kernel
theorem dL_law_1473 : decode cL_law 1473 = .ok (.iconst 1, 1) := by decide +kernel
theorem dL_law_1474 : decode cL_law 1474 = .ok (.iadd, 1) := by decide +kernel
theorem dL_law_1475 : decode cL_law 1475 = .ok (.iaload, 1) := by decide +kernel
theorem dL_law_1476 : decode cL_law 1476 = .ok (.aload_n 0, 1) := by decide +kernel
theorem dL_law_1477 : decode cL_law 1477 = .ok (.iload 5, 2) := by decide +kernel
theorem dL_law_1479 : decode cL_law 1479 = .ok (.iconst 2, 1) := by decide +kernel
theorem dL_law_1480 : decode cL_law 1480 = .ok (.iadd, 1) := by decide +kernel
theorem dL_law_1481 : decode cL_law 1481 = .ok (.iaload, 1) := by decide +kernel
theorem dL_law_1482 : decode cL_law 1482 = .ok (.aload_n 0, 1) := by decide +kernel
theorem dL_law_1483 : decode cL_law 1483 = .ok (.iload 5, 2) := by decide +kernel
theorem dL_law_1485 : decode cL_law 1485 = .ok (.iconst 3, 1) := by decide +kernel
theorem dL_law_1486 : decode cL_law 1486 = .ok (.iadd, 1) := by decide +kernel
theorem dL_law_1487 : decode cL_law 1487 = .ok (.iaload, 1) := by decide +kernel
theorem dL_law_1488 : decode cL_law 1488 = .ok (.aload_n 3, 1) := by decide +kernel
theorem dL_law_1489 : decode cL_law 1489 = .ok (.invokestatic 190, 3) := by decide +kernel
theorem dL_law_1492 : decode cL_law 1492 = .ok (.istore 6, 2) := by decide +kernel
theorem dL_law_1494 : decode cL_law 1494 = .ok (.aload_n 2, 1) := by decide +kernel
theorem dL_law_1495 : decode cL_law 1495 = .ok (.aload_n 0, 1) := by decide +kernel
theorem dL_law_1496 : decode cL_law 1496 = .ok (.iload 5, 2) := by decide +kernel
theorem dL_law_1498 : decode cL_law 1498 = .ok (.iconst 1, 1) := by decide +kernel
theorem dL_law_1499 : decode cL_law 1499 = .ok (.iadd, 1) := by decide +kernel
theorem dL_law_1500 : decode cL_law 1500 = .ok (.iaload, 1) := by decide +kernel
theorem dL_law_1501 : decode cL_law 1501 = .ok (.aload_n 0, 1) := by decide +kernel
theorem dL_law_1502 : decode cL_law 1502 = .ok (.iload 5, 2) := by decide +kernel
theorem dL_law_1504 : decode cL_law 1504 = .ok (.iconst 2, 1) := by decide +kernel
theorem dL_law_1505 : decode cL_law 1505 = .ok (.iadd, 1) := by decide +kernel
theorem dL_law_1506 : decode cL_law 1506 = .ok (.iaload, 1) := by decide +kernel
theorem dL_law_1507 : decode cL_law 1507 = .ok (.aload_n 0, 1) := by decide +kernel
theorem dL_law_1508 : decode cL_law 1508 = .ok (.iload 5, 2) := by decide +kernel
theorem dL_law_1510 : decode cL_law 1510 = .ok (.iconst 3, 1) := by decide +kernel
theorem dL_law_1511 : decode cL_law 1511 = .ok (.iadd, 1) := by decide +kernel
theorem dL_law_1512 : decode cL_law 1512 = .ok (.iaload, 1) := by decide +kernel
theorem dL_law_1513 : decode cL_law 1513 = .ok (.invokevirtual 192, 3) := by decide +kernel
theorem dL_law_1516 : decode cL_law 1516 = .ok (.istore 7, 2) := by decide +kernel
theorem dL_law_1518 : decode cL_law 1518 = .ok (.aload_n 2, 1) := by decide +kernel
theorem dL_law_1519 : decode cL_law 1519 = .ok (.invokevirtual 121, 3) := by decide +kernel
theorem dL_law_1522 : decode cL_law 1522 = .ok (.iload 6, 2) := by decide +kernel
theorem dL_law_1524 : decode cL_law 1524 = .ok (.if_icmp .eq 5, 3) := by decide +kernel
theorem dL_law_1527 : decode cL_law 1527 = .ok (.iconst 0, 1) := by decide +kernel
theorem dL_law_1528 : decode cL_law 1528 = .ok (.ireturn, 1) := by decide +kernel
theorem dL_law_1529 : decode cL_law 1529 = .ok (.iload 6, 2) := by decide +kernel
theorem dL_law_1531 : decode cL_law 1531 = .ok (.ifCond .ne 15, 3) := by decide +kernel
theorem dL_law_1534 : decode cL_law 1534 = .ok (.aload_n 3, 1) := by decide +kernel
theorem dL_law_1535 : decode cL_law 1535 = .ok (.iconst 0, 1) := by decide +kernel
theorem dL_law_1536 : decode cL_law 1536 = .ok (.laload, 1) := by decide +kernel
theorem dL_law_1537 : decode cL_law 1537 = .ok (.iload 7, 2) := by decide +kernel
theorem dL_law_1539 : decode cL_law 1539 = .ok (.i2l, 1) := by decide +kernel
theorem dL_law_1540 : decode cL_law 1540 = .ok (.lcmp, 1) := by decide +kernel
theorem dL_law_1541 : decode cL_law 1541 = .ok (.ifCond .eq 5, 3) := by decide +kernel
theorem dL_law_1544 : decode cL_law 1544 = .ok (.iconst 0, 1) := by decide +kernel
theorem dL_law_1545 : decode cL_law 1545 = .ok (.ireturn, 1) := by decide +kernel
theorem dL_law_1546 : decode cL_law 1546 = .ok (.goto 662, 3) := by decide +kernel
theorem dL_law_1549 : decode cL_law 1549 = .ok (.aload_n 1, 1) := by decide +kernel
theorem dL_law_1550 : decode cL_law 1550 = .ok (.aload_n 0, 1) := by decide +kernel
theorem dL_law_1551 : decode cL_law 1551 = .ok (.iload 5, 2) := by decide +kernel
theorem dL_law_1553 : decode cL_law 1553 = .ok (.iconst 1, 1) := by decide +kernel
theorem dL_law_1554 : decode cL_law 1554 = .ok (.iadd, 1) := by decide +kernel
theorem dL_law_1555 : decode cL_law 1555 = .ok (.iaload, 1) := by decide +kernel
theorem dL_law_1556 : decode cL_law 1556 = .ok (.aload_n 0, 1) := by decide +kernel
theorem dL_law_1557 : decode cL_law 1557 = .ok (.iload 5, 2) := by decide +kernel
theorem dL_law_1559 : decode cL_law 1559 = .ok (.iconst 2, 1) := by decide +kernel
theorem dL_law_1560 : decode cL_law 1560 = .ok (.iadd, 1) := by decide +kernel
theorem dL_law_1561 : decode cL_law 1561 = .ok (.iaload, 1) := by decide +kernel
theorem dL_law_1562 : decode cL_law 1562 = .ok (.aload_n 3, 1) := by decide +kernel
theorem dL_law_1563 : decode cL_law 1563 = .ok (.invokestatic 193, 3) := by decide +kernel
theorem dL_law_1566 : decode cL_law 1566 = .ok (.istore 6, 2) := by decide +kernel
theorem dL_law_1568 : decode cL_law 1568 = .ok (.aload_n 2, 1) := by decide +kernel
theorem dL_law_1569 : decode cL_law 1569 = .ok (.aload_n 0, 1) := by decide +kernel
theorem dL_law_1570 : decode cL_law 1570 = .ok (.iload 5, 2) := by decide +kernel
theorem dL_law_1572 : decode cL_law 1572 = .ok (.iconst 1, 1) := by decide +kernel
theorem dL_law_1573 : decode cL_law 1573 = .ok (.iadd, 1) := by decide +kernel
theorem dL_law_1574 : decode cL_law 1574 = .ok (.iaload, 1) := by decide +kernel
theorem dL_law_1575 : decode cL_law 1575 = .ok (.aload_n 0, 1) := by decide +kernel
theorem dL_law_1576 : decode cL_law 1576 = .ok (.iload 5, 2) := by decide +kernel
theorem dL_law_1578 : decode cL_law 1578 = .ok (.iconst 2, 1) := by decide +kernel
theorem dL_law_1579 : decode cL_law 1579 = .ok (.iadd, 1) := by decide +kernel
theorem dL_law_1580 : decode cL_law 1580 = .ok (.iaload, 1) := by decide +kernel
theorem dL_law_1581 : decode cL_law 1581 = .ok (.invokevirtual 195, 3) := by decide +kernel
theorem dL_law_1584 : decode cL_law 1584 = .ok (.istore 7, 2) := by decide +kernel
theorem dL_law_1586 : decode cL_law 1586 = .ok (.aload_n 2, 1) := by decide +kernel
theorem dL_law_1587 : decode cL_law 1587 = .ok (.invokevirtual 121, 3) := by decide +kernel
theorem dL_law_1590 : decode cL_law 1590 = .ok (.iload 6, 2) := by decide +kernel
theorem dL_law_1592 : decode cL_law 1592 = .ok (.if_icmp .eq 5, 3) := by decide +kernel
theorem dL_law_1595 : decode cL_law 1595 = .ok (.iconst 0, 1) := by decide +kernel
theorem dL_law_1596 : decode cL_law 1596 = .ok (.ireturn, 1) := by decide +kernel
theorem dL_law_1597 : decode cL_law 1597 = .ok (.iload 6, 2) := by decide +kernel
theorem dL_law_1599 : decode cL_law 1599 = .ok (.ifCond .ne 15, 3) := by decide +kernel
theorem dL_law_1602 : decode cL_law 1602 = .ok (.aload_n 3, 1) := by decide +kernel
theorem dL_law_1603 : decode cL_law 1603 = .ok (.iconst 0, 1) := by decide +kernel
theorem dL_law_1604 : decode cL_law 1604 = .ok (.laload, 1) := by decide +kernel
theorem dL_law_1605 : decode cL_law 1605 = .ok (.iload 7, 2) := by decide +kernel
theorem dL_law_1607 : decode cL_law 1607 = .ok (.i2l, 1) := by decide +kernel
theorem dL_law_1608 : decode cL_law 1608 = .ok (.lcmp, 1) := by decide +kernel
theorem dL_law_1609 : decode cL_law 1609 = .ok (.ifCond .eq 5, 3) := by decide +kernel
theorem dL_law_1612 : decode cL_law 1612 = .ok (.iconst 0, 1) := by decide +kernel
theorem dL_law_1613 : decode cL_law 1613 = .ok (.ireturn, 1) := by decide +kernel
theorem dL_law_1614 : decode cL_law 1614 = .ok (.goto 594, 3) := by decide +kernel
theorem dL_law_1617 : decode cL_law 1617 = .ok (.aload_n 1, 1) := by decide +kernel
theorem dL_law_1618 : decode cL_law 1618 = .ok (.aload_n 0, 1) := by decide +kernel
theorem dL_law_1619 : decode cL_law 1619 = .ok (.iload 5, 2) := by decide +kernel
theorem dL_law_1621 : decode cL_law 1621 = .ok (.iconst 1, 1) := by decide +kernel
theorem dL_law_1622 : decode cL_law 1622 = .ok (.iadd, 1) := by decide +kernel
theorem dL_law_1623 : decode cL_law 1623 = .ok (.iaload, 1) := by decide +kernel
theorem dL_law_1624 : decode cL_law 1624 = .ok (.aload_n 3, 1) := by decide +kernel
theorem dL_law_1625 : decode cL_law 1625 = .ok (.invokestatic 196, 3) := by decide +kernel
theorem dL_law_1628 : decode cL_law 1628 = .ok (.istore 6, 2) := by decide +kernel
theorem dL_law_1630 : decode cL_law 1630 = .ok (.aload_n 2, 1) := by decide +kernel
theorem dL_law_1631 : decode cL_law 1631 = .ok (.aload_n 0, 1) := by decide +kernel
theorem dL_law_1632 : decode cL_law 1632 = .ok (.iload 5, 2) := by decide +kernel
theorem dL_law_1634 : decode cL_law 1634 = .ok (.iconst 1, 1) := by decide +kernel
theorem dL_law_1635 : decode cL_law 1635 = .ok (.iadd, 1) := by decide +kernel
theorem dL_law_1636 : decode cL_law 1636 = .ok (.iaload, 1) := by decide +kernel
theorem dL_law_1637 : decode cL_law 1637 = .ok (.invokevirtual 198, 3) := by decide +kernel
theorem dL_law_1640 : decode cL_law 1640 = .ok (.istore 7, 2) := by decide +kernel
theorem dL_law_1642 : decode cL_law 1642 = .ok (.aload_n 2, 1) := by decide +kernel
theorem dL_law_1643 : decode cL_law 1643 = .ok (.invokevirtual 121, 3) := by decide +kernel
theorem dL_law_1646 : decode cL_law 1646 = .ok (.iload 6, 2) := by decide +kernel
theorem dL_law_1648 : decode cL_law 1648 = .ok (.if_icmp .eq 5, 3) := by decide +kernel
theorem dL_law_1651 : decode cL_law 1651 = .ok (.iconst 0, 1) := by decide +kernel
theorem dL_law_1652 : decode cL_law 1652 = .ok (.ireturn, 1) := by decide +kernel
theorem dL_law_1653 : decode cL_law 1653 = .ok (.iload 6, 2) := by decide +kernel
theorem dL_law_1655 : decode cL_law 1655 = .ok (.ifCond .ne 15, 3) := by decide +kernel
theorem dL_law_1658 : decode cL_law 1658 = .ok (.aload_n 3, 1) := by decide +kernel
theorem dL_law_1659 : decode cL_law 1659 = .ok (.iconst 0, 1) := by decide +kernel
theorem dL_law_1660 : decode cL_law 1660 = .ok (.laload, 1) := by decide +kernel
theorem dL_law_1661 : decode cL_law 1661 = .ok (.iload 7, 2) := by decide +kernel
theorem dL_law_1663 : decode cL_law 1663 = .ok (.i2l, 1) := by decide +kernel
theorem dL_law_1664 : decode cL_law 1664 = .ok (.lcmp, 1) := by decide +kernel
theorem dL_law_1665 : decode cL_law 1665 = .ok (.ifCond .eq 5, 3) := by decide +kernel
theorem dL_law_1668 : decode cL_law 1668 = .ok (.iconst 0, 1) := by decide +kernel
theorem dL_law_1669 : decode cL_law 1669 = .ok (.ireturn, 1) := by decide +kernel
theorem dL_law_1670 : decode cL_law 1670 = .ok (.goto 538, 3) := by decide +kernel
theorem dL_law_1673 : decode cL_law 1673 = .ok (.aload_n 1, 1) := by decide +kernel
theorem dL_law_1674 : decode cL_law 1674 = .ok (.aload_n 0, 1) := by decide +kernel
theorem dL_law_1675 : decode cL_law 1675 = .ok (.iload 5, 2) := by decide +kernel
theorem dL_law_1677 : decode cL_law 1677 = .ok (.iconst 1, 1) := by decide +kernel
theorem dL_law_1678 : decode cL_law 1678 = .ok (.iadd, 1) := by decide +kernel
theorem dL_law_1679 : decode cL_law 1679 = .ok (.iaload, 1) := by decide +kernel
theorem dL_law_1680 : decode cL_law 1680 = .ok (.aload_n 0, 1) := by decide +kernel
theorem dL_law_1681 : decode cL_law 1681 = .ok (.iload 5, 2) := by decide +kernel
theorem dL_law_1683 : decode cL_law 1683 = .ok (.iconst 2, 1) := by decide +kernel
theorem dL_law_1684 : decode cL_law 1684 = .ok (.iadd, 1) := by decide +kernel
theorem dL_law_1685 : decode cL_law 1685 = .ok (.iaload, 1) := by decide +kernel
theorem dL_law_1686 : decode cL_law 1686 = .ok (.aload_n 3, 1) := by decide +kernel
theorem dL_law_1687 : decode cL_law 1687 = .ok (.invokestatic 199, 3) := by decide +kernel
theorem dL_law_1690 : decode cL_law 1690 = .ok (.istore 6, 2) := by decide +kernel
theorem dL_law_1692 : decode cL_law 1692 = .ok (.aload_n 2, 1) := by decide +kernel
theorem dL_law_1693 : decode cL_law 1693 = .ok (.aload_n 0, 1) := by decide +kernel
theorem dL_law_1694 : decode cL_law 1694 = .ok (.iload 5, 2) := by decide +kernel
theorem dL_law_1696 : decode cL_law 1696 = .ok (.iconst 1, 1) := by decide +kernel
theorem dL_law_1697 : decode cL_law 1697 = .ok (.iadd, 1) := by decide +kernel
theorem dL_law_1698 : decode cL_law 1698 = .ok (.iaload, 1) := by decide +kernel
theorem dL_law_1699 : decode cL_law 1699 = .ok (.aload_n 0, 1) := by decide +kernel
theorem dL_law_1700 : decode cL_law 1700 = .ok (.iload 5, 2) := by decide +kernel
theorem dL_law_1702 : decode cL_law 1702 = .ok (.iconst 2, 1) := by decide +kernel
theorem dL_law_1703 : decode cL_law 1703 = .ok (.iadd, 1) := by decide +kernel
theorem dL_law_1704 : decode cL_law 1704 = .ok (.iaload, 1) := by decide +kernel
theorem dL_law_1705 : decode cL_law 1705 = .ok (.invokevirtual 201, 3) := by decide +kernel
theorem dL_law_1708 : decode cL_law 1708 = .ok (.istore 7, 2) := by decide +kernel
theorem dL_law_1710 : decode cL_law 1710 = .ok (.aload_n 2, 1) := by decide +kernel
theorem dL_law_1711 : decode cL_law 1711 = .ok (.invokevirtual 121, 3) := by decide +kernel
theorem dL_law_1714 : decode cL_law 1714 = .ok (.iload 6, 2) := by decide +kernel
theorem dL_law_1716 : decode cL_law 1716 = .ok (.if_icmp .eq 5, 3) := by decide +kernel
theorem dL_law_1719 : decode cL_law 1719 = .ok (.iconst 0, 1) := by decide +kernel
theorem dL_law_1720 : decode cL_law 1720 = .ok (.ireturn, 1) := by decide +kernel
theorem dL_law_1721 : decode cL_law 1721 = .ok (.iload 6, 2) := by decide +kernel
theorem dL_law_1723 : decode cL_law 1723 = .ok (.ifCond .ne 15, 3) := by decide +kernel
theorem dL_law_1726 : decode cL_law 1726 = .ok (.aload_n 3, 1) := by decide +kernel
theorem dL_law_1727 : decode cL_law 1727 = .ok (.iconst 0, 1) := by decide +kernel
theorem dL_law_1728 : decode cL_law 1728 = .ok (.laload, 1) := by decide +kernel
theorem dL_law_1729 : decode cL_law 1729 = .ok (.iload 7, 2) := by decide +kernel
theorem dL_law_1731 : decode cL_law 1731 = .ok (.i2l, 1) := by decide +kernel
theorem dL_law_1732 : decode cL_law 1732 = .ok (.lcmp, 1) := by decide +kernel
theorem dL_law_1733 : decode cL_law 1733 = .ok (.ifCond .eq 5, 3) := by decide +kernel
theorem dL_law_1736 : decode cL_law 1736 = .ok (.iconst 0, 1) := by decide +kernel
theorem dL_law_1737 : decode cL_law 1737 = .ok (.ireturn, 1) := by decide +kernel
theorem dL_law_1738 : decode cL_law 1738 = .ok (.goto 470, 3) := by decide +kernel
theorem dL_law_1741 : decode cL_law 1741 = .ok (.aload_n 1, 1) := by decide +kernel
theorem dL_law_1742 : decode cL_law 1742 = .ok (.aload_n 0, 1) := by decide +kernel
theorem dL_law_1743 : decode cL_law 1743 = .ok (.iload 5, 2) := by decide +kernel
theorem dL_law_1745 : decode cL_law 1745 = .ok (.iconst 1, 1) := by decide +kernel
theorem dL_law_1746 : decode cL_law 1746 = .ok (.iadd, 1) := by decide +kernel
theorem dL_law_1747 : decode cL_law 1747 = .ok (.iaload, 1) := by decide +kernel
theorem dL_law_1748 : decode cL_law 1748 = .ok (.aload_n 0, 1) := by decide +kernel
theorem dL_law_1749 : decode cL_law 1749 = .ok (.iload 5, 2) := by decide +kernel
theorem dL_law_1751 : decode cL_law 1751 = .ok (.iconst 2, 1) := by decide +kernel
theorem dL_law_1752 : decode cL_law 1752 = .ok (.iadd, 1) := by decide +kernel
theorem dL_law_1753 : decode cL_law 1753 = .ok (.iaload, 1) := by decide +kernel
theorem dL_law_1754 : decode cL_law 1754 = .ok (.aload_n 3, 1) := by decide +kernel
theorem dL_law_1755 : decode cL_law 1755 = .ok (.invokestatic 202, 3) := by decide +kernel
theorem dL_law_1758 : decode cL_law 1758 = .ok (.istore 6, 2) := by decide +kernel
theorem dL_law_1760 : decode cL_law 1760 = .ok (.aload_n 2, 1) := by decide +kernel
theorem dL_law_1761 : decode cL_law 1761 = .ok (.aload_n 0, 1) := by decide +kernel
theorem dL_law_1762 : decode cL_law 1762 = .ok (.iload 5, 2) := by decide +kernel
theorem dL_law_1764 : decode cL_law 1764 = .ok (.iconst 1, 1) := by decide +kernel
theorem dL_law_1765 : decode cL_law 1765 = .ok (.iadd, 1) := by decide +kernel
theorem dL_law_1766 : decode cL_law 1766 = .ok (.iaload, 1) := by decide +kernel
theorem dL_law_1767 : decode cL_law 1767 = .ok (.aload_n 0, 1) := by decide +kernel
theorem dL_law_1768 : decode cL_law 1768 = .ok (.iload 5, 2) := by decide +kernel
theorem dL_law_1770 : decode cL_law 1770 = .ok (.iconst 2, 1) := by decide +kernel
theorem dL_law_1771 : decode cL_law 1771 = .ok (.iadd, 1) := by decide +kernel
theorem dL_law_1772 : decode cL_law 1772 = .ok (.iaload, 1) := by decide +kernel
theorem dL_law_1773 : decode cL_law 1773 = .ok (.invokevirtual 204, 3) := by decide +kernel
theorem dL_law_1776 : decode cL_law 1776 = .ok (.istore 7, 2) := by decide +kernel
theorem dL_law_1778 : decode cL_law 1778 = .ok (.aload_n 2, 1) := by decide +kernel
theorem dL_law_1779 : decode cL_law 1779 = .ok (.invokevirtual 121, 3) := by decide +kernel
theorem dL_law_1782 : decode cL_law 1782 = .ok (.iload 6, 2) := by decide +kernel
theorem dL_law_1784 : decode cL_law 1784 = .ok (.if_icmp .eq 5, 3) := by decide +kernel
theorem dL_law_1787 : decode cL_law 1787 = .ok (.iconst 0, 1) := by decide +kernel
theorem dL_law_1788 : decode cL_law 1788 = .ok (.ireturn, 1) := by decide +kernel
theorem dL_law_1789 : decode cL_law 1789 = .ok (.iload 6, 2) := by decide +kernel
theorem dL_law_1791 : decode cL_law 1791 = .ok (.ifCond .ne 15, 3) := by decide +kernel
theorem dL_law_1794 : decode cL_law 1794 = .ok (.aload_n 3, 1) := by decide +kernel
theorem dL_law_1795 : decode cL_law 1795 = .ok (.iconst 0, 1) := by decide +kernel
theorem dL_law_1796 : decode cL_law 1796 = .ok (.laload, 1) := by decide +kernel
theorem dL_law_1797 : decode cL_law 1797 = .ok (.iload 7, 2) := by decide +kernel
theorem dL_law_1799 : decode cL_law 1799 = .ok (.i2l, 1) := by decide +kernel
theorem dL_law_1800 : decode cL_law 1800 = .ok (.lcmp, 1) := by decide +kernel
theorem dL_law_1801 : decode cL_law 1801 = .ok (.ifCond .eq 5, 3) := by decide +kernel
theorem dL_law_1804 : decode cL_law 1804 = .ok (.iconst 0, 1) := by decide +kernel
theorem dL_law_1805 : decode cL_law 1805 = .ok (.ireturn, 1) := by decide +kernel
theorem dL_law_1806 : decode cL_law 1806 = .ok (.goto 402, 3) := by decide +kernel
theorem dL_law_1809 : decode cL_law 1809 = .ok (.aload_n 1, 1) := by decide +kernel
theorem dL_law_1810 : decode cL_law 1810 = .ok (.aload_n 0, 1) := by decide +kernel
theorem dL_law_1811 : decode cL_law 1811 = .ok (.iload 5, 2) := by decide +kernel
theorem dL_law_1813 : decode cL_law 1813 = .ok (.iconst 1, 1) := by decide +kernel
theorem dL_law_1814 : decode cL_law 1814 = .ok (.iadd, 1) := by decide +kernel
theorem dL_law_1815 : decode cL_law 1815 = .ok (.iaload, 1) := by decide +kernel
theorem dL_law_1816 : decode cL_law 1816 = .ok (.aload_n 0, 1) := by decide +kernel
theorem dL_law_1817 : decode cL_law 1817 = .ok (.iload 5, 2) := by decide +kernel
theorem dL_law_1819 : decode cL_law 1819 = .ok (.iconst 2, 1) := by decide +kernel
theorem dL_law_1820 : decode cL_law 1820 = .ok (.iadd, 1) := by decide +kernel
theorem dL_law_1821 : decode cL_law 1821 = .ok (.iaload, 1) := by decide +kernel
theorem dL_law_1822 : decode cL_law 1822 = .ok (.aload_n 3, 1) := by decide +kernel
theorem dL_law_1823 : decode cL_law 1823 = .ok (.invokestatic 205, 3) := by decide +kernel
theorem dL_law_1826 : decode cL_law 1826 = .ok (.istore 6, 2) := by decide +kernel
theorem dL_law_1828 : decode cL_law 1828 = .ok (.aload_n 2, 1) := by decide +kernel
theorem dL_law_1829 : decode cL_law 1829 = .ok (.aload_n 0, 1) := by decide +kernel
theorem dL_law_1830 : decode cL_law 1830 = .ok (.iload 5, 2) := by decide +kernel
theorem dL_law_1832 : decode cL_law 1832 = .ok (.iconst 1, 1) := by decide +kernel
theorem dL_law_1833 : decode cL_law 1833 = .ok (.iadd, 1) := by decide +kernel
theorem dL_law_1834 : decode cL_law 1834 = .ok (.iaload, 1) := by decide +kernel
theorem dL_law_1835 : decode cL_law 1835 = .ok (.aload_n 0, 1) := by decide +kernel
theorem dL_law_1836 : decode cL_law 1836 = .ok (.iload 5, 2) := by decide +kernel
theorem dL_law_1838 : decode cL_law 1838 = .ok (.iconst 2, 1) := by decide +kernel
theorem dL_law_1839 : decode cL_law 1839 = .ok (.iadd, 1) := by decide +kernel
theorem dL_law_1840 : decode cL_law 1840 = .ok (.iaload, 1) := by decide +kernel
theorem dL_law_1841 : decode cL_law 1841 = .ok (.invokevirtual 207, 3) := by decide +kernel
theorem dL_law_1844 : decode cL_law 1844 = .ok (.istore 7, 2) := by decide +kernel
theorem dL_law_1846 : decode cL_law 1846 = .ok (.aload_n 2, 1) := by decide +kernel
theorem dL_law_1847 : decode cL_law 1847 = .ok (.invokevirtual 121, 3) := by decide +kernel
theorem dL_law_1850 : decode cL_law 1850 = .ok (.iload 6, 2) := by decide +kernel
theorem dL_law_1852 : decode cL_law 1852 = .ok (.if_icmp .eq 5, 3) := by decide +kernel
theorem dL_law_1855 : decode cL_law 1855 = .ok (.iconst 0, 1) := by decide +kernel
theorem dL_law_1856 : decode cL_law 1856 = .ok (.ireturn, 1) := by decide +kernel
theorem dL_law_1857 : decode cL_law 1857 = .ok (.iload 6, 2) := by decide +kernel
theorem dL_law_1859 : decode cL_law 1859 = .ok (.ifCond .ne 15, 3) := by decide +kernel
theorem dL_law_1862 : decode cL_law 1862 = .ok (.aload_n 3, 1) := by decide +kernel
theorem dL_law_1863 : decode cL_law 1863 = .ok (.iconst 0, 1) := by decide +kernel
theorem dL_law_1864 : decode cL_law 1864 = .ok (.laload, 1) := by decide +kernel
theorem dL_law_1865 : decode cL_law 1865 = .ok (.iload 7, 2) := by decide +kernel
theorem dL_law_1867 : decode cL_law 1867 = .ok (.i2l, 1) := by decide +kernel
theorem dL_law_1868 : decode cL_law 1868 = .ok (.lcmp, 1) := by decide +kernel
theorem dL_law_1869 : decode cL_law 1869 = .ok (.ifCond .eq 5, 3) := by decide +kernel
theorem dL_law_1872 : decode cL_law 1872 = .ok (.iconst 0, 1) := by decide +kernel
theorem dL_law_1873 : decode cL_law 1873 = .ok (.ireturn, 1) := by decide +kernel
theorem dL_law_1874 : decode cL_law 1874 = .ok (.goto 334, 3) := by decide +kernel
theorem dL_law_1877 : decode cL_law 1877 = .ok (.aload_n 1, 1) := by decide +kernel
theorem dL_law_1878 : decode cL_law 1878 = .ok (.aload_n 0, 1) := by decide +kernel
theorem dL_law_1879 : decode cL_law 1879 = .ok (.iload 5, 2) := by decide +kernel
theorem dL_law_1881 : decode cL_law 1881 = .ok (.iconst 1, 1) := by decide +kernel
theorem dL_law_1882 : decode cL_law 1882 = .ok (.iadd, 1) := by decide +kernel
theorem dL_law_1883 : decode cL_law 1883 = .ok (.iaload, 1) := by decide +kernel
theorem dL_law_1884 : decode cL_law 1884 = .ok (.aload_n 0, 1) := by decide +kernel
theorem dL_law_1885 : decode cL_law 1885 = .ok (.iload 5, 2) := by decide +kernel
theorem dL_law_1887 : decode cL_law 1887 = .ok (.iconst 2, 1) := by decide +kernel
theorem dL_law_1888 : decode cL_law 1888 = .ok (.iadd, 1) := by decide +kernel
theorem dL_law_1889 : decode cL_law 1889 = .ok (.iaload, 1) := by decide +kernel
theorem dL_law_1890 : decode cL_law 1890 = .ok (.aload 4, 2) := by decide +kernel
theorem dL_law_1892 : decode cL_law 1892 = .ok (.invokestatic 208, 3) := by decide +kernel
theorem dL_law_1895 : decode cL_law 1895 = .ok (.istore 6, 2) := by decide +kernel
theorem dL_law_1897 : decode cL_law 1897 = .ok (.aload_n 2, 1) := by decide +kernel
theorem dL_law_1898 : decode cL_law 1898 = .ok (.aload_n 0, 1) := by decide +kernel
theorem dL_law_1899 : decode cL_law 1899 = .ok (.iload 5, 2) := by decide +kernel
theorem dL_law_1901 : decode cL_law 1901 = .ok (.iconst 1, 1) := by decide +kernel
theorem dL_law_1902 : decode cL_law 1902 = .ok (.iadd, 1) := by decide +kernel
theorem dL_law_1903 : decode cL_law 1903 = .ok (.iaload, 1) := by decide +kernel
theorem dL_law_1904 : decode cL_law 1904 = .ok (.aload_n 0, 1) := by decide +kernel
theorem dL_law_1905 : decode cL_law 1905 = .ok (.iload 5, 2) := by decide +kernel
theorem dL_law_1907 : decode cL_law 1907 = .ok (.iconst 2, 1) := by decide +kernel
theorem dL_law_1908 : decode cL_law 1908 = .ok (.iadd, 1) := by decide +kernel
theorem dL_law_1909 : decode cL_law 1909 = .ok (.iaload, 1) := by decide +kernel
theorem dL_law_1910 : decode cL_law 1910 = .ok (.invokevirtual 211, 3) := by decide +kernel
theorem dL_law_1913 : decode cL_law 1913 = .ok (.fstore 7, 2) := by decide +kernel
theorem dL_law_1915 : decode cL_law 1915 = .ok (.aload_n 2, 1) := by decide +kernel
theorem dL_law_1916 : decode cL_law 1916 = .ok (.invokevirtual 121, 3) := by decide +kernel
theorem dL_law_1919 : decode cL_law 1919 = .ok (.iload 6, 2) := by decide +kernel
theorem dL_law_1921 : decode cL_law 1921 = .ok (.if_icmp .eq 5, 3) := by decide +kernel
theorem dL_law_1924 : decode cL_law 1924 = .ok (.iconst 0, 1) := by decide +kernel
theorem dL_law_1925 : decode cL_law 1925 = .ok (.ireturn, 1) := by decide +kernel
theorem dL_law_1926 : decode cL_law 1926 = .ok (.iload 6, 2) := by decide +kernel
theorem dL_law_1928 : decode cL_law 1928 = .ok (.ifCond .ne 36, 3) := by decide +kernel
theorem dL_law_1931 : decode cL_law 1931 = .ok (.aload 4, 2) := by decide +kernel
theorem dL_law_1933 : decode cL_law 1933 = .ok (.iconst 0, 1) := by decide +kernel
theorem dL_law_1934 : decode cL_law 1934 = .ok (.daload, 1) := by decide +kernel
theorem dL_law_1935 : decode cL_law 1935 = .ok (.fload 7, 2) := by decide +kernel
theorem dL_law_1937 : decode cL_law 1937 = .ok (.f2d, 1) := by decide +kernel
theorem dL_law_1938 : decode cL_law 1938 = .ok (.dcmp .l, 1) := by decide +kernel
theorem dL_law_1939 : decode cL_law 1939 = .ok (.ifCond .eq 25, 3) := by decide +kernel
theorem dL_law_1942 : decode cL_law 1942 = .ok (.aload 4, 2) := by decide +kernel
theorem dL_law_1944 : decode cL_law 1944 = .ok (.iconst 0, 1) := by decide +kernel
theorem dL_law_1945 : decode cL_law 1945 = .ok (.daload, 1) := by decide +kernel
theorem dL_law_1946 : decode cL_law 1946 = .ok (.aload 4, 2) := by decide +kernel
theorem dL_law_1948 : decode cL_law 1948 = .ok (.iconst 0, 1) := by decide +kernel
theorem dL_law_1949 : decode cL_law 1949 = .ok (.daload, 1) := by decide +kernel
theorem dL_law_1950 : decode cL_law 1950 = .ok (.dcmp .l, 1) := by decide +kernel
theorem dL_law_1951 : decode cL_law 1951 = .ok (.ifCond .eq 11, 3) := by decide +kernel
theorem dL_law_1954 : decode cL_law 1954 = .ok (.fload 7, 2) := by decide +kernel
theorem dL_law_1956 : decode cL_law 1956 = .ok (.fload 7, 2) := by decide +kernel
theorem dL_law_1958 : decode cL_law 1958 = .ok (.fcmp .l, 1) := by decide +kernel
theorem dL_law_1959 : decode cL_law 1959 = .ok (.ifCond .ne 5, 3) := by decide +kernel
theorem dL_law_1962 : decode cL_law 1962 = .ok (.iconst 0, 1) := by decide +kernel
theorem dL_law_1963 : decode cL_law 1963 = .ok (.ireturn, 1) := by decide +kernel
theorem dL_law_1964 : decode cL_law 1964 = .ok (.goto 244, 3) := by decide +kernel
theorem dL_law_1967 : decode cL_law 1967 = .ok (.aload_n 1, 1) := by decide +kernel
theorem dL_law_1968 : decode cL_law 1968 = .ok (.aload_n 0, 1) := by decide +kernel
theorem dL_law_1969 : decode cL_law 1969 = .ok (.iload 5, 2) := by decide +kernel
theorem dL_law_1971 : decode cL_law 1971 = .ok (.iconst 1, 1) := by decide +kernel
theorem dL_law_1972 : decode cL_law 1972 = .ok (.iadd, 1) := by decide +kernel
theorem dL_law_1973 : decode cL_law 1973 = .ok (.iaload, 1) := by decide +kernel
theorem dL_law_1974 : decode cL_law 1974 = .ok (.aload_n 3, 1) := by decide +kernel
theorem dL_law_1975 : decode cL_law 1975 = .ok (.invokestatic 212, 3) := by decide +kernel
theorem dL_law_1978 : decode cL_law 1978 = .ok (.istore 6, 2) := by decide +kernel
theorem dL_law_1980 : decode cL_law 1980 = .ok (.aload_n 2, 1) := by decide +kernel
theorem dL_law_1981 : decode cL_law 1981 = .ok (.aload_n 0, 1) := by decide +kernel
theorem dL_law_1982 : decode cL_law 1982 = .ok (.iload 5, 2) := by decide +kernel
theorem dL_law_1984 : decode cL_law 1984 = .ok (.iconst 1, 1) := by decide +kernel
theorem dL_law_1985 : decode cL_law 1985 = .ok (.iadd, 1) := by decide +kernel
theorem dL_law_1986 : decode cL_law 1986 = .ok (.iaload, 1) := by decide +kernel
theorem dL_law_1987 : decode cL_law 1987 = .ok (.invokevirtual 214, 3) := by decide +kernel
theorem dL_law_1990 : decode cL_law 1990 = .ok (.istore 7, 2) := by decide +kernel
theorem dL_law_1992 : decode cL_law 1992 = .ok (.aload_n 2, 1) := by decide +kernel
theorem dL_law_1993 : decode cL_law 1993 = .ok (.invokevirtual 121, 3) := by decide +kernel
theorem dL_law_1996 : decode cL_law 1996 = .ok (.iload 6, 2) := by decide +kernel
theorem dL_law_1998 : decode cL_law 1998 = .ok (.if_icmp .eq 5, 3) := by decide +kernel
theorem dL_law_2001 : decode cL_law 2001 = .ok (.iconst 0, 1) := by decide +kernel
theorem dL_law_2002 : decode cL_law 2002 = .ok (.ireturn, 1) := by decide +kernel
theorem dL_law_2003 : decode cL_law 2003 = .ok (.iload 6, 2) := by decide +kernel
theorem dL_law_2005 : decode cL_law 2005 = .ok (.ifCond .ne 15, 3) := by decide +kernel
theorem dL_law_2008 : decode cL_law 2008 = .ok (.aload_n 3, 1) := by decide +kernel
theorem dL_law_2009 : decode cL_law 2009 = .ok (.iconst 0, 1) := by decide +kernel
theorem dL_law_2010 : decode cL_law 2010 = .ok (.laload, 1) := by decide +kernel
theorem dL_law_2011 : decode cL_law 2011 = .ok (.iload 7, 2) := by decide +kernel
theorem dL_law_2013 : decode cL_law 2013 = .ok (.i2l, 1) := by decide +kernel
theorem dL_law_2014 : decode cL_law 2014 = .ok (.lcmp, 1) := by decide +kernel
theorem dL_law_2015 : decode cL_law 2015 = .ok (.ifCond .eq 5, 3) := by decide +kernel
theorem dL_law_2018 : decode cL_law 2018 = .ok (.iconst 0, 1) := by decide +kernel
theorem dL_law_2019 : decode cL_law 2019 = .ok (.ireturn, 1) := by decide +kernel
theorem dL_law_2020 : decode cL_law 2020 = .ok (.goto 188, 3) := by decide +kernel
theorem dL_law_2023 : decode cL_law 2023 = .ok (.aload_n 1, 1) := by decide +kernel
theorem dL_law_2024 : decode cL_law 2024 = .ok (.aload_n 0, 1) := by decide +kernel
theorem dL_law_2025 : decode cL_law 2025 = .ok (.iload 5, 2) := by decide +kernel
theorem dL_law_2027 : decode cL_law 2027 = .ok (.iconst 1, 1) := by decide +kernel
theorem dL_law_2028 : decode cL_law 2028 = .ok (.iadd, 1) := by decide +kernel
theorem dL_law_2029 : decode cL_law 2029 = .ok (.iaload, 1) := by decide +kernel
theorem dL_law_2030 : decode cL_law 2030 = .ok (.aload_n 3, 1) := by decide +kernel
theorem dL_law_2031 : decode cL_law 2031 = .ok (.invokestatic 215, 3) := by decide +kernel
theorem dL_law_2034 : decode cL_law 2034 = .ok (.istore 6, 2) := by decide +kernel
theorem dL_law_2036 : decode cL_law 2036 = .ok (.aload_n 2, 1) := by decide +kernel
theorem dL_law_2037 : decode cL_law 2037 = .ok (.aload_n 0, 1) := by decide +kernel
theorem dL_law_2038 : decode cL_law 2038 = .ok (.iload 5, 2) := by decide +kernel
theorem dL_law_2040 : decode cL_law 2040 = .ok (.iconst 1, 1) := by decide +kernel
theorem dL_law_2041 : decode cL_law 2041 = .ok (.iadd, 1) := by decide +kernel
theorem dL_law_2042 : decode cL_law 2042 = .ok (.iaload, 1) := by decide +kernel
theorem dL_law_2043 : decode cL_law 2043 = .ok (.invokevirtual 217, 3) := by decide +kernel
theorem dL_law_2046 : decode cL_law 2046 = .ok (.istore 7, 2) := by decide +kernel
theorem dL_law_2048 : decode cL_law 2048 = .ok (.aload_n 2, 1) := by decide +kernel
theorem dL_law_2049 : decode cL_law 2049 = .ok (.invokevirtual 121, 3) := by decide +kernel
theorem dL_law_2052 : decode cL_law 2052 = .ok (.iload 6, 2) := by decide +kernel
theorem dL_law_2054 : decode cL_law 2054 = .ok (.if_icmp .eq 5, 3) := by decide +kernel
theorem dL_law_2057 : decode cL_law 2057 = .ok (.iconst 0, 1) := by decide +kernel
theorem dL_law_2058 : decode cL_law 2058 = .ok (.ireturn, 1) := by decide +kernel
theorem dL_law_2059 : decode cL_law 2059 = .ok (.iload 6, 2) := by decide +kernel
theorem dL_law_2061 : decode cL_law 2061 = .ok (.ifCond .ne 22, 3) := by decide +kernel
theorem dL_law_2064 : decode cL_law 2064 = .ok (.aload_n 3, 1) := by decide +kernel
theorem dL_law_2065 : decode cL_law 2065 = .ok (.iconst 0, 1) := by decide +kernel
theorem dL_law_2066 : decode cL_law 2066 = .ok (.laload, 1) := by decide +kernel
theorem dL_law_2067 : decode cL_law 2067 = .ok (.iload 7, 2) := by decide +kernel
theorem dL_law_2069 : decode cL_law 2069 = .ok (.ifCond .eq 7, 3) := by decide +kernel
theorem dL_law_2072 : decode cL_law 2072 = .ok (.lconst 1, 1) := by decide +kernel
theorem dL_law_2073 : decode cL_law 2073 = .ok (.goto 4, 3) := by decide +kernel
theorem dL_law_2076 : decode cL_law 2076 = .ok (.lconst 0, 1) := by decide +kernel
theorem dL_law_2077 : decode cL_law 2077 = .ok (.lcmp, 1) := by decide +kernel
theorem dL_law_2078 : decode cL_law 2078 = .ok (.ifCond .eq 5, 3) := by decide +kernel
theorem dL_law_2081 : decode cL_law 2081 = .ok (.iconst 0, 1) := by decide +kernel
theorem dL_law_2082 : decode cL_law 2082 = .ok (.ireturn, 1) := by decide +kernel
theorem dL_law_2083 : decode cL_law 2083 = .ok (.goto 125, 3) := by decide +kernel
theorem dL_law_2086 : decode cL_law 2086 = .ok (.aload_n 1, 1) := by decide +kernel
theorem dL_law_2087 : decode cL_law 2087 = .ok (.invokevirtual 218, 3) := by decide +kernel
theorem dL_law_2090 : decode cL_law 2090 = .ok (.aload_n 2, 1) := by decide +kernel
theorem dL_law_2091 : decode cL_law 2091 = .ok (.invokevirtual 221, 3) := by decide +kernel
theorem dL_law_2094 : decode cL_law 2094 = .ok (.if_icmp .eq 114, 3) := by decide +kernel
theorem dL_law_2097 : decode cL_law 2097 = .ok (.iconst 0, 1) := by decide +kernel
theorem dL_law_2098 : decode cL_law 2098 = .ok (.ireturn, 1) := by decide +kernel
theorem dL_law_2099 : decode cL_law 2099 = .ok (.aload_n 1, 1) := by decide +kernel
theorem dL_law_2100 : decode cL_law 2100 = .ok (.invokevirtual 222, 3) := by decide +kernel
theorem dL_law_2103 : decode cL_law 2103 = .ok (.aload_n 2, 1) := by decide +kernel
theorem dL_law_2104 : decode cL_law 2104 = .ok (.invokevirtual 225, 3) := by decide +kernel
theorem dL_law_2107 : decode cL_law 2107 = .ok (.if_icmp .eq 101, 3) := by decide +kernel
theorem dL_law_2110 : decode cL_law 2110 = .ok (.iconst 0, 1) := by decide +kernel
theorem dL_law_2111 : decode cL_law 2111 = .ok (.ireturn, 1) := by decide +kernel
theorem dL_law_2112 : decode cL_law 2112 = .ok (.aload_n 1, 1) := by decide +kernel
theorem dL_law_2113 : decode cL_law 2113 = .ok (.invokevirtual 226, 3) := by decide +kernel
theorem dL_law_2116 : decode cL_law 2116 = .ok (.aload_n 2, 1) := by decide +kernel
theorem dL_law_2117 : decode cL_law 2117 = .ok (.invokevirtual 229, 3) := by decide +kernel
theorem dL_law_2120 : decode cL_law 2120 = .ok (.if_icmp .eq 88, 3) := by decide +kernel
theorem dL_law_2123 : decode cL_law 2123 = .ok (.iconst 0, 1) := by decide +kernel
theorem dL_law_2124 : decode cL_law 2124 = .ok (.ireturn, 1) := by decide +kernel
theorem dL_law_2125 : decode cL_law 2125 = .ok (.aload_n 1, 1) := by decide +kernel
theorem dL_law_2126 : decode cL_law 2126 = .ok (.aload_n 0, 1) := by decide +kernel
theorem dL_law_2127 : decode cL_law 2127 = .ok (.iload 5, 2) := by decide +kernel
theorem dL_law_2129 : decode cL_law 2129 = .ok (.iconst 1, 1) := by decide +kernel
theorem dL_law_2130 : decode cL_law 2130 = .ok (.iadd, 1) := by decide +kernel
theorem dL_law_2131 : decode cL_law 2131 = .ok (.iaload, 1) := by decide +kernel
theorem dL_law_2132 : decode cL_law 2132 = .ok (.aload_n 3, 1) := by decide +kernel
theorem dL_law_2133 : decode cL_law 2133 = .ok (.invokestatic 230, 3) := by decide +kernel
theorem dL_law_2136 : decode cL_law 2136 = .ok (.istore 6, 2) := by decide +kernel
theorem dL_law_2138 : decode cL_law 2138 = .ok (.aload_n 2, 1) := by decide +kernel
theorem dL_law_2139 : decode cL_law 2139 = .ok (.aload_n 0, 1) := by decide +kernel
theorem dL_law_2140 : decode cL_law 2140 = .ok (.iload 5, 2) := by decide +kernel
theorem dL_law_2142 : decode cL_law 2142 = .ok (.iconst 1, 1) := by decide +kernel
theorem dL_law_2143 : decode cL_law 2143 = .ok (.iadd, 1) := by decide +kernel
theorem dL_law_2144 : decode cL_law 2144 = .ok (.iaload, 1) := by decide +kernel
theorem dL_law_2145 : decode cL_law 2145 = .ok (.invokevirtual 232, 3) := by decide +kernel
theorem dL_law_2148 : decode cL_law 2148 = .ok (.istore 7, 2) := by decide +kernel
theorem dL_law_2150 : decode cL_law 2150 = .ok (.aload_n 2, 1) := by decide +kernel
theorem dL_law_2151 : decode cL_law 2151 = .ok (.invokevirtual 121, 3) := by decide +kernel
theorem dL_law_2154 : decode cL_law 2154 = .ok (.iload 6, 2) := by decide +kernel
theorem dL_law_2156 : decode cL_law 2156 = .ok (.if_icmp .eq 5, 3) := by decide +kernel
theorem dL_law_2159 : decode cL_law 2159 = .ok (.iconst 0, 1) := by decide +kernel
theorem dL_law_2160 : decode cL_law 2160 = .ok (.ireturn, 1) := by decide +kernel
theorem dL_law_2161 : decode cL_law 2161 = .ok (.iload 6, 2) := by decide +kernel
theorem dL_law_2163 : decode cL_law 2163 = .ok (.ifCond .ne 15, 3) := by decide +kernel
theorem dL_law_2166 : decode cL_law 2166 = .ok (.aload_n 3, 1) := by decide +kernel
theorem dL_law_2167 : decode cL_law 2167 = .ok (.iconst 0, 1) := by decide +kernel
theorem dL_law_2168 : decode cL_law 2168 = .ok (.laload, 1) := by decide +kernel
theorem dL_law_2169 : decode cL_law 2169 = .ok (.iload 7, 2) := by decide +kernel
theorem dL_law_2171 : decode cL_law 2171 = .ok (.i2l, 1) := by decide +kernel
theorem dL_law_2172 : decode cL_law 2172 = .ok (.lcmp, 1) := by decide +kernel
theorem dL_law_2173 : decode cL_law 2173 = .ok (.ifCond .eq 5, 3) := by decide +kernel
theorem dL_law_2176 : decode cL_law 2176 = .ok (.iconst 0, 1) := by decide +kernel
theorem dL_law_2177 : decode cL_law 2177 = .ok (.ireturn, 1) := by decide +kernel
theorem dL_law_2178 : decode cL_law 2178 = .ok (.goto 30, 3) := by decide +kernel
theorem dL_law_2181 : decode cL_law 2181 = .ok (.aload_n 1, 1) := by decide +kernel
theorem dL_law_2182 : decode cL_law 2182 = .ok (.invokevirtual 233, 3) := by decide +kernel
theorem dL_law_2185 : decode cL_law 2185 = .ok (.aload_n 2, 1) := by decide +kernel
theorem dL_law_2186 : decode cL_law 2186 = .ok (.invokevirtual 236, 3) := by decide +kernel
theorem dL_law_2189 : decode cL_law 2189 = .ok (.if_icmp .eq 19, 3) := by decide +kernel
theorem dL_law_2192 : decode cL_law 2192 = .ok (.iconst 0, 1) := by decide +kernel
theorem dL_law_2193 : decode cL_law 2193 = .ok (.ireturn, 1) := by decide +kernel
theorem dL_law_2194 : decode cL_law 2194 = .ok (.aload_n 1, 1) := by decide +kernel
theorem dL_law_2195 : decode cL_law 2195 = .ok (.invokevirtual 237, 3) := by decide +kernel
theorem dL_law_2198 : decode cL_law 2198 = .ok (.aload_n 2, 1) := by decide +kernel
theorem dL_law_2199 : decode cL_law 2199 = .ok (.invokevirtual 241, 3) := by decide +kernel
theorem dL_law_2202 : decode cL_law 2202 = .ok (.lcmp, 1) := by decide +kernel
theorem dL_law_2203 : decode cL_law 2203 = .ok (.ifCond .eq 5, 3) := by decide +kernel
theorem dL_law_2206 : decode cL_law 2206 = .ok (.iconst 0, 1) := by decide +kernel
theorem dL_law_2207 : decode cL_law 2207 = .ok (.ireturn, 1) := by decide +kernel
theorem dL_law_2208 : decode cL_law 2208 = .ok (.iinc 5 5, 3) := by decide +kernel
theorem dL_law_2211 : decode cL_law 2211 = .ok (.goto (-2183), 3) := by decide +kernel
theorem dL_law_2214 : decode cL_law 2214 = .ok (.iconst 1, 1) := by decide +kernel
theorem dL_law_2215 : decode cL_law 2215 = .ok (.ireturn, 1) := by decide +kernel
end
section
/-! all words in one list -/
def zR : List Cond := wsL_law0_r1 ++ (wsL_law0_r2 ++ (wsL_law0_r3 ++ (wsL_law0_r4 ++ (wsL_law0_r5 ++ (wsL_law0_r6 ++ (wsL_law0_r7 ++ (wsL_law0_r8 ++ (wsL_law0_r9 ++ (wsL_law0_r10 ++ (wsL_law0_r11 ++ (wsL_law0_r12 ++ (wsL_law0_r13 ++ (wsL_law0_r14 ++ (wsL_law0_r15 ++ (wsL_law0_r16 ++ (wsL_law0_r17 ++ (wsL_law0_r18 ++ (wsL_law0_r19 ++ (wsL_law0_r20 ++ (wsL_law0_r21 ++ (wsL_law0_r22 ++ (wsL_law0_r23 ++ (wsL_law0_r24 ++ (wsL_law0_r25 ++ (wsL_law0_r26 ++ (wsL_law0_r27 ++ (wsL_law0_r28 ++ (wsL_law0_r29 ++ (wsL_law0_r30 ++ (wsL_law0_r31 ++ (wsL_law0_r32 ++ (wsL_law0_r33 ++ (wsL_law0_r34)))))))))))))))))))))))))))))))))
def zAll : List Cond := zR ++ (wsX40 ++ (wsX50 ++ (wsX10 ++ (wsX20 ++ wsX30))))
theorem zin_R : ∀ w ∈ zR, w ∈ zAll := fun _ h => List.mem_append_left _ h
theorem zin_X4 : ∀ w ∈ wsX40, w ∈ zAll := fun _ h => List.mem_append_right _ (List.mem_append_left _ h)
theorem zin_X5 : ∀ w ∈ wsX50, w ∈ zAll := fun _ h => List.mem_append_right _ (List.mem_append_right _ (List.mem_append_left _ h))
theorem zin_X1 : ∀ w ∈ wsX10, w ∈ zAll := fun _ h => List.mem_append_right _ (List.mem_append_right _ (List.mem_append_right _ (List.mem_append_left _ h)))
theorem zin_X2 : ∀ w ∈ wsX20, w ∈ zAll := fun _ h => List.mem_append_right _ (List.mem_append_right _ (List.mem_append_right _ (List.mem_append_right _ (List.mem_append_left _ h))))
theorem zin_X3 : ∀ w ∈ wsX30, w ∈ zAll := fun _ h => List.mem_append_right _ (List.mem_append_right _ (List.mem_append_right _ (List.mem_append_right _ (List.mem_append_right _ h))))
theorem zin_r1 : ∀ w ∈ wsL_law0_r1, w ∈ zAll := fun _ h => zin_R _ (List.mem_append_left _ h)
theorem zin_r2 : ∀ w ∈ wsL_law0_r2, w ∈ zAll := fun _ h => zin_R _ (List.mem_append_right _ (List.mem_append_left _ h))
theorem zin_r3 : ∀ w ∈ wsL_law0_r3, w ∈ zAll := fun _ h => zin_R _ (List.mem_append_right _ (List.mem_append_right _ (List.mem_append_left _ h)))
theorem zin_r4 : ∀ w ∈ wsL_law0_r4, w ∈ zAll := fun _ h => zin_R _ (List.mem_append_right _ (List.mem_append_right _ (List.mem_append_right _ (List.mem_append_left _ h))))
theorem zin_r5 : ∀ w ∈ wsL_law0_r5, w ∈ zAll := fun _ h => zin_R _ (List.mem_append_right _ (List.mem_append_right _ (List.mem_append_right _ (List.mem_append_right _ (List.mem_append_left _ h)))))
theorem zin_r6 : ∀ w ∈ wsL_law0_r6, w ∈ zAll := fun _ h => zin_R _ (List.mem_append_right _ (List.mem_append_right _ (List.mem_append_right _ (List.mem_append_right _ (List.mem_append_right _ (List.mem_append_left _ h))))))
theorem zin_r7 : ∀ w ∈ wsL_law0_r7, w ∈ zAll := fun _ h => zin_R _ (List.mem_append_right _ (List.mem_append_right _ (List.mem_append_right _ (List.mem_append_right _ (List.mem_append_right _ (List.mem_append_right _ (List.mem_append_left _ h)))))))
theorem zin_r8 : ∀ w ∈ wsL_law0_r8, w ∈ zAll := fun _ h => zin_R _ (List.mem_append_right _ (List.mem_append_right _ (List.mem_append_right _ (List.mem_append_right _ (List.mem_append_right _ (List.mem_append_right _ (List.mem_append_right _ (List.mem_append_left _ h))))))))
theorem zin_r9 : ∀ w ∈ wsL_law0_r9, w ∈ zAll := fun _ h => zin_R _ (List.mem_append_right _ (List.mem_append_right _ (List.mem_append_right _ (List.mem_append_right _ (List.mem_append_right _ (List.mem_append_right _ (List.mem_append_right _ (List.mem_append_right _ (List.mem_append_left _ h)))))))))
theorem zin_r10 : ∀ w ∈ wsL_law0_r10, w ∈ zAll := fun _ h => zin_R _ (List.mem_append_right _ (List.mem_append_right _ (List.mem_append_right _ (List.mem_append_right _ (List.mem_append_right _ (List.mem_append_right _ (List.mem_append_right _ (List.mem_append_right _ (List.mem_append_right _ (List.mem_append_left _ h))))))))))
theorem zin_r11 : ∀ w ∈ wsL_law0_r11, w ∈ zAll := fun _ h => zin_R _ (List.mem_append_right _ (List.mem_append_right _ (List.mem_append_right _ (List.mem_append_right _ (List.mem_append_right _ (List.mem_append_right _ (List.mem_append_right _ (List.mem_append_right _ (List.mem_append_right _ (List.mem_append_right _ (List.mem_append_left _ h)))))))))))
theorem zin_r12 : ∀ w ∈ wsL_law0_r12, w ∈ zAll := fun _ h => zin_R _ (List.mem_append_right _ (List.mem_append_right _ (List.mem_append_right _ (List.mem_append_right _ (List.mem_append_right _ (List.mem_append_right _ (List.mem_append_right _ (List.mem_append_right _ (List.mem_append_right _ (List.mem_append_right _ (List.mem_append_right _ (List.mem_append_left _ h))))))))))))
theorem zin_r13 : ∀ w ∈ wsL_law0_r13, w ∈ zAll := fun _ h => zin_R _ (List.mem_append_right _ (List.mem_append_right _ (List.mem_append_right _ (List.mem_append_right _ (List.mem_append_right _ (List.mem_append_right _ (List.mem_append_right _ (List.mem_append_right _ (List.mem_append_right _ (List.mem_append_right _ (List.mem_append_right _ (List.mem_append_right _ (List.mem_append_left _ h)))))))))))))
theorem zin_r14 : ∀ w ∈ wsL_law0_r14, w ∈ zAll := fun _ h => zin_R _ (List.mem_append_right _ (List.mem_append_right _ (List.mem_append_right _ (List.mem_append_right _ (List.mem_append_right _ (List.mem_append_right _ (List.mem_append_right _ (List.mem_append_right _ (List.mem_append_right _ (List.mem_append_right _ (List.mem_append_right _ (List.mem_append_right _ (List.mem_append_right _ (List.mem_append_left _ h))))))))))))))
theorem zin_r15 : ∀ w ∈ wsL_law0_r15, w ∈ zAll := fun _ h => zin_R _ (List.mem_append_right _ (List.mem_append_right _ (List.mem_append_right _ (List.mem_append_right _ (List.mem_append_right _ (List.mem_append_right _ (List.mem_append_right _ (List.mem_append_right _ (List.mem_append_right _ (List.mem_append_right _ (List.mem_append_right _ (List.mem_append_right _ (List.mem_append_right _ (List.mem_append_right _ (List.mem_append_left _ h)))))))))))))))
theorem zin_r16 : ∀ w ∈ wsL_law0_r16, w ∈ zAll := fun _ h => zin_R _ (List.mem_append_right _ (List.mem_append_right _ (List.mem_append_right _ (List.mem_append_right _ (List.mem_append_right _ (List.mem_append_right _ (List.mem_append_right _ (List.mem_append_right _ (List.mem_append_right _ (List.mem_append_right _ (List.mem_append_right _ (List.mem_append_right _ (List.mem_append_right _ (List.mem_append_right _ (List.mem_append_right _ (List.mem_append_left _ h))))))))))))))))
theorem zin_r17 : ∀ w ∈ wsL_law0_r17, w ∈ zAll := fun _ h => zin_R _ (List.mem_append_right _ (List.mem_append_right _ (List.mem_append_right _ (List.mem_append_right _ (List.mem_append_right _ (List.mem_append_right _ (List.mem_append_right _ (List.mem_append_right _ (List.mem_append_right _ (List.mem_append_right _ (List.mem_append_right _ (List.mem_append_right _ (List.mem_append_right _ (List.mem_append_right _ (List.mem_append_right _ (List.mem_append_right _ (List.mem_append_left _ h)))))))))))))))))
theorem zin_r18 : ∀ w ∈ wsL_law0_r18, w ∈ zAll := fun _ h => zin_R _ (List.mem_append_right _ (List.mem_append_right _ (List.mem_append_right _ (List.mem_append_right _ (List.mem_append_right _ (List.mem_append_right _ (List.mem_append_right _ (List.mem_append_right _ (List.mem_append_right _ (List.mem_append_right _ (List.mem_append_right _ (List.mem_append_right _ (List.mem_append_right _ (List.mem_append_right _ (List.mem_append_right _ (List.mem_append_right _ (List.mem_append_right _ (List.mem_append_left _ h))))))))))))))))))
theorem zin_r19 : ∀ w ∈ wsL_law0_r19, w ∈ zAll := fun _ h => zin_R _ (List.mem_append_right _ (List.mem_append_right _ (List.mem_append_right _ (List.mem_append_right _ (List.mem_append_right _ (List.mem_append_right _ (List.mem_append_right _ (List.mem_append_right _ (List.mem_append_right _ (List.mem_append_right _ (List.mem_append_right _ (List.mem_append_right _ (List.mem_append_right _ (List.mem_append_right _ (List.mem_append_right _ (List.mem_append_right _ (List.mem_append_right _ (List.mem_append_right _ (List.mem_append_left _ h)))))))))))))))))))
theorem zin_r20 : ∀ w ∈ wsL_law0_r20, w ∈ zAll := fun _ h => zin_R _ (List.mem_append_right _ (List.mem_append_right _ (List.mem_append_right _ (List.mem_append_right _ (List.mem_append_right _ (List.mem_append_right _ (List.mem_append_right _ (List.mem_append_right _ (List.mem_append_right _ (List.mem_append_right _ (List.mem_append_right _ (List.mem_append_right _ (List.mem_append_right _ (List.mem_append_right _ (List.mem_append_right _ (List.mem_append_right _ (List.mem_append_right _ (List.mem_append_right _ (List.mem_append_right _ (List.mem_append_left _ h))))))))))))))))))))
theorem zin_r21 : ∀ w ∈ wsL_law0_r21, w ∈ zAll := fun _ h => zin_R _ (List.mem_append_right _ (List.mem_append_right _ (List.mem_append_right _ (List.mem_append_right _ (List.mem_append_right _ (List.mem_append_right _ (List.mem_append_right _ (List.mem_append_right _ (List.mem_append_right _ (List.mem_append_right _ (List.mem_append_right _ (List.mem_append_right _ (List.mem_append_right _ (List.mem_append_right _ (List.mem_append_right _ (List.mem_append_right _ (List.mem_append_right _ (List.mem_append_right _ (List.mem_append_right _ (List.mem_append_right _ (List.mem_append_left _ h)))))))))))))))))))))
theorem zin_r22 : ∀ w ∈ wsL_law0_r22, w ∈ zAll := fun _ h => zin_R _ (List.mem_append_right _ (List.mem_append_right _ (List.mem_append_right _ (List.mem_append_right _ (List.mem_append_right _ (List.mem_append_right _ (List.mem_append_right _ (List.mem_append_right _ (List.mem_append_right _ (List.mem_append_right _ (List.mem_append_right _ (List.mem_append_right _ (List.mem_append_right _ (List.mem_append_right _ (List.mem_append_right _ (List.mem_append_right _ (List.mem_append_right _ (List.mem_append_right _ (List.mem_append_right _ (List.mem_append_right _ (List.mem_append_right _ (List.mem_append_left _ h))))))))))))))))))))))
theorem zin_r23 : ∀ w ∈ wsL_law0_r23, w ∈ zAll := fun _ h => zin_R _ (List.mem_append_right _ (List.mem_append_right _ (List.mem_append_right _ (List.mem_append_right _ (List.mem_append_right _ (List.mem_append_right _ (List.mem_append_right _ (List.mem_append_right _ (List.mem_append_right _ (List.mem_append_right _ (List.mem_append_right _ (List.mem_append_right _ (List.mem_append_right _ (List.mem_append_right _ (List.mem_append_right _ (List.mem_append_right _ (List.mem_append_right _ (List.mem_append_right _ (List.mem_append_right _ (List.mem_append_right _ (List.mem_append_right _ (List.mem_append_right _ (List.mem_append_left _ h)))))))))))))))))))))))
theorem zin_r24 : ∀ w ∈ wsL_law0_r24, w ∈ zAll := fun _ h => zin_R _ (List.mem_append_right _ (List.mem_append_right _ (List.mem_append_right _ (List.mem_append_right _ (List.mem_append_right _ (List.mem_append_right _ (List.mem_append_right _ (List.mem_append_right _ (List.mem_append_right _ (List.mem_append_right _ (List.mem_append_right _ (List.mem_append_right _ (List.mem_append_right _ (List.mem_append_right _ (List.mem_append_right _ (List.mem_append_right _ (List.mem_append_right _ (List.mem_append_right _ (List.mem_append_right _ (List.mem_append_right _ (List.mem_append_right _ (List.mem_append_right _ (List.mem_append_right _ (List.mem_append_left _ h))))))))))))))))))))))))
theorem zin_r25 : ∀ w ∈ wsL_law0_r25, w ∈ zAll := fun _ h => zin_R _ (List.mem_append_right _ (List.mem_append_right _ (List.mem_append_right _ (List.mem_append_right _ (List.mem_append_right _ (List.mem_append_right _ (List.mem_append_right _ (List.mem_append_right _ (List.mem_append_right _ (List.mem_append_right _ (List.mem_append_right _ (List.mem_append_right _ (List.mem_append_right _ (List.mem_append_right _ (List.mem_append_right _ (List.mem_append_right _ (List.mem_append_right _ (List.mem_append_right _ (List.mem_append_right _ (List.mem_append_right _ (List.mem_append_right _ (List.mem_append_right _ (List.mem_append_right _ (List.mem_append_right _ (List.mem_append_left _ h)))))))))))))))))))))))))
theorem zin_r26 : ∀ w ∈ wsL_law0_r26, w ∈ zAll := fun _ h => zin_R _ (List.mem_append_right _ (List.mem_append_right _ (List.mem_append_right _ (List.mem_append_right _ (List.mem_append_right _ (List.mem_append_right _ (List.mem_append_right _ (List.mem_append_right _ (List.mem_append_right _ (List.mem_append_right _ (List.mem_append_right _ (List.mem_append_right _ (List.mem_append_right _ (List.mem_append_right _ (List.mem_append_right _ (List.mem_append_right _ (List.mem_append_right _ (List.mem_append_right _ (List.mem_append_right _ (List.mem_append_right _ (List.mem_append_right _ (List.mem_append_right _ (List.mem_append_right _ (List.mem_append_right _ (List.mem_append_right _ (List.mem_append_left _ h))))))))))))))))))))))))))
theorem zin_r27 : ∀ w ∈ wsL_law0_r27, w ∈ zAll := fun _ h => zin_R _ (List.mem_append_right _ (List.mem_append_right _ (List.mem_append_right _ (List.mem_append_right _ (List.mem_append_right _ (List.mem_append_right _ (List.mem_append_right _ (List.mem_append_right _ (List.mem_append_right _ (List.mem_append_right _ (List.mem_append_right _ (List.mem_append_right _ (List.mem_append_right _ (List.mem_append_right _ (List.mem_append_right _ (List.mem_append_right _ (List.mem_append_right _ (List.mem_append_right _ (List.mem_append_right _ (List.mem_append_right _ (List.mem_append_right _ (List.mem_append_right _ (List.mem_append_right _ (List.mem_append_right _ (List.mem_append_right _ (List.mem_append_right _ (List.mem_append_left _ h)))))))))))))))))))))))))))
theorem zin_r28 : ∀ w ∈ wsL_law0_r28, w ∈ zAll := fun _ h => zin_R _ (List.mem_append_right _ (List.mem_append_right _ (List.mem_append_right _ (List.mem_append_right _ (List.mem_append_right _ (List.mem_append_right _ (List.mem_append_right _ (List.mem_append_right _ (List.mem_append_right _ (List.mem_append_right _ (List.mem_append_right _ (List.mem_append_right _ (List.mem_append_right _ (List.mem_append_right _ (List.mem_append_right _ (List.mem_append_right _ (List.mem_append_right _ (List.mem_append_right _ (List.mem_append_right _ (List.mem_append_right _ (List.mem_append_right _ (List.mem_append_right _ (List.mem_append_right _ (List.mem_append_right _ (List.mem_append_right _ (List.mem_append_right _ (List.mem_append_right _ (List.mem_append_left _ h))))))))))))))))))))))))))))
theorem zin_r29 : ∀ w ∈ wsL_law0_r29, w ∈ zAll := fun _ h => zin_R _ (List.mem_append_right _ (List.mem_append_right _ (List.mem_append_right _ (List.mem_append_right _ (List.mem_append_right _ (List.mem_append_right _ (List.mem_append_right _ (List.mem_append_right _ (List.mem_append_right _ (List.mem_append_right _ (List.mem_append_right _ (List.mem_append_right _ (List.mem_append_right _ (List.mem_append_right _ (List.mem_append_right _ (List.mem_append_right _ (List.mem_append_right _ (List.mem_append_right _ (List.mem_append_right _ (List.mem_append_right _ (List.mem_append_right _ (List.mem_append_right _ (List.mem_append_right _ (List.mem_append_right _ (List.mem_append_right _ (List.mem_append_right _ (List.mem_append_right _ (List.mem_append_right _ (List.mem_append_left _ h)))))))))))))))))))))))))))))
theorem zin_r30 : ∀ w ∈ wsL_law0_r30, w ∈ zAll := fun _ h => zin_R _ (List.mem_append_right _ (List.mem_append_right _ (List.mem_append_right _ (List.mem_append_right _ (List.mem_append_right _ (List.mem_append_right _ (List.mem_append_right _ (List.mem_append_right _ (List.mem_append_right _ (List.mem_append_right _ (List.mem_append_right _ (List.mem_append_right _ (List.mem_append_right _ (List.mem_append_right _ (List.mem_append_right _ (List.mem_append_right _ (List.mem_append_right _ (List.mem_append_right _ (List.mem_append_right _ (List.mem_append_right _ (List.mem_append_right _ (List.mem_append_right _ (List.mem_append_right _ (List.mem_append_right _ (List.mem_append_right _ (List.mem_append_right _ (List.mem_append_right _ (List.mem_append_right _ (List.mem_append_right _ (List.mem_append_left _ h))))))))))))))))))))))))))))))
theorem zin_r31 : ∀ w ∈ wsL_law0_r31, w ∈ zAll := fun _ h => zin_R _ (List.mem_append_right _ (List.mem_append_right _ (List.mem_append_right _ (List.mem_append_right _ (List.mem_append_right _ (List.mem_append_right _ (List.mem_append_right _ (List.mem_append_right _ (List.mem_append_right _ (List.mem_append_right _ (List.mem_append_right _ (List.mem_append_right _ (List.mem_append_right _ (List.mem_append_right _ (List.mem_append_right _ (List.mem_append_right _ (List.mem_append_right _ (List.mem_append_right _ (List.mem_append_right _ (List.mem_append_right _ (List.mem_append_right _ (List.mem_append_right _ (List.mem_append_right _ (List.mem_append_right _ (List.mem_append_right _ (List.mem_append_right _ (List.mem_append_right _ (List.mem_append_right _ (List.mem_append_right _ (List.mem_append_right _ (List.mem_append_left _ h)))))))))))))))))))))))))))))))
theorem zin_r32 : ∀ w ∈ wsL_law0_r32, w ∈ zAll := fun _ h => zin_R _ (List.mem_append_right _ (List.mem_append_right _ (List.mem_append_right _ (List.mem_append_right _ (List.mem_append_right _ (List.mem_append_right _ (List.mem_append_right _ (List.mem_append_right _ (List.mem_append_right _ (List.mem_append_right _ (List.mem_append_right _ (List.mem_append_right _ (List.mem_append_right _ (List.mem_append_right _ (List.mem_append_right _ (List.mem_append_right _ (List.mem_append_right _ (List.mem_append_right _ (List.mem_append_right _ (List.mem_append_right _ (List.mem_append_right _ (List.mem_append_right _ (List.mem_append_right _ (List.mem_append_right _ (List.mem_append_right _ (List.mem_append_right _ (List.mem_append_right _ (List.mem_append_right _ (List.mem_append_right _ (List.mem_append_right _ (List.mem_append_right _ (List.mem_append_left _ h))))))))))))))))))))))))))))))))
theorem zin_r33 : ∀ w ∈ wsL_law0_r33, w ∈ zAll := fun _ h => zin_R _ (List.mem_append_right _ (List.mem_append_right _ (List.mem_append_right _ (List.mem_append_right _ (List.mem_append_right _ (List.mem_append_right _ (List.mem_append_right _ (List.mem_append_right _ (List.mem_append_right _ (List.mem_append_right _ (List.mem_append_right _ (List.mem_append_right _ (List.mem_append_right _ (List.mem_append_right _ (List.mem_append_right _ (List.mem_append_right _ (List.mem_append_right _ (List.mem_append_right _ (List.mem_append_right _ (List.mem_append_right _ (List.mem_append_right _ (List.mem_append_right _ (List.mem_append_right _ (List.mem_append_right _ (List.mem_append_right _ (List.mem_append_right _ (List.mem_append_right _ (List.mem_append_right _ (List.mem_append_right _ (List.mem_append_right _ (List.mem_append_right _ (List.mem_append_right _ (List.mem_append_left _ h)))))))))))))))))))))))))))))))))
theorem zin_r34 : ∀ w ∈ wsL_law0_r34, w ∈ zAll := fun _ h => zin_R _ (List.mem_append_right _ (List.mem_append_right _ (List.mem_append_right _ (List.mem_append_right _ (List.mem_append_right _ (List.mem_append_right _ (List.mem_append_right _ (List.mem_append_right _ (List.mem_append_right _ (List.mem_append_right _ (List.mem_append_right _ (List.mem_append_right _ (List.mem_append_right _ (List.mem_append_right _ (List.mem_append_right _ (List.mem_append_right _ (List.mem_append_right _ (List.mem_append_right _ (List.mem_append_right _ (List.mem_append_right _ (List.mem_append_right _ (List.mem_append_right _ (List.mem_append_right _ (List.mem_append_right _ (List.mem_append_right _ (List.mem_append_right _ (List.mem_append_right _ (List.mem_append_right _ (List.mem_append_right _ (List.mem_append_right _ (List.mem_append_right _ (List.mem_append_right _ (List.mem_append_right _ h)))))))))))))))))))))))))))))))))
theorem aw_1_0 : Cond.classLink RL 8 RX4 ∈ zAll := zin_r1 _ (List.mem_of_getElem? (i := 0) rfl)
theorem aw_1_1 : Cond.instantiable RX4 6 ∈ zAll := zin_r1 _ (List.mem_of_getElem? (i := 1) rfl)
theorem aw_1_2 : Cond.initialized RX4 ∈ zAll := zin_r1 _ (List.mem_of_getElem? (i := 2) rfl)
theorem aw_1_3 : Cond.classLink RL 112 RX5 ∈ zAll := zin_r1 _ (List.mem_of_getElem? (i := 3) rfl)
theorem aw_1_4 : Cond.instantiable RX5 18 ∈ zAll := zin_r1 _ (List.mem_of_getElem? (i := 4) rfl)
theorem aw_1_5 : Cond.initialized RX5 ∈ zAll := zin_r1 _ (List.mem_of_getElem? (i := 5) rfl)
theorem aw_1_6 : Cond.arrayClass .long ∈ zAll := zin_r1 _ (List.mem_of_getElem? (i := 6) rfl)
theorem aw_1_7 : Cond.arrayClass .double ∈ zAll := zin_r1 _ (List.mem_of_getElem? (i := 7) rfl)
theorem aw_1_8 : Cond.methodLink RL 111 yX4_init ∈ zAll := zin_r1 _ (List.mem_of_getElem? (i := 8) rfl)
theorem aw_1_9 : Cond.instanceMethod yX4_init ∈ zAll := zin_r1 _ (List.mem_of_getElem? (i := 9) rfl)
theorem aw_1_10 : Cond.code yX4_init cX4_init 1 none ∈ zAll := zin_r1 _ (List.mem_of_getElem? (i := 10) rfl)
theorem aw_1_11 : Cond.methodLink RX4 3 objectInit ∈ zAll := zin_r1 _ (List.mem_of_getElem? (i := 11) rfl)
theorem aw_1_12 : Cond.instanceMethod objectInit ∈ zAll := zin_r1 _ (List.mem_of_getElem? (i := 12) rfl)
theorem aw_1_13 : Cond.code objectInit ⟨#[0xb1]⟩ 1 none ∈ zAll := zin_r1 _ (List.mem_of_getElem? (i := 13) rfl)
theorem aw_1_14 : Cond.classLink RX4 9 RX1 ∈ zAll := zin_r1 _ (List.mem_of_getElem? (i := 14) rfl)
theorem aw_1_15 : Cond.instantiable RX1 10 ∈ zAll := zin_r1 _ (List.mem_of_getElem? (i := 15) rfl)
theorem aw_1_16 : Cond.initialized RX1 ∈ zAll := zin_r1 _ (List.mem_of_getElem? (i := 16) rfl)
theorem aw_1_17 : Cond.fieldLink RX4 12 "Assetmerge" "inventory" "LAssetmerge$Inventory;" ∈ zAll := zin_r1 _ (List.mem_of_getElem? (i := 17) rfl)
theorem aw_1_18 : Cond.classLink RX4 16 RX2 ∈ zAll := zin_r1 _ (List.mem_of_getElem? (i := 18) rfl)
theorem aw_1_19 : Cond.instantiable RX2 2 ∈ zAll := zin_r1 _ (List.mem_of_getElem? (i := 19) rfl)
theorem aw_1_20 : Cond.initialized RX2 ∈ zAll := zin_r1 _ (List.mem_of_getElem? (i := 20) rfl)
theorem aw_1_21 : Cond.fieldLink RX4 19 "Assetmerge" "joining" "LAssetmerge$Joining;" ∈ zAll := zin_r1 _ (List.mem_of_getElem? (i := 21) rfl)
theorem aw_1_22 : Cond.classLink RX4 23 RX3 ∈ zAll := zin_r1 _ (List.mem_of_getElem? (i := 22) rfl)
theorem aw_1_23 : Cond.instantiable RX3 2 ∈ zAll := zin_r1 _ (List.mem_of_getElem? (i := 23) rfl)
theorem aw_2_0 : Cond.initialized RX3 ∈ zAll := zin_r2 _ (List.mem_of_getElem? (i := 0) rfl)
theorem aw_2_1 : Cond.fieldLink RX4 26 "Assetmerge" "spreading" "LAssetmerge$Spreading;" ∈ zAll := zin_r2 _ (List.mem_of_getElem? (i := 1) rfl)
theorem aw_2_2 : Cond.arrayClass .int ∈ zAll := zin_r2 _ (List.mem_of_getElem? (i := 2) rfl)
theorem aw_2_3 : Cond.fieldLink RX4 30 "Assetmerge" "order" "[I" ∈ zAll := zin_r2 _ (List.mem_of_getElem? (i := 3) rfl)
theorem aw_2_4 : Cond.fieldLink RX4 34 "Assetmerge" "limit" "I" ∈ zAll := zin_r2 _ (List.mem_of_getElem? (i := 4) rfl)
theorem aw_2_5 : Cond.instanceMethod yX1_init ∈ zAll := zin_r2 _ (List.mem_of_getElem? (i := 5) rfl)
theorem aw_2_6 : Cond.code yX1_init cX1_init 1 none ∈ zAll := zin_r2 _ (List.mem_of_getElem? (i := 6) rfl)
theorem aw_2_7 : Cond.methodLink RX1 3 objectInit ∈ zAll := zin_r2 _ (List.mem_of_getElem? (i := 7) rfl)
theorem aw_2_8 : Cond.fieldLink RX1 9 "Assetmerge$Inventory" "trusts" "[I" ∈ zAll := zin_r2 _ (List.mem_of_getElem? (i := 8) rfl)
theorem aw_2_9 : Cond.fieldLink RX1 15 "Assetmerge$Inventory" "sources" "[I" ∈ zAll := zin_r2 _ (List.mem_of_getElem? (i := 9) rfl)
theorem aw_2_10 : Cond.fieldLink RX1 18 "Assetmerge$Inventory" "seenDays" "[I" ∈ zAll := zin_r2 _ (List.mem_of_getElem? (i := 10) rfl)
theorem aw_2_11 : Cond.classLink RX1 21 "[[I" ∈ zAll := zin_r2 _ (List.mem_of_getElem? (i := 11) rfl)
theorem aw_2_12 : Cond.fieldLink RX1 23 "Assetmerge$Inventory" "keys" "[[I" ∈ zAll := zin_r2 _ (List.mem_of_getElem? (i := 12) rfl)
theorem aw_2_13 : Cond.fieldLink RX1 26 "Assetmerge$Inventory" "facts" "[[I" ∈ zAll := zin_r2 _ (List.mem_of_getElem? (i := 13) rfl)
theorem aw_2_14 : Cond.fieldLink RX1 29 "Assetmerge$Inventory" "forbidden" "[I" ∈ zAll := zin_r2 _ (List.mem_of_getElem? (i := 14) rfl)
theorem aw_2_15 : Cond.instanceMethod yX2_init ∈ zAll := zin_r2 _ (List.mem_of_getElem? (i := 15) rfl)
theorem aw_2_16 : Cond.code yX2_init cX2_init 1 none ∈ zAll := zin_r2 _ (List.mem_of_getElem? (i := 16) rfl)
theorem aw_2_17 : Cond.instanceMethod yX0_init ∈ zAll := zin_r2 _ (List.mem_of_getElem? (i := 17) rfl)
theorem aw_2_18 : Cond.initialized RX0 ∈ zAll := zin_r2 _ (List.mem_of_getElem? (i := 18) rfl)
theorem aw_2_19 : Cond.code yX0_init cX0_init 1 none ∈ zAll := zin_r2 _ (List.mem_of_getElem? (i := 19) rfl)
theorem aw_2_20 : Cond.methodLink RX0 3 objectInit ∈ zAll := zin_r2 _ (List.mem_of_getElem? (i := 20) rfl)
theorem aw_2_21 : Cond.classLink RX0 9 "[[I" ∈ zAll := zin_r2 _ (List.mem_of_getElem? (i := 21) rfl)
theorem aw_2_22 : Cond.fieldLink RX0 11 "Assetmerge$Finder" "groups" "[[I" ∈ zAll := zin_r2 _ (List.mem_of_getElem? (i := 22) rfl)
theorem aw_2_23 : Cond.fieldLink RX0 16 "Assetmerge$Finder" "clusters" "[I" ∈ zAll := zin_r2 _ (List.mem_of_getElem? (i := 23) rfl)
theorem aw_3_0 : Cond.instanceMethod yX3_init ∈ zAll := zin_r3 _ (List.mem_of_getElem? (i := 0) rfl)
theorem aw_3_1 : Cond.code yX3_init cX3_init 1 none ∈ zAll := zin_r3 _ (List.mem_of_getElem? (i := 1) rfl)
theorem aw_3_2 : Cond.methodLink RL 114 yX5_init ∈ zAll := zin_r3 _ (List.mem_of_getElem? (i := 2) rfl)
theorem aw_3_3 : Cond.instanceMethod yX5_init ∈ zAll := zin_r3 _ (List.mem_of_getElem? (i := 3) rfl)
theorem aw_3_4 : Cond.code yX5_init cX5_init 1 none ∈ zAll := zin_r3 _ (List.mem_of_getElem? (i := 4) rfl)
theorem aw_3_5 : Cond.methodLink RX5 1 objectInit ∈ zAll := zin_r3 _ (List.mem_of_getElem? (i := 5) rfl)
theorem aw_3_6 : Cond.fieldLink RX5 9 "AssetmergeModel" "trusts" "[I" ∈ zAll := zin_r3 _ (List.mem_of_getElem? (i := 6) rfl)
theorem aw_3_7 : Cond.fieldLink RX5 13 "AssetmergeModel" "sourceOf" "[I" ∈ zAll := zin_r3 _ (List.mem_of_getElem? (i := 7) rfl)
theorem aw_3_8 : Cond.fieldLink RX5 16 "AssetmergeModel" "seen" "[I" ∈ zAll := zin_r3 _ (List.mem_of_getElem? (i := 8) rfl)
theorem aw_3_9 : Cond.classLink RX5 19 "[[I" ∈ zAll := zin_r3 _ (List.mem_of_getElem? (i := 9) rfl)
theorem aw_3_10 : Cond.fieldLink RX5 21 "AssetmergeModel" "keys" "[[I" ∈ zAll := zin_r3 _ (List.mem_of_getElem? (i := 10) rfl)
theorem aw_3_11 : Cond.fieldLink RX5 24 "AssetmergeModel" "facts" "[[I" ∈ zAll := zin_r3 _ (List.mem_of_getElem? (i := 11) rfl)
theorem aw_3_12 : Cond.arrayClass .boolean ∈ zAll := zin_r3 _ (List.mem_of_getElem? (i := 12) rfl)
theorem aw_3_13 : Cond.fieldLink RX5 27 "AssetmergeModel" "isDropped" "[Z" ∈ zAll := zin_r3 _ (List.mem_of_getElem? (i := 13) rfl)
theorem aw_3_14 : Cond.fieldLink RX5 31 "AssetmergeModel" "ones" "[I" ∈ zAll := zin_r3 _ (List.mem_of_getElem? (i := 14) rfl)
theorem aw_3_15 : Cond.fieldLink RX5 34 "AssetmergeModel" "others" "[I" ∈ zAll := zin_r3 _ (List.mem_of_getElem? (i := 15) rfl)
theorem aw_3_16 : Cond.fieldLink RX5 37 "AssetmergeModel" "limit" "I" ∈ zAll := zin_r3 _ (List.mem_of_getElem? (i := 16) rfl)
theorem aw_3_17 : Cond.fieldLink RX5 41 "AssetmergeModel" "groups" "[I" ∈ zAll := zin_r3 _ (List.mem_of_getElem? (i := 17) rfl)
theorem aw_3_18 : Cond.fieldLink RX5 44 "AssetmergeModel" "clusters" "[I" ∈ zAll := zin_r3 _ (List.mem_of_getElem? (i := 18) rfl)
theorem aw_3_19 : Cond.fieldLink RX5 47 "AssetmergeModel" "without" "I" ∈ zAll := zin_r3 _ (List.mem_of_getElem? (i := 19) rfl)
theorem aw_3_20 : Cond.fieldLink RX5 50 "AssetmergeModel" "freed" "I" ∈ zAll := zin_r3 _ (List.mem_of_getElem? (i := 20) rfl)
theorem aw_3_21 : Cond.methodLink RL 115 yL_addSource ∈ zAll := zin_r3 _ (List.mem_of_getElem? (i := 21) rfl)
theorem aw_3_22 : Cond.static yL_addSource ∈ zAll := zin_r3 _ (List.mem_of_getElem? (i := 22) rfl)
theorem aw_3_23 : Cond.initialized RL ∈ zAll := zin_r3 _ (List.mem_of_getElem? (i := 23) rfl)
theorem aw_4_0 : Cond.codeWith yL_addSource cL_addSource 4 (some .int) [(0, 9, 12, 13), (0, 9, 15, 15)] ∈ zAll := zin_r4 _ (List.mem_of_getElem? (i := 0) rfl)
theorem aw_4_1 : Cond.classLink RL 13 "java/lang/IllegalArgumentException" ∈ zAll := zin_r4 _ (List.mem_of_getElem? (i := 1) rfl)
theorem aw_4_2 : Cond.classLink RL 15 "java/lang/IllegalStateException" ∈ zAll := zin_r4 _ (List.mem_of_getElem? (i := 2) rfl)
theorem aw_4_3 : Cond.methodLink RL 7 yX4_addSource ∈ zAll := zin_r4 _ (List.mem_of_getElem? (i := 3) rfl)
theorem aw_4_4 : Cond.instanceMethod yX4_addSource ∈ zAll := zin_r4 _ (List.mem_of_getElem? (i := 4) rfl)
theorem aw_4_5 : Cond.selects RX4 yX4_addSource yX4_addSource ∈ zAll := zin_r4 _ (List.mem_of_getElem? (i := 5) rfl)
theorem aw_4_6 : Cond.code yX4_addSource cX4_addSource 2 (some .int) ∈ zAll := zin_r4 _ (List.mem_of_getElem? (i := 6) rfl)
theorem aw_4_7 : Cond.classLink RX4 45 "java/lang/IllegalStateException" ∈ zAll := zin_r4 _ (List.mem_of_getElem? (i := 7) rfl)
theorem aw_4_8 : Cond.initialized "java/lang/IllegalStateException" ∈ zAll := zin_r4 _ (List.mem_of_getElem? (i := 8) rfl)
theorem aw_4_9 : Cond.fieldLink RX4 42 "Assetmerge$Inventory" "sourceCount" "I" ∈ zAll := zin_r4 _ (List.mem_of_getElem? (i := 9) rfl)
theorem aw_4_10 : Cond.methodLink RX4 38 yX4_checkRange ∈ zAll := zin_r4 _ (List.mem_of_getElem? (i := 10) rfl)
theorem aw_4_11 : Cond.static yX4_checkRange ∈ zAll := zin_r4 _ (List.mem_of_getElem? (i := 11) rfl)
theorem aw_4_12 : Cond.code yX4_checkRange cX4_checkRange 3 none ∈ zAll := zin_r4 _ (List.mem_of_getElem? (i := 12) rfl)
theorem aw_4_13 : Cond.classLink RX4 219 "java/lang/IllegalArgumentException" ∈ zAll := zin_r4 _ (List.mem_of_getElem? (i := 13) rfl)
theorem aw_4_14 : Cond.initialized "java/lang/IllegalArgumentException" ∈ zAll := zin_r4 _ (List.mem_of_getElem? (i := 14) rfl)
theorem aw_4_15 : Cond.methodLink RX4 52 yX1_putSource ∈ zAll := zin_r4 _ (List.mem_of_getElem? (i := 15) rfl)
theorem aw_4_16 : Cond.instanceMethod yX1_putSource ∈ zAll := zin_r4 _ (List.mem_of_getElem? (i := 16) rfl)
theorem aw_4_17 : Cond.selects RX1 yX1_putSource yX1_putSource ∈ zAll := zin_r4 _ (List.mem_of_getElem? (i := 17) rfl)
theorem aw_4_18 : Cond.code yX1_putSource cX1_putSource 3 (some .int) ∈ zAll := zin_r4 _ (List.mem_of_getElem? (i := 18) rfl)
theorem aw_4_19 : Cond.fieldLink RX1 32 "Assetmerge$Inventory" "sourceCount" "I" ∈ zAll := zin_r4 _ (List.mem_of_getElem? (i := 19) rfl)
theorem aw_4_20 : Cond.methodLink RL 120 yX5_addSource ∈ zAll := zin_r4 _ (List.mem_of_getElem? (i := 20) rfl)
theorem aw_4_21 : Cond.instanceMethod yX5_addSource ∈ zAll := zin_r4 _ (List.mem_of_getElem? (i := 21) rfl)
theorem aw_4_22 : Cond.selects RX5 yX5_addSource yX5_addSource ∈ zAll := zin_r4 _ (List.mem_of_getElem? (i := 22) rfl)
theorem aw_4_23 : Cond.code yX5_addSource cX5_addSource 2 (some .int) ∈ zAll := zin_r4 _ (List.mem_of_getElem? (i := 23) rfl)
theorem aw_5_0 : Cond.fieldLink RX5 67 "AssetmergeModel" "sources" "I" ∈ zAll := zin_r5 _ (List.mem_of_getElem? (i := 0) rfl)
theorem aw_5_1 : Cond.fieldLink RX5 53 "AssetmergeModel" "thrown" "I" ∈ zAll := zin_r5 _ (List.mem_of_getElem? (i := 1) rfl)
theorem aw_5_2 : Cond.methodLink RX5 59 yX5_in ∈ zAll := zin_r5 _ (List.mem_of_getElem? (i := 2) rfl)
theorem aw_5_3 : Cond.static yX5_in ∈ zAll := zin_r5 _ (List.mem_of_getElem? (i := 3) rfl)
theorem aw_5_4 : Cond.code yX5_in cX5_in 3 (some .boolean) ∈ zAll := zin_r5 _ (List.mem_of_getElem? (i := 4) rfl)
theorem aw_5_5 : Cond.methodLink RL 121 yX5_thrown ∈ zAll := zin_r5 _ (List.mem_of_getElem? (i := 5) rfl)
theorem aw_5_6 : Cond.instanceMethod yX5_thrown ∈ zAll := zin_r5 _ (List.mem_of_getElem? (i := 6) rfl)
theorem aw_5_7 : Cond.selects RX5 yX5_thrown yX5_thrown ∈ zAll := zin_r5 _ (List.mem_of_getElem? (i := 7) rfl)
theorem aw_5_8 : Cond.code yX5_thrown cX5_thrown 1 (some .int) ∈ zAll := zin_r5 _ (List.mem_of_getElem? (i := 8) rfl)
theorem aw_5_9 : Cond.methodLink RL 125 yL_setTrust ∈ zAll := zin_r5 _ (List.mem_of_getElem? (i := 9) rfl)
theorem aw_5_10 : Cond.static yL_setTrust ∈ zAll := zin_r5 _ (List.mem_of_getElem? (i := 10) rfl)
theorem aw_5_11 : Cond.codeWith yL_setTrust cL_setTrust 5 (some .int) [(0, 10, 13, 21), (0, 10, 17, 13)] ∈ zAll := zin_r5 _ (List.mem_of_getElem? (i := 11) rfl)
theorem aw_5_12 : Cond.classLink RL 21 "java/lang/IndexOutOfBoundsException" ∈ zAll := zin_r5 _ (List.mem_of_getElem? (i := 12) rfl)
theorem aw_5_13 : Cond.methodLink RL 17 yX4_setTrust ∈ zAll := zin_r5 _ (List.mem_of_getElem? (i := 13) rfl)
theorem aw_5_14 : Cond.instanceMethod yX4_setTrust ∈ zAll := zin_r5 _ (List.mem_of_getElem? (i := 14) rfl)
theorem aw_5_15 : Cond.selects RX4 yX4_setTrust yX4_setTrust ∈ zAll := zin_r5 _ (List.mem_of_getElem? (i := 15) rfl)
theorem aw_5_16 : Cond.code yX4_setTrust cX4_setTrust 4 (some .int) ∈ zAll := zin_r5 _ (List.mem_of_getElem? (i := 16) rfl)
theorem aw_5_17 : Cond.fieldLink RX4 60 "Assetmerge$Inventory" "trusts" "[I" ∈ zAll := zin_r5 _ (List.mem_of_getElem? (i := 17) rfl)
theorem aw_5_18 : Cond.methodLink RX4 56 yX4_checkSource ∈ zAll := zin_r5 _ (List.mem_of_getElem? (i := 18) rfl)
theorem aw_5_19 : Cond.instanceMethod yX4_checkSource ∈ zAll := zin_r5 _ (List.mem_of_getElem? (i := 19) rfl)
theorem aw_5_20 : Cond.selects RX4 yX4_checkSource yX4_checkSource ∈ zAll := zin_r5 _ (List.mem_of_getElem? (i := 20) rfl)
theorem aw_5_21 : Cond.code yX4_checkSource cX4_checkSource 2 none ∈ zAll := zin_r5 _ (List.mem_of_getElem? (i := 21) rfl)
theorem aw_5_22 : Cond.classLink RX4 205 "java/lang/IndexOutOfBoundsException" ∈ zAll := zin_r5 _ (List.mem_of_getElem? (i := 22) rfl)
theorem aw_5_23 : Cond.initialized "java/lang/IndexOutOfBoundsException" ∈ zAll := zin_r5 _ (List.mem_of_getElem? (i := 23) rfl)
theorem aw_6_0 : Cond.methodLink RL 128 yX5_setTrust ∈ zAll := zin_r6 _ (List.mem_of_getElem? (i := 0) rfl)
theorem aw_6_1 : Cond.instanceMethod yX5_setTrust ∈ zAll := zin_r6 _ (List.mem_of_getElem? (i := 1) rfl)
theorem aw_6_2 : Cond.selects RX5 yX5_setTrust yX5_setTrust ∈ zAll := zin_r6 _ (List.mem_of_getElem? (i := 2) rfl)
theorem aw_6_3 : Cond.code yX5_setTrust cX5_setTrust 4 (some .int) ∈ zAll := zin_r6 _ (List.mem_of_getElem? (i := 3) rfl)
theorem aw_6_4 : Cond.methodLink RL 129 yL_addRecord ∈ zAll := zin_r6 _ (List.mem_of_getElem? (i := 4) rfl)
theorem aw_6_5 : Cond.static yL_addRecord ∈ zAll := zin_r6 _ (List.mem_of_getElem? (i := 5) rfl)
theorem aw_6_6 : Cond.codeWith yL_addRecord cL_addRecord 7 (some .int) [(0, 14, 17, 21), (0, 14, 21, 13), (0, 14, 25, 15)] ∈ zAll := zin_r6 _ (List.mem_of_getElem? (i := 6) rfl)
theorem aw_6_7 : Cond.methodLink RL 23 yX4_addRecord ∈ zAll := zin_r6 _ (List.mem_of_getElem? (i := 7) rfl)
theorem aw_6_8 : Cond.instanceMethod yX4_addRecord ∈ zAll := zin_r6 _ (List.mem_of_getElem? (i := 8) rfl)
theorem aw_6_9 : Cond.selects RX4 yX4_addRecord yX4_addRecord ∈ zAll := zin_r6 _ (List.mem_of_getElem? (i := 9) rfl)
theorem aw_6_10 : Cond.code yX4_addRecord cX4_addRecord 6 (some .int) ∈ zAll := zin_r6 _ (List.mem_of_getElem? (i := 10) rfl)
theorem aw_6_11 : Cond.fieldLink RX4 63 "Assetmerge$Inventory" "recordCount" "I" ∈ zAll := zin_r6 _ (List.mem_of_getElem? (i := 11) rfl)
theorem aw_6_12 : Cond.fieldLink RX4 68 "Assetmerge" "day" "I" ∈ zAll := zin_r6 _ (List.mem_of_getElem? (i := 12) rfl)
theorem aw_6_13 : Cond.fieldLink RX4 75 "Assetmerge$Inventory" "keys" "[[I" ∈ zAll := zin_r6 _ (List.mem_of_getElem? (i := 13) rfl)
theorem aw_6_14 : Cond.methodLink RX4 71 yX1_putRecord ∈ zAll := zin_r6 _ (List.mem_of_getElem? (i := 14) rfl)
theorem aw_6_15 : Cond.instanceMethod yX1_putRecord ∈ zAll := zin_r6 _ (List.mem_of_getElem? (i := 15) rfl)
theorem aw_6_16 : Cond.selects RX1 yX1_putRecord yX1_putRecord ∈ zAll := zin_r6 _ (List.mem_of_getElem? (i := 16) rfl)
theorem aw_6_17 : Cond.code yX1_putRecord cX1_putRecord 5 (some .int) ∈ zAll := zin_r6 _ (List.mem_of_getElem? (i := 17) rfl)
theorem aw_6_18 : Cond.fieldLink RX1 36 "Assetmerge$Inventory" "recordCount" "I" ∈ zAll := zin_r6 _ (List.mem_of_getElem? (i := 18) rfl)
theorem aw_6_19 : Cond.methodLink RX1 39 yX1_unhide ∈ zAll := zin_r6 _ (List.mem_of_getElem? (i := 19) rfl)
theorem aw_6_20 : Cond.instanceMethod yX1_unhide ∈ zAll := zin_r6 _ (List.mem_of_getElem? (i := 20) rfl)
theorem aw_6_21 : Cond.selects RX1 yX1_unhide yX1_unhide ∈ zAll := zin_r6 _ (List.mem_of_getElem? (i := 21) rfl)
theorem aw_6_22 : Cond.code yX1_unhide cX1_unhide 2 none ∈ zAll := zin_r6 _ (List.mem_of_getElem? (i := 22) rfl)
theorem aw_6_23 : Cond.fieldLink RX1 43 "Assetmerge$Inventory" "live" "I" ∈ zAll := zin_r6 _ (List.mem_of_getElem? (i := 23) rfl)
theorem aw_7_0 : Cond.methodLink RL 132 yX5_addRecord ∈ zAll := zin_r7 _ (List.mem_of_getElem? (i := 0) rfl)
theorem aw_7_1 : Cond.instanceMethod yX5_addRecord ∈ zAll := zin_r7 _ (List.mem_of_getElem? (i := 1) rfl)
theorem aw_7_2 : Cond.selects RX5 yX5_addRecord yX5_addRecord ∈ zAll := zin_r7 _ (List.mem_of_getElem? (i := 2) rfl)
theorem aw_7_3 : Cond.code yX5_addRecord cX5_addRecord 7 (some .int) ∈ zAll := zin_r7 _ (List.mem_of_getElem? (i := 3) rfl)
theorem aw_7_4 : Cond.fieldLink RX5 56 "AssetmergeModel" "records" "I" ∈ zAll := zin_r7 _ (List.mem_of_getElem? (i := 4) rfl)
theorem aw_7_5 : Cond.fieldLink RX5 73 "AssetmergeModel" "today" "I" ∈ zAll := zin_r7 _ (List.mem_of_getElem? (i := 5) rfl)
theorem aw_7_6 : Cond.methodLink RX5 70 yX5_isKey ∈ zAll := zin_r7 _ (List.mem_of_getElem? (i := 6) rfl)
theorem aw_7_7 : Cond.static yX5_isKey ∈ zAll := zin_r7 _ (List.mem_of_getElem? (i := 7) rfl)
theorem aw_7_8 : Cond.code yX5_isKey cX5_isKey 1 (some .boolean) ∈ zAll := zin_r7 _ (List.mem_of_getElem? (i := 8) rfl)
theorem aw_7_9 : Cond.methodLink RL 133 yL_setKey ∈ zAll := zin_r7 _ (List.mem_of_getElem? (i := 9) rfl)
theorem aw_7_10 : Cond.static yL_setKey ∈ zAll := zin_r7 _ (List.mem_of_getElem? (i := 10) rfl)
theorem aw_7_11 : Cond.codeWith yL_setKey cL_setKey 6 (some .int) [(0, 12, 15, 21), (0, 12, 19, 13)] ∈ zAll := zin_r7 _ (List.mem_of_getElem? (i := 11) rfl)
theorem aw_7_12 : Cond.methodLink RL 27 yX4_setKey ∈ zAll := zin_r7 _ (List.mem_of_getElem? (i := 12) rfl)
theorem aw_7_13 : Cond.instanceMethod yX4_setKey ∈ zAll := zin_r7 _ (List.mem_of_getElem? (i := 13) rfl)
theorem aw_7_14 : Cond.selects RX4 yX4_setKey yX4_setKey ∈ zAll := zin_r7 _ (List.mem_of_getElem? (i := 14) rfl)
theorem aw_7_15 : Cond.code yX4_setKey cX4_setKey 5 (some .int) ∈ zAll := zin_r7 _ (List.mem_of_getElem? (i := 15) rfl)
theorem aw_7_16 : Cond.methodLink RX4 79 yX4_checkRecord ∈ zAll := zin_r7 _ (List.mem_of_getElem? (i := 16) rfl)
theorem aw_7_17 : Cond.instanceMethod yX4_checkRecord ∈ zAll := zin_r7 _ (List.mem_of_getElem? (i := 17) rfl)
theorem aw_7_18 : Cond.selects RX4 yX4_checkRecord yX4_checkRecord ∈ zAll := zin_r7 _ (List.mem_of_getElem? (i := 18) rfl)
theorem aw_7_19 : Cond.code yX4_checkRecord cX4_checkRecord 2 none ∈ zAll := zin_r7 _ (List.mem_of_getElem? (i := 19) rfl)
theorem aw_7_20 : Cond.methodLink RX4 210 yX1_holds ∈ zAll := zin_r7 _ (List.mem_of_getElem? (i := 20) rfl)
theorem aw_7_21 : Cond.instanceMethod yX1_holds ∈ zAll := zin_r7 _ (List.mem_of_getElem? (i := 21) rfl)
theorem aw_7_22 : Cond.selects RX1 yX1_holds yX1_holds ∈ zAll := zin_r7 _ (List.mem_of_getElem? (i := 22) rfl)
theorem aw_7_23 : Cond.code yX1_holds cX1_holds 2 (some .boolean) ∈ zAll := zin_r7 _ (List.mem_of_getElem? (i := 23) rfl)
theorem aw_8_0 : Cond.methodLink RX1 46 yX1_isIn ∈ zAll := zin_r8 _ (List.mem_of_getElem? (i := 0) rfl)
theorem aw_8_1 : Cond.static yX1_isIn ∈ zAll := zin_r8 _ (List.mem_of_getElem? (i := 1) rfl)
theorem aw_8_2 : Cond.code yX1_isIn cX1_isIn 2 (some .boolean) ∈ zAll := zin_r8 _ (List.mem_of_getElem? (i := 2) rfl)
theorem aw_8_3 : Cond.methodLink RX4 82 yX4_checkKind ∈ zAll := zin_r8 _ (List.mem_of_getElem? (i := 3) rfl)
theorem aw_8_4 : Cond.static yX4_checkKind ∈ zAll := zin_r8 _ (List.mem_of_getElem? (i := 4) rfl)
theorem aw_8_5 : Cond.code yX4_checkKind cX4_checkKind 1 none ∈ zAll := zin_r8 _ (List.mem_of_getElem? (i := 5) rfl)
theorem aw_8_6 : Cond.methodLink RL 136 yX5_setKey ∈ zAll := zin_r8 _ (List.mem_of_getElem? (i := 6) rfl)
theorem aw_8_7 : Cond.instanceMethod yX5_setKey ∈ zAll := zin_r8 _ (List.mem_of_getElem? (i := 7) rfl)
theorem aw_8_8 : Cond.selects RX5 yX5_setKey yX5_setKey ∈ zAll := zin_r8 _ (List.mem_of_getElem? (i := 8) rfl)
theorem aw_8_9 : Cond.code yX5_setKey cX5_setKey 5 (some .int) ∈ zAll := zin_r8 _ (List.mem_of_getElem? (i := 9) rfl)
theorem aw_8_10 : Cond.methodLink RX5 63 yX5_isRecord ∈ zAll := zin_r8 _ (List.mem_of_getElem? (i := 10) rfl)
theorem aw_8_11 : Cond.instanceMethod yX5_isRecord ∈ zAll := zin_r8 _ (List.mem_of_getElem? (i := 11) rfl)
theorem aw_8_12 : Cond.selects RX5 yX5_isRecord yX5_isRecord ∈ zAll := zin_r8 _ (List.mem_of_getElem? (i := 12) rfl)
theorem aw_8_13 : Cond.code yX5_isRecord cX5_isRecord 2 (some .boolean) ∈ zAll := zin_r8 _ (List.mem_of_getElem? (i := 13) rfl)
theorem aw_8_14 : Cond.methodLink RL 137 yL_setFact ∈ zAll := zin_r8 _ (List.mem_of_getElem? (i := 14) rfl)
theorem aw_8_15 : Cond.static yL_setFact ∈ zAll := zin_r8 _ (List.mem_of_getElem? (i := 15) rfl)
theorem aw_8_16 : Cond.codeWith yL_setFact cL_setFact 6 (some .int) [(0, 12, 15, 21), (0, 12, 19, 13)] ∈ zAll := zin_r8 _ (List.mem_of_getElem? (i := 16) rfl)
theorem aw_8_17 : Cond.methodLink RL 31 yX4_setFact ∈ zAll := zin_r8 _ (List.mem_of_getElem? (i := 17) rfl)
theorem aw_8_18 : Cond.instanceMethod yX4_setFact ∈ zAll := zin_r8 _ (List.mem_of_getElem? (i := 18) rfl)
theorem aw_8_19 : Cond.selects RX4 yX4_setFact yX4_setFact ∈ zAll := zin_r8 _ (List.mem_of_getElem? (i := 19) rfl)
theorem aw_8_20 : Cond.code yX4_setFact cX4_setFact 5 (some .int) ∈ zAll := zin_r8 _ (List.mem_of_getElem? (i := 20) rfl)
theorem aw_8_21 : Cond.fieldLink RX4 88 "Assetmerge$Inventory" "facts" "[[I" ∈ zAll := zin_r8 _ (List.mem_of_getElem? (i := 21) rfl)
theorem aw_8_22 : Cond.methodLink RX4 85 yX4_checkField ∈ zAll := zin_r8 _ (List.mem_of_getElem? (i := 22) rfl)
theorem aw_8_23 : Cond.static yX4_checkField ∈ zAll := zin_r8 _ (List.mem_of_getElem? (i := 23) rfl)
theorem aw_9_0 : Cond.code yX4_checkField cX4_checkField 1 none ∈ zAll := zin_r9 _ (List.mem_of_getElem? (i := 0) rfl)
theorem aw_9_1 : Cond.methodLink RL 139 yX5_setFact ∈ zAll := zin_r9 _ (List.mem_of_getElem? (i := 1) rfl)
theorem aw_9_2 : Cond.instanceMethod yX5_setFact ∈ zAll := zin_r9 _ (List.mem_of_getElem? (i := 2) rfl)
theorem aw_9_3 : Cond.selects RX5 yX5_setFact yX5_setFact ∈ zAll := zin_r9 _ (List.mem_of_getElem? (i := 3) rfl)
theorem aw_9_4 : Cond.code yX5_setFact cX5_setFact 5 (some .int) ∈ zAll := zin_r9 _ (List.mem_of_getElem? (i := 4) rfl)
theorem aw_9_5 : Cond.methodLink RL 140 yL_see ∈ zAll := zin_r9 _ (List.mem_of_getElem? (i := 5) rfl)
theorem aw_9_6 : Cond.static yL_see ∈ zAll := zin_r9 _ (List.mem_of_getElem? (i := 6) rfl)
theorem aw_9_7 : Cond.codeWith yL_see cL_see 4 (some .int) [(0, 9, 12, 21)] ∈ zAll := zin_r9 _ (List.mem_of_getElem? (i := 7) rfl)
theorem aw_9_8 : Cond.methodLink RL 34 yX4_see ∈ zAll := zin_r9 _ (List.mem_of_getElem? (i := 8) rfl)
theorem aw_9_9 : Cond.instanceMethod yX4_see ∈ zAll := zin_r9 _ (List.mem_of_getElem? (i := 9) rfl)
theorem aw_9_10 : Cond.selects RX4 yX4_see yX4_see ∈ zAll := zin_r9 _ (List.mem_of_getElem? (i := 10) rfl)
theorem aw_9_11 : Cond.code yX4_see cX4_see 3 (some .int) ∈ zAll := zin_r9 _ (List.mem_of_getElem? (i := 11) rfl)
theorem aw_9_12 : Cond.fieldLink RX4 91 "Assetmerge$Inventory" "seenDays" "[I" ∈ zAll := zin_r9 _ (List.mem_of_getElem? (i := 12) rfl)
theorem aw_9_13 : Cond.methodLink RL 142 yX5_see ∈ zAll := zin_r9 _ (List.mem_of_getElem? (i := 13) rfl)
theorem aw_9_14 : Cond.instanceMethod yX5_see ∈ zAll := zin_r9 _ (List.mem_of_getElem? (i := 14) rfl)
theorem aw_9_15 : Cond.selects RX5 yX5_see yX5_see ∈ zAll := zin_r9 _ (List.mem_of_getElem? (i := 15) rfl)
theorem aw_9_16 : Cond.code yX5_see cX5_see 3 (some .int) ∈ zAll := zin_r9 _ (List.mem_of_getElem? (i := 16) rfl)
theorem aw_9_17 : Cond.methodLink RX5 76 yX5_lacks ∈ zAll := zin_r9 _ (List.mem_of_getElem? (i := 17) rfl)
theorem aw_9_18 : Cond.instanceMethod yX5_lacks ∈ zAll := zin_r9 _ (List.mem_of_getElem? (i := 18) rfl)
theorem aw_9_19 : Cond.selects RX5 yX5_lacks yX5_lacks ∈ zAll := zin_r9 _ (List.mem_of_getElem? (i := 19) rfl)
theorem aw_9_20 : Cond.code yX5_lacks cX5_lacks 2 (some .boolean) ∈ zAll := zin_r9 _ (List.mem_of_getElem? (i := 20) rfl)
theorem aw_9_21 : Cond.methodLink RL 143 yL_drop ∈ zAll := zin_r9 _ (List.mem_of_getElem? (i := 21) rfl)
theorem aw_9_22 : Cond.static yL_drop ∈ zAll := zin_r9 _ (List.mem_of_getElem? (i := 22) rfl)
theorem aw_9_23 : Cond.codeWith yL_drop cL_drop 4 (some .int) [(0, 9, 12, 21)] ∈ zAll := zin_r9 _ (List.mem_of_getElem? (i := 23) rfl)
theorem aw_10_0 : Cond.methodLink RL 37 yX4_drop ∈ zAll := zin_r10 _ (List.mem_of_getElem? (i := 0) rfl)
theorem aw_10_1 : Cond.instanceMethod yX4_drop ∈ zAll := zin_r10 _ (List.mem_of_getElem? (i := 1) rfl)
theorem aw_10_2 : Cond.selects RX4 yX4_drop yX4_drop ∈ zAll := zin_r10 _ (List.mem_of_getElem? (i := 2) rfl)
theorem aw_10_3 : Cond.code yX4_drop cX4_drop 2 (some .int) ∈ zAll := zin_r10 _ (List.mem_of_getElem? (i := 3) rfl)
theorem aw_10_4 : Cond.methodLink RX4 94 yX1_hide ∈ zAll := zin_r10 _ (List.mem_of_getElem? (i := 4) rfl)
theorem aw_10_5 : Cond.instanceMethod yX1_hide ∈ zAll := zin_r10 _ (List.mem_of_getElem? (i := 5) rfl)
theorem aw_10_6 : Cond.selects RX1 yX1_hide yX1_hide ∈ zAll := zin_r10 _ (List.mem_of_getElem? (i := 6) rfl)
theorem aw_10_7 : Cond.code yX1_hide cX1_hide 2 none ∈ zAll := zin_r10 _ (List.mem_of_getElem? (i := 7) rfl)
theorem aw_10_8 : Cond.methodLink RX4 97 yX1_countRecords ∈ zAll := zin_r10 _ (List.mem_of_getElem? (i := 8) rfl)
theorem aw_10_9 : Cond.instanceMethod yX1_countRecords ∈ zAll := zin_r10 _ (List.mem_of_getElem? (i := 9) rfl)
theorem aw_10_10 : Cond.selects RX1 yX1_countRecords yX1_countRecords ∈ zAll := zin_r10 _ (List.mem_of_getElem? (i := 10) rfl)
theorem aw_10_11 : Cond.code yX1_countRecords cX1_countRecords 1 (some .int) ∈ zAll := zin_r10 _ (List.mem_of_getElem? (i := 11) rfl)
theorem aw_10_12 : Cond.methodLink RX1 50 yJ6_bitCount_0f7a4 ∈ zAll := zin_r10 _ (List.mem_of_getElem? (i := 12) rfl)
theorem aw_10_13 : Cond.static yJ6_bitCount_0f7a4 ∈ zAll := zin_r10 _ (List.mem_of_getElem? (i := 13) rfl)
theorem aw_10_14 : Cond.initialized RJ6 ∈ zAll := zin_r10 _ (List.mem_of_getElem? (i := 14) rfl)
theorem aw_10_15 : Cond.code yJ6_bitCount_0f7a4 cJ6_bitCount_0f7a4 1 (some .int) ∈ zAll := zin_r10 _ (List.mem_of_getElem? (i := 15) rfl)
theorem aw_10_16 : Cond.constant RJ6 265 (1431655765) ∈ zAll := zin_r10 _ (List.mem_of_getElem? (i := 16) rfl)
theorem aw_10_17 : Cond.constant RJ6 266 (858993459) ∈ zAll := zin_r10 _ (List.mem_of_getElem? (i := 17) rfl)
theorem aw_10_18 : Cond.constant RJ6 267 (252645135) ∈ zAll := zin_r10 _ (List.mem_of_getElem? (i := 18) rfl)
theorem aw_10_19 : Cond.methodLink RL 145 yX5_drop ∈ zAll := zin_r10 _ (List.mem_of_getElem? (i := 19) rfl)
theorem aw_10_20 : Cond.instanceMethod yX5_drop ∈ zAll := zin_r10 _ (List.mem_of_getElem? (i := 20) rfl)
theorem aw_10_21 : Cond.selects RX5 yX5_drop yX5_drop ∈ zAll := zin_r10 _ (List.mem_of_getElem? (i := 21) rfl)
theorem aw_10_22 : Cond.code yX5_drop cX5_drop 2 (some .int) ∈ zAll := zin_r10 _ (List.mem_of_getElem? (i := 22) rfl)
theorem aw_10_23 : Cond.methodLink RX5 79 yX5_left ∈ zAll := zin_r10 _ (List.mem_of_getElem? (i := 23) rfl)
theorem aw_11_0 : Cond.instanceMethod yX5_left ∈ zAll := zin_r11 _ (List.mem_of_getElem? (i := 0) rfl)
theorem aw_11_1 : Cond.selects RX5 yX5_left yX5_left ∈ zAll := zin_r11 _ (List.mem_of_getElem? (i := 1) rfl)
theorem aw_11_2 : Cond.code yX5_left cX5_left 3 (some .int) ∈ zAll := zin_r11 _ (List.mem_of_getElem? (i := 2) rfl)
theorem aw_11_3 : Cond.methodLink RL 146 yL_forbid ∈ zAll := zin_r11 _ (List.mem_of_getElem? (i := 3) rfl)
theorem aw_11_4 : Cond.static yL_forbid ∈ zAll := zin_r11 _ (List.mem_of_getElem? (i := 4) rfl)
theorem aw_11_5 : Cond.codeWith yL_forbid cL_forbid 5 (some .int) [(0, 10, 13, 21), (0, 10, 17, 13), (0, 10, 21, 15)] ∈ zAll := zin_r11 _ (List.mem_of_getElem? (i := 5) rfl)
theorem aw_11_6 : Cond.methodLink RL 40 yX4_forbid ∈ zAll := zin_r11 _ (List.mem_of_getElem? (i := 6) rfl)
theorem aw_11_7 : Cond.instanceMethod yX4_forbid ∈ zAll := zin_r11 _ (List.mem_of_getElem? (i := 7) rfl)
theorem aw_11_8 : Cond.selects RX4 yX4_forbid yX4_forbid ∈ zAll := zin_r11 _ (List.mem_of_getElem? (i := 8) rfl)
theorem aw_11_9 : Cond.code yX4_forbid cX4_forbid 3 (some .int) ∈ zAll := zin_r11 _ (List.mem_of_getElem? (i := 9) rfl)
theorem aw_11_10 : Cond.fieldLink RX4 111 "Assetmerge$Inventory" "pairCount" "I" ∈ zAll := zin_r11 _ (List.mem_of_getElem? (i := 10) rfl)
theorem aw_11_11 : Cond.methodLink RX4 101 yX4_checkDifferent ∈ zAll := zin_r11 _ (List.mem_of_getElem? (i := 11) rfl)
theorem aw_11_12 : Cond.static yX4_checkDifferent ∈ zAll := zin_r11 _ (List.mem_of_getElem? (i := 12) rfl)
theorem aw_11_13 : Cond.code yX4_checkDifferent cX4_checkDifferent 2 none ∈ zAll := zin_r11 _ (List.mem_of_getElem? (i := 13) rfl)
theorem aw_11_14 : Cond.methodLink RX4 105 yX1_isForbidden ∈ zAll := zin_r11 _ (List.mem_of_getElem? (i := 14) rfl)
theorem aw_11_15 : Cond.instanceMethod yX1_isForbidden ∈ zAll := zin_r11 _ (List.mem_of_getElem? (i := 15) rfl)
theorem aw_11_16 : Cond.selects RX1 yX1_isForbidden yX1_isForbidden ∈ zAll := zin_r11 _ (List.mem_of_getElem? (i := 16) rfl)
theorem aw_11_17 : Cond.code yX1_isForbidden cX1_isForbidden 3 (some .boolean) ∈ zAll := zin_r11 _ (List.mem_of_getElem? (i := 17) rfl)
theorem aw_11_18 : Cond.methodLink RX4 116 yX1_part ∈ zAll := zin_r11 _ (List.mem_of_getElem? (i := 18) rfl)
theorem aw_11_19 : Cond.instanceMethod yX1_part ∈ zAll := zin_r11 _ (List.mem_of_getElem? (i := 19) rfl)
theorem aw_11_20 : Cond.selects RX1 yX1_part yX1_part ∈ zAll := zin_r11 _ (List.mem_of_getElem? (i := 20) rfl)
theorem aw_11_21 : Cond.code yX1_part cX1_part 3 none ∈ zAll := zin_r11 _ (List.mem_of_getElem? (i := 21) rfl)
theorem aw_11_22 : Cond.methodLink RX4 119 yX1_countPairs ∈ zAll := zin_r11 _ (List.mem_of_getElem? (i := 22) rfl)
theorem aw_11_23 : Cond.instanceMethod yX1_countPairs ∈ zAll := zin_r11 _ (List.mem_of_getElem? (i := 23) rfl)
theorem aw_12_0 : Cond.selects RX1 yX1_countPairs yX1_countPairs ∈ zAll := zin_r12 _ (List.mem_of_getElem? (i := 0) rfl)
theorem aw_12_1 : Cond.code yX1_countPairs cX1_countPairs 3 (some .int) ∈ zAll := zin_r12 _ (List.mem_of_getElem? (i := 1) rfl)
theorem aw_12_2 : Cond.methodLink RX1 56 yX1_holds ∈ zAll := zin_r12 _ (List.mem_of_getElem? (i := 2) rfl)
theorem aw_12_3 : Cond.methodLink RL 148 yX5_forbid ∈ zAll := zin_r12 _ (List.mem_of_getElem? (i := 3) rfl)
theorem aw_12_4 : Cond.instanceMethod yX5_forbid ∈ zAll := zin_r12 _ (List.mem_of_getElem? (i := 4) rfl)
theorem aw_12_5 : Cond.selects RX5 yX5_forbid yX5_forbid ∈ zAll := zin_r12 _ (List.mem_of_getElem? (i := 5) rfl)
theorem aw_12_6 : Cond.code yX5_forbid cX5_forbid 3 (some .int) ∈ zAll := zin_r12 _ (List.mem_of_getElem? (i := 6) rfl)
theorem aw_12_7 : Cond.fieldLink RX5 83 "AssetmergeModel" "pairs" "I" ∈ zAll := zin_r12 _ (List.mem_of_getElem? (i := 7) rfl)
theorem aw_12_8 : Cond.methodLink RX5 86 yX5_pair ∈ zAll := zin_r12 _ (List.mem_of_getElem? (i := 8) rfl)
theorem aw_12_9 : Cond.instanceMethod yX5_pair ∈ zAll := zin_r12 _ (List.mem_of_getElem? (i := 9) rfl)
theorem aw_12_10 : Cond.selects RX5 yX5_pair yX5_pair ∈ zAll := zin_r12 _ (List.mem_of_getElem? (i := 10) rfl)
theorem aw_12_11 : Cond.code yX5_pair cX5_pair 4 (some .int) ∈ zAll := zin_r12 _ (List.mem_of_getElem? (i := 11) rfl)
theorem aw_12_12 : Cond.methodLink RX5 90 yX5_countedPairs ∈ zAll := zin_r12 _ (List.mem_of_getElem? (i := 12) rfl)
theorem aw_12_13 : Cond.instanceMethod yX5_countedPairs ∈ zAll := zin_r12 _ (List.mem_of_getElem? (i := 13) rfl)
theorem aw_12_14 : Cond.selects RX5 yX5_countedPairs yX5_countedPairs ∈ zAll := zin_r12 _ (List.mem_of_getElem? (i := 14) rfl)
theorem aw_12_15 : Cond.code yX5_countedPairs cX5_countedPairs 3 (some .int) ∈ zAll := zin_r12 _ (List.mem_of_getElem? (i := 15) rfl)
theorem aw_12_16 : Cond.methodLink RL 149 yL_allow ∈ zAll := zin_r12 _ (List.mem_of_getElem? (i := 16) rfl)
theorem aw_12_17 : Cond.static yL_allow ∈ zAll := zin_r12 _ (List.mem_of_getElem? (i := 17) rfl)
theorem aw_12_18 : Cond.codeWith yL_allow cL_allow 5 (some .int) [(0, 10, 13, 21), (0, 10, 17, 46)] ∈ zAll := zin_r12 _ (List.mem_of_getElem? (i := 18) rfl)
theorem aw_12_19 : Cond.classLink RL 46 "java/util/NoSuchElementException" ∈ zAll := zin_r12 _ (List.mem_of_getElem? (i := 19) rfl)
theorem aw_12_20 : Cond.methodLink RL 43 yX4_allow ∈ zAll := zin_r12 _ (List.mem_of_getElem? (i := 20) rfl)
theorem aw_12_21 : Cond.instanceMethod yX4_allow ∈ zAll := zin_r12 _ (List.mem_of_getElem? (i := 21) rfl)
theorem aw_12_22 : Cond.selects RX4 yX4_allow yX4_allow ∈ zAll := zin_r12 _ (List.mem_of_getElem? (i := 22) rfl)
theorem aw_12_23 : Cond.code yX4_allow cX4_allow 3 (some .int) ∈ zAll := zin_r12 _ (List.mem_of_getElem? (i := 23) rfl)
theorem aw_13_0 : Cond.methodLink RX4 122 yX4_checkForbidden ∈ zAll := zin_r13 _ (List.mem_of_getElem? (i := 0) rfl)
theorem aw_13_1 : Cond.instanceMethod yX4_checkForbidden ∈ zAll := zin_r13 _ (List.mem_of_getElem? (i := 1) rfl)
theorem aw_13_2 : Cond.selects RX4 yX4_checkForbidden yX4_checkForbidden ∈ zAll := zin_r13 _ (List.mem_of_getElem? (i := 2) rfl)
theorem aw_13_3 : Cond.code yX4_checkForbidden cX4_checkForbidden 3 none ∈ zAll := zin_r13 _ (List.mem_of_getElem? (i := 3) rfl)
theorem aw_13_4 : Cond.classLink RX4 147 "java/util/NoSuchElementException" ∈ zAll := zin_r13 _ (List.mem_of_getElem? (i := 4) rfl)
theorem aw_13_5 : Cond.initialized "java/util/NoSuchElementException" ∈ zAll := zin_r13 _ (List.mem_of_getElem? (i := 5) rfl)
theorem aw_13_6 : Cond.methodLink RX4 125 yX1_unpart ∈ zAll := zin_r13 _ (List.mem_of_getElem? (i := 6) rfl)
theorem aw_13_7 : Cond.instanceMethod yX1_unpart ∈ zAll := zin_r13 _ (List.mem_of_getElem? (i := 7) rfl)
theorem aw_13_8 : Cond.selects RX1 yX1_unpart yX1_unpart ∈ zAll := zin_r13 _ (List.mem_of_getElem? (i := 8) rfl)
theorem aw_13_9 : Cond.code yX1_unpart cX1_unpart 3 none ∈ zAll := zin_r13 _ (List.mem_of_getElem? (i := 9) rfl)
theorem aw_13_10 : Cond.methodLink RL 151 yX5_allow ∈ zAll := zin_r13 _ (List.mem_of_getElem? (i := 10) rfl)
theorem aw_13_11 : Cond.instanceMethod yX5_allow ∈ zAll := zin_r13 _ (List.mem_of_getElem? (i := 11) rfl)
theorem aw_13_12 : Cond.selects RX5 yX5_allow yX5_allow ∈ zAll := zin_r13 _ (List.mem_of_getElem? (i := 12) rfl)
theorem aw_13_13 : Cond.code yX5_allow cX5_allow 4 (some .int) ∈ zAll := zin_r13 _ (List.mem_of_getElem? (i := 13) rfl)
theorem aw_13_14 : Cond.methodLink RX5 93 yX5_raises ∈ zAll := zin_r13 _ (List.mem_of_getElem? (i := 14) rfl)
theorem aw_13_15 : Cond.instanceMethod yX5_raises ∈ zAll := zin_r13 _ (List.mem_of_getElem? (i := 15) rfl)
theorem aw_13_16 : Cond.selects RX5 yX5_raises yX5_raises ∈ zAll := zin_r13 _ (List.mem_of_getElem? (i := 16) rfl)
theorem aw_13_17 : Cond.code yX5_raises cX5_raises 2 (some .int) ∈ zAll := zin_r13 _ (List.mem_of_getElem? (i := 17) rfl)
theorem aw_13_18 : Cond.methodLink RL 152 yX4_records ∈ zAll := zin_r13 _ (List.mem_of_getElem? (i := 18) rfl)
theorem aw_13_19 : Cond.instanceMethod yX4_records ∈ zAll := zin_r13 _ (List.mem_of_getElem? (i := 19) rfl)
theorem aw_13_20 : Cond.selects RX4 yX4_records yX4_records ∈ zAll := zin_r13 _ (List.mem_of_getElem? (i := 20) rfl)
theorem aw_13_21 : Cond.code yX4_records cX4_records 1 (some .int) ∈ zAll := zin_r13 _ (List.mem_of_getElem? (i := 21) rfl)
theorem aw_13_22 : Cond.methodLink RL 155 yX5_records ∈ zAll := zin_r13 _ (List.mem_of_getElem? (i := 22) rfl)
theorem aw_13_23 : Cond.instanceMethod yX5_records ∈ zAll := zin_r13 _ (List.mem_of_getElem? (i := 23) rfl)
theorem aw_14_0 : Cond.selects RX5 yX5_records yX5_records ∈ zAll := zin_r14 _ (List.mem_of_getElem? (i := 0) rfl)
theorem aw_14_1 : Cond.code yX5_records cX5_records 1 (some .int) ∈ zAll := zin_r14 _ (List.mem_of_getElem? (i := 1) rfl)
theorem aw_14_2 : Cond.methodLink RL 156 yL_key ∈ zAll := zin_r14 _ (List.mem_of_getElem? (i := 2) rfl)
theorem aw_14_3 : Cond.static yL_key ∈ zAll := zin_r14 _ (List.mem_of_getElem? (i := 3) rfl)
theorem aw_14_4 : Cond.codeWith yL_key cL_key 5 (some .int) [(0, 10, 13, 21)] ∈ zAll := zin_r14 _ (List.mem_of_getElem? (i := 4) rfl)
theorem aw_14_5 : Cond.methodLink RL 48 yX4_key ∈ zAll := zin_r14 _ (List.mem_of_getElem? (i := 5) rfl)
theorem aw_14_6 : Cond.instanceMethod yX4_key ∈ zAll := zin_r14 _ (List.mem_of_getElem? (i := 6) rfl)
theorem aw_14_7 : Cond.selects RX4 yX4_key yX4_key ∈ zAll := zin_r14 _ (List.mem_of_getElem? (i := 7) rfl)
theorem aw_14_8 : Cond.code yX4_key cX4_key 3 (some .int) ∈ zAll := zin_r14 _ (List.mem_of_getElem? (i := 8) rfl)
theorem aw_14_9 : Cond.methodLink RL 158 yX5_key ∈ zAll := zin_r14 _ (List.mem_of_getElem? (i := 9) rfl)
theorem aw_14_10 : Cond.instanceMethod yX5_key ∈ zAll := zin_r14 _ (List.mem_of_getElem? (i := 10) rfl)
theorem aw_14_11 : Cond.selects RX5 yX5_key yX5_key ∈ zAll := zin_r14 _ (List.mem_of_getElem? (i := 11) rfl)
theorem aw_14_12 : Cond.code yX5_key cX5_key 3 (some .int) ∈ zAll := zin_r14 _ (List.mem_of_getElem? (i := 12) rfl)
theorem aw_14_13 : Cond.methodLink RL 159 yL_seen ∈ zAll := zin_r14 _ (List.mem_of_getElem? (i := 13) rfl)
theorem aw_14_14 : Cond.static yL_seen ∈ zAll := zin_r14 _ (List.mem_of_getElem? (i := 14) rfl)
theorem aw_14_15 : Cond.codeWith yL_seen cL_seen 4 (some .int) [(0, 9, 12, 21)] ∈ zAll := zin_r14 _ (List.mem_of_getElem? (i := 15) rfl)
theorem aw_14_16 : Cond.methodLink RL 51 yX4_seen ∈ zAll := zin_r14 _ (List.mem_of_getElem? (i := 16) rfl)
theorem aw_14_17 : Cond.instanceMethod yX4_seen ∈ zAll := zin_r14 _ (List.mem_of_getElem? (i := 17) rfl)
theorem aw_14_18 : Cond.selects RX4 yX4_seen yX4_seen ∈ zAll := zin_r14 _ (List.mem_of_getElem? (i := 18) rfl)
theorem aw_14_19 : Cond.code yX4_seen cX4_seen 2 (some .int) ∈ zAll := zin_r14 _ (List.mem_of_getElem? (i := 19) rfl)
theorem aw_14_20 : Cond.methodLink RL 161 yX5_seen ∈ zAll := zin_r14 _ (List.mem_of_getElem? (i := 20) rfl)
theorem aw_14_21 : Cond.instanceMethod yX5_seen ∈ zAll := zin_r14 _ (List.mem_of_getElem? (i := 21) rfl)
theorem aw_14_22 : Cond.selects RX5 yX5_seen yX5_seen ∈ zAll := zin_r14 _ (List.mem_of_getElem? (i := 22) rfl)
theorem aw_14_23 : Cond.code yX5_seen cX5_seen 2 (some .int) ∈ zAll := zin_r14 _ (List.mem_of_getElem? (i := 23) rfl)
theorem aw_15_0 : Cond.methodLink RL 162 yL_thing ∈ zAll := zin_r15 _ (List.mem_of_getElem? (i := 0) rfl)
theorem aw_15_1 : Cond.static yL_thing ∈ zAll := zin_r15 _ (List.mem_of_getElem? (i := 1) rfl)
theorem aw_15_2 : Cond.codeWith yL_thing cL_thing 4 (some .int) [(0, 9, 12, 21)] ∈ zAll := zin_r15 _ (List.mem_of_getElem? (i := 2) rfl)
theorem aw_15_3 : Cond.methodLink RL 54 yX4_thing ∈ zAll := zin_r15 _ (List.mem_of_getElem? (i := 3) rfl)
theorem aw_15_4 : Cond.instanceMethod yX4_thing ∈ zAll := zin_r15 _ (List.mem_of_getElem? (i := 4) rfl)
theorem aw_15_5 : Cond.selects RX4 yX4_thing yX4_thing ∈ zAll := zin_r15 _ (List.mem_of_getElem? (i := 5) rfl)
theorem aw_15_6 : Cond.code yX4_thing cX4_thing 2 (some .int) ∈ zAll := zin_r15 _ (List.mem_of_getElem? (i := 6) rfl)
theorem aw_15_7 : Cond.methodLink RX4 128 yX4_findThing ∈ zAll := zin_r15 _ (List.mem_of_getElem? (i := 7) rfl)
theorem aw_15_8 : Cond.instanceMethod yX4_findThing ∈ zAll := zin_r15 _ (List.mem_of_getElem? (i := 8) rfl)
theorem aw_15_9 : Cond.selects RX4 yX4_findThing yX4_findThing ∈ zAll := zin_r15 _ (List.mem_of_getElem? (i := 9) rfl)
theorem aw_15_10 : Cond.code yX4_findThing cX4_findThing 2 (some .int) ∈ zAll := zin_r15 _ (List.mem_of_getElem? (i := 10) rfl)
theorem aw_15_11 : Cond.fieldLink RX4 152 "Assetmerge$Joining" "groups" "[[I" ∈ zAll := zin_r15 _ (List.mem_of_getElem? (i := 11) rfl)
theorem aw_15_12 : Cond.sameField "Assetmerge$Joining" "Assetmerge$Finder" "groups" "[[I" ∈ zAll := zin_r15 _ (List.mem_of_getElem? (i := 12) rfl)
theorem aw_15_13 : Cond.methodLink RX4 158 ⟨"Assetmerge$Joining", "findGroups", "(LAssetmerge$Inventory;)V"⟩ ∈ zAll := zin_r15 _ (List.mem_of_getElem? (i := 13) rfl)
theorem aw_15_14 : Cond.sameMethod "Assetmerge$Joining" "Assetmerge$Finder" "findGroups" "(LAssetmerge$Inventory;)V" ∈ zAll := zin_r15 _ (List.mem_of_getElem? (i := 14) rfl)
theorem aw_15_15 : Cond.selects RX2 ⟨"Assetmerge$Joining", "findGroups", "(LAssetmerge$Inventory;)V"⟩ yX0_findGroups ∈ zAll := zin_r15 _ (List.mem_of_getElem? (i := 15) rfl)
theorem aw_15_16 : Cond.instanceMethod yX0_findGroups ∈ zAll := zin_r15 _ (List.mem_of_getElem? (i := 16) rfl)
theorem aw_15_17 : Cond.code yX0_findGroups cX0_findGroups 4 none ∈ zAll := zin_r15 _ (List.mem_of_getElem? (i := 17) rfl)
theorem aw_15_18 : Cond.fieldLink RX0 20 "Assetmerge$Inventory" "recordCount" "I" ∈ zAll := zin_r15 _ (List.mem_of_getElem? (i := 18) rfl)
theorem aw_15_19 : Cond.methodLink RX0 26 ⟨"Assetmerge$Finder", "groupBefore", "(II)I"⟩ ∈ zAll := zin_r15 _ (List.mem_of_getElem? (i := 19) rfl)
theorem aw_15_20 : Cond.sameMethod "Assetmerge$Finder" "Assetmerge$Finder" "groupBefore" "(II)I" ∈ zAll := zin_r15 _ (List.mem_of_getElem? (i := 20) rfl)
theorem aw_15_21 : Cond.selects RX2 ⟨"Assetmerge$Finder", "groupBefore", "(II)I"⟩ yX0_groupBefore ∈ zAll := zin_r15 _ (List.mem_of_getElem? (i := 21) rfl)
theorem aw_15_22 : Cond.instanceMethod yX0_groupBefore ∈ zAll := zin_r15 _ (List.mem_of_getElem? (i := 22) rfl)
theorem aw_15_23 : Cond.code yX0_groupBefore cX0_groupBefore 3 (some .int) ∈ zAll := zin_r15 _ (List.mem_of_getElem? (i := 23) rfl)
theorem aw_16_0 : Cond.selects RX3 ⟨"Assetmerge$Finder", "groupBefore", "(II)I"⟩ yX0_groupBefore ∈ zAll := zin_r16 _ (List.mem_of_getElem? (i := 0) rfl)
theorem aw_16_1 : Cond.methodLink RX0 30 ⟨"Assetmerge$Finder", "findClusters", "(LAssetmerge$Inventory;I)V"⟩ ∈ zAll := zin_r16 _ (List.mem_of_getElem? (i := 1) rfl)
theorem aw_16_2 : Cond.sameMethod "Assetmerge$Finder" "Assetmerge$Finder" "findClusters" "(LAssetmerge$Inventory;I)V" ∈ zAll := zin_r16 _ (List.mem_of_getElem? (i := 2) rfl)
theorem aw_16_3 : Cond.selects RX2 ⟨"Assetmerge$Finder", "findClusters", "(LAssetmerge$Inventory;I)V"⟩ yX2_findClusters ∈ zAll := zin_r16 _ (List.mem_of_getElem? (i := 3) rfl)
theorem aw_16_4 : Cond.instanceMethod yX2_findClusters ∈ zAll := zin_r16 _ (List.mem_of_getElem? (i := 4) rfl)
theorem aw_16_5 : Cond.code yX2_findClusters cX2_findClusters 5 none ∈ zAll := zin_r16 _ (List.mem_of_getElem? (i := 5) rfl)
theorem aw_16_6 : Cond.fieldLink RX2 7 "Assetmerge$Inventory" "recordCount" "I" ∈ zAll := zin_r16 _ (List.mem_of_getElem? (i := 6) rfl)
theorem aw_16_7 : Cond.fieldLink RX2 17 "Assetmerge$Joining" "clusters" "[I" ∈ zAll := zin_r16 _ (List.mem_of_getElem? (i := 7) rfl)
theorem aw_16_8 : Cond.sameField "Assetmerge$Joining" "Assetmerge$Finder" "clusters" "[I" ∈ zAll := zin_r16 _ (List.mem_of_getElem? (i := 8) rfl)
theorem aw_16_9 : Cond.methodLink RX2 13 yX1_haveSameKey ∈ zAll := zin_r16 _ (List.mem_of_getElem? (i := 9) rfl)
theorem aw_16_10 : Cond.instanceMethod yX1_haveSameKey ∈ zAll := zin_r16 _ (List.mem_of_getElem? (i := 10) rfl)
theorem aw_16_11 : Cond.selects RX1 yX1_haveSameKey yX1_haveSameKey ∈ zAll := zin_r16 _ (List.mem_of_getElem? (i := 11) rfl)
theorem aw_16_12 : Cond.code yX1_haveSameKey cX1_haveSameKey 4 (some .boolean) ∈ zAll := zin_r16 _ (List.mem_of_getElem? (i := 12) rfl)
theorem aw_16_13 : Cond.methodLink RX2 23 yX2_joinTwo ∈ zAll := zin_r16 _ (List.mem_of_getElem? (i := 13) rfl)
theorem aw_16_14 : Cond.instanceMethod yX2_joinTwo ∈ zAll := zin_r16 _ (List.mem_of_getElem? (i := 14) rfl)
theorem aw_16_15 : Cond.selects RX2 yX2_joinTwo yX2_joinTwo ∈ zAll := zin_r16 _ (List.mem_of_getElem? (i := 15) rfl)
theorem aw_16_16 : Cond.code yX2_joinTwo cX2_joinTwo 7 none ∈ zAll := zin_r16 _ (List.mem_of_getElem? (i := 16) rfl)
theorem aw_16_17 : Cond.methodLink RX2 27 Lib.Math.min.name ∈ zAll := zin_r16 _ (List.mem_of_getElem? (i := 17) rfl)
theorem aw_16_18 : Cond.static Lib.Math.min.name ∈ zAll := zin_r16 _ (List.mem_of_getElem? (i := 18) rfl)
theorem aw_16_19 : Cond.initialized "java/lang/Math" ∈ zAll := zin_r16 _ (List.mem_of_getElem? (i := 19) rfl)
theorem aw_16_20 : Cond.code Lib.Math.min.name Lib.Math.min.code 2 (some .int) ∈ zAll := zin_r16 _ (List.mem_of_getElem? (i := 20) rfl)
theorem aw_16_21 : Cond.methodLink RX2 33 Lib.Math.max.name ∈ zAll := zin_r16 _ (List.mem_of_getElem? (i := 21) rfl)
theorem aw_16_22 : Cond.static Lib.Math.max.name ∈ zAll := zin_r16 _ (List.mem_of_getElem? (i := 22) rfl)
theorem aw_16_23 : Cond.code Lib.Math.max.name Lib.Math.max.code 2 (some .int) ∈ zAll := zin_r16 _ (List.mem_of_getElem? (i := 23) rfl)
theorem aw_17_0 : Cond.selects RX3 ⟨"Assetmerge$Finder", "findClusters", "(LAssetmerge$Inventory;I)V"⟩ yX3_findClusters ∈ zAll := zin_r17 _ (List.mem_of_getElem? (i := 0) rfl)
theorem aw_17_1 : Cond.instanceMethod yX3_findClusters ∈ zAll := zin_r17 _ (List.mem_of_getElem? (i := 1) rfl)
theorem aw_17_2 : Cond.code yX3_findClusters cX3_findClusters 5 none ∈ zAll := zin_r17 _ (List.mem_of_getElem? (i := 2) rfl)
theorem aw_17_3 : Cond.methodLink RX3 9 yX3_spreadOnce ∈ zAll := zin_r17 _ (List.mem_of_getElem? (i := 3) rfl)
theorem aw_17_4 : Cond.instanceMethod yX3_spreadOnce ∈ zAll := zin_r17 _ (List.mem_of_getElem? (i := 4) rfl)
theorem aw_17_5 : Cond.selects RX3 yX3_spreadOnce yX3_spreadOnce ∈ zAll := zin_r17 _ (List.mem_of_getElem? (i := 5) rfl)
theorem aw_17_6 : Cond.code yX3_spreadOnce cX3_spreadOnce 6 (some .boolean) ∈ zAll := zin_r17 _ (List.mem_of_getElem? (i := 6) rfl)
theorem aw_17_7 : Cond.fieldLink RX3 15 "Assetmerge$Inventory" "recordCount" "I" ∈ zAll := zin_r17 _ (List.mem_of_getElem? (i := 7) rfl)
theorem aw_17_8 : Cond.fieldLink RX3 21 "Assetmerge$Spreading" "clusters" "[I" ∈ zAll := zin_r17 _ (List.mem_of_getElem? (i := 8) rfl)
theorem aw_17_9 : Cond.sameField "Assetmerge$Spreading" "Assetmerge$Finder" "clusters" "[I" ∈ zAll := zin_r17 _ (List.mem_of_getElem? (i := 9) rfl)
theorem aw_17_10 : Cond.methodLink RX3 25 yX3_areLinked ∈ zAll := zin_r17 _ (List.mem_of_getElem? (i := 10) rfl)
theorem aw_17_11 : Cond.instanceMethod yX3_areLinked ∈ zAll := zin_r17 _ (List.mem_of_getElem? (i := 11) rfl)
theorem aw_17_12 : Cond.selects RX3 yX3_areLinked yX3_areLinked ∈ zAll := zin_r17 _ (List.mem_of_getElem? (i := 12) rfl)
theorem aw_17_13 : Cond.code yX3_areLinked cX3_areLinked 5 (some .boolean) ∈ zAll := zin_r17 _ (List.mem_of_getElem? (i := 13) rfl)
theorem aw_17_14 : Cond.methodLink RX3 29 ⟨"Assetmerge$Spreading", "groupBefore", "(II)I"⟩ ∈ zAll := zin_r17 _ (List.mem_of_getElem? (i := 14) rfl)
theorem aw_17_15 : Cond.sameMethod "Assetmerge$Spreading" "Assetmerge$Finder" "groupBefore" "(II)I" ∈ zAll := zin_r17 _ (List.mem_of_getElem? (i := 15) rfl)
theorem aw_17_16 : Cond.selects RX3 ⟨"Assetmerge$Spreading", "groupBefore", "(II)I"⟩ yX0_groupBefore ∈ zAll := zin_r17 _ (List.mem_of_getElem? (i := 16) rfl)
theorem aw_17_17 : Cond.methodLink RX3 33 yX1_haveSameKey ∈ zAll := zin_r17 _ (List.mem_of_getElem? (i := 17) rfl)
theorem aw_17_18 : Cond.methodLink RX0 34 ⟨"Assetmerge$Finder", "joinClusters", "(LAssetmerge$Inventory;I)V"⟩ ∈ zAll := zin_r17 _ (List.mem_of_getElem? (i := 18) rfl)
theorem aw_17_19 : Cond.sameMethod "Assetmerge$Finder" "Assetmerge$Finder" "joinClusters" "(LAssetmerge$Inventory;I)V" ∈ zAll := zin_r17 _ (List.mem_of_getElem? (i := 19) rfl)
theorem aw_17_20 : Cond.selects RX2 ⟨"Assetmerge$Finder", "joinClusters", "(LAssetmerge$Inventory;I)V"⟩ yX0_joinClusters ∈ zAll := zin_r17 _ (List.mem_of_getElem? (i := 20) rfl)
theorem aw_17_21 : Cond.instanceMethod yX0_joinClusters ∈ zAll := zin_r17 _ (List.mem_of_getElem? (i := 21) rfl)
theorem aw_17_22 : Cond.code yX0_joinClusters cX0_joinClusters 5 none ∈ zAll := zin_r17 _ (List.mem_of_getElem? (i := 22) rfl)
theorem aw_17_23 : Cond.methodLink RX0 37 ⟨"Assetmerge$Finder", "membersOf", "(ILAssetmerge$Inventory;)I"⟩ ∈ zAll := zin_r17 _ (List.mem_of_getElem? (i := 23) rfl)
theorem aw_18_0 : Cond.sameMethod "Assetmerge$Finder" "Assetmerge$Finder" "membersOf" "(ILAssetmerge$Inventory;)I" ∈ zAll := zin_r18 _ (List.mem_of_getElem? (i := 0) rfl)
theorem aw_18_1 : Cond.selects RX2 ⟨"Assetmerge$Finder", "membersOf", "(ILAssetmerge$Inventory;)I"⟩ yX0_membersOf ∈ zAll := zin_r18 _ (List.mem_of_getElem? (i := 1) rfl)
theorem aw_18_2 : Cond.instanceMethod yX0_membersOf ∈ zAll := zin_r18 _ (List.mem_of_getElem? (i := 2) rfl)
theorem aw_18_3 : Cond.code yX0_membersOf cX0_membersOf 5 (some .int) ∈ zAll := zin_r18 _ (List.mem_of_getElem? (i := 3) rfl)
theorem aw_18_4 : Cond.methodLink RX0 45 yX1_holds ∈ zAll := zin_r18 _ (List.mem_of_getElem? (i := 4) rfl)
theorem aw_18_5 : Cond.selects RX3 ⟨"Assetmerge$Finder", "membersOf", "(ILAssetmerge$Inventory;)I"⟩ yX0_membersOf ∈ zAll := zin_r18 _ (List.mem_of_getElem? (i := 5) rfl)
theorem aw_18_6 : Cond.methodLink RX0 41 yX1_mayJoin ∈ zAll := zin_r18 _ (List.mem_of_getElem? (i := 6) rfl)
theorem aw_18_7 : Cond.instanceMethod yX1_mayJoin ∈ zAll := zin_r18 _ (List.mem_of_getElem? (i := 7) rfl)
theorem aw_18_8 : Cond.selects RX1 yX1_mayJoin yX1_mayJoin ∈ zAll := zin_r18 _ (List.mem_of_getElem? (i := 8) rfl)
theorem aw_18_9 : Cond.code yX1_mayJoin cX1_mayJoin 4 (some .boolean) ∈ zAll := zin_r18 _ (List.mem_of_getElem? (i := 9) rfl)
theorem aw_18_10 : Cond.methodLink RX1 64 yX1_haveTwoKeys ∈ zAll := zin_r18 _ (List.mem_of_getElem? (i := 10) rfl)
theorem aw_18_11 : Cond.instanceMethod yX1_haveTwoKeys ∈ zAll := zin_r18 _ (List.mem_of_getElem? (i := 11) rfl)
theorem aw_18_12 : Cond.selects RX1 yX1_haveTwoKeys yX1_haveTwoKeys ∈ zAll := zin_r18 _ (List.mem_of_getElem? (i := 12) rfl)
theorem aw_18_13 : Cond.code yX1_haveTwoKeys cX1_haveTwoKeys 6 (some .boolean) ∈ zAll := zin_r18 _ (List.mem_of_getElem? (i := 13) rfl)
theorem aw_18_14 : Cond.methodLink RX1 67 yX1_haveForbiddenPair ∈ zAll := zin_r18 _ (List.mem_of_getElem? (i := 14) rfl)
theorem aw_18_15 : Cond.instanceMethod yX1_haveForbiddenPair ∈ zAll := zin_r18 _ (List.mem_of_getElem? (i := 15) rfl)
theorem aw_18_16 : Cond.selects RX1 yX1_haveForbiddenPair yX1_haveForbiddenPair ∈ zAll := zin_r18 _ (List.mem_of_getElem? (i := 16) rfl)
theorem aw_18_17 : Cond.code yX1_haveForbiddenPair cX1_haveForbiddenPair 3 (some .boolean) ∈ zAll := zin_r18 _ (List.mem_of_getElem? (i := 17) rfl)
theorem aw_18_18 : Cond.selects RX3 ⟨"Assetmerge$Finder", "joinClusters", "(LAssetmerge$Inventory;I)V"⟩ yX0_joinClusters ∈ zAll := zin_r18 _ (List.mem_of_getElem? (i := 18) rfl)
theorem aw_18_19 : Cond.methodLink RL 164 yX5_thing ∈ zAll := zin_r18 _ (List.mem_of_getElem? (i := 19) rfl)
theorem aw_18_20 : Cond.instanceMethod yX5_thing ∈ zAll := zin_r18 _ (List.mem_of_getElem? (i := 20) rfl)
theorem aw_18_21 : Cond.selects RX5 yX5_thing yX5_thing ∈ zAll := zin_r18 _ (List.mem_of_getElem? (i := 21) rfl)
theorem aw_18_22 : Cond.code yX5_thing cX5_thing 2 (some .int) ∈ zAll := zin_r18 _ (List.mem_of_getElem? (i := 22) rfl)
theorem aw_18_23 : Cond.methodLink RX5 113 yX5_finds ∈ zAll := zin_r18 _ (List.mem_of_getElem? (i := 23) rfl)
theorem aw_19_0 : Cond.instanceMethod yX5_finds ∈ zAll := zin_r19 _ (List.mem_of_getElem? (i := 0) rfl)
theorem aw_19_1 : Cond.selects RX5 yX5_finds yX5_finds ∈ zAll := zin_r19 _ (List.mem_of_getElem? (i := 1) rfl)
theorem aw_19_2 : Cond.code yX5_finds cX5_finds 3 none ∈ zAll := zin_r19 _ (List.mem_of_getElem? (i := 2) rfl)
theorem aw_19_3 : Cond.methodLink RX5 110 yX5_joins ∈ zAll := zin_r19 _ (List.mem_of_getElem? (i := 3) rfl)
theorem aw_19_4 : Cond.instanceMethod yX5_joins ∈ zAll := zin_r19 _ (List.mem_of_getElem? (i := 4) rfl)
theorem aw_19_5 : Cond.selects RX5 yX5_joins yX5_joins ∈ zAll := zin_r19 _ (List.mem_of_getElem? (i := 5) rfl)
theorem aw_19_6 : Cond.code yX5_joins cX5_joins 4 none ∈ zAll := zin_r19 _ (List.mem_of_getElem? (i := 6) rfl)
theorem aw_19_7 : Cond.methodLink RX5 103 yX5_clusters ∈ zAll := zin_r19 _ (List.mem_of_getElem? (i := 7) rfl)
theorem aw_19_8 : Cond.instanceMethod yX5_clusters ∈ zAll := zin_r19 _ (List.mem_of_getElem? (i := 8) rfl)
theorem aw_19_9 : Cond.selects RX5 yX5_clusters yX5_clusters ∈ zAll := zin_r19 _ (List.mem_of_getElem? (i := 9) rfl)
theorem aw_19_10 : Cond.code yX5_clusters cX5_clusters 5 none ∈ zAll := zin_r19 _ (List.mem_of_getElem? (i := 10) rfl)
theorem aw_19_11 : Cond.methodLink RX5 97 yX5_counts ∈ zAll := zin_r19 _ (List.mem_of_getElem? (i := 11) rfl)
theorem aw_19_12 : Cond.instanceMethod yX5_counts ∈ zAll := zin_r19 _ (List.mem_of_getElem? (i := 12) rfl)
theorem aw_19_13 : Cond.selects RX5 yX5_counts yX5_counts ∈ zAll := zin_r19 _ (List.mem_of_getElem? (i := 13) rfl)
theorem aw_19_14 : Cond.code yX5_counts cX5_counts 2 (some .boolean) ∈ zAll := zin_r19 _ (List.mem_of_getElem? (i := 14) rfl)
theorem aw_19_15 : Cond.methodLink RX5 100 yX5_areLinked ∈ zAll := zin_r19 _ (List.mem_of_getElem? (i := 15) rfl)
theorem aw_19_16 : Cond.instanceMethod yX5_areLinked ∈ zAll := zin_r19 _ (List.mem_of_getElem? (i := 16) rfl)
theorem aw_19_17 : Cond.selects RX5 yX5_areLinked yX5_areLinked ∈ zAll := zin_r19 _ (List.mem_of_getElem? (i := 17) rfl)
theorem aw_19_18 : Cond.code yX5_areLinked cX5_areLinked 4 (some .boolean) ∈ zAll := zin_r19 _ (List.mem_of_getElem? (i := 18) rfl)
theorem aw_19_19 : Cond.methodLink RX5 106 yX5_mayJoin ∈ zAll := zin_r19 _ (List.mem_of_getElem? (i := 19) rfl)
theorem aw_19_20 : Cond.instanceMethod yX5_mayJoin ∈ zAll := zin_r19 _ (List.mem_of_getElem? (i := 20) rfl)
theorem aw_19_21 : Cond.selects RX5 yX5_mayJoin yX5_mayJoin ∈ zAll := zin_r19 _ (List.mem_of_getElem? (i := 21) rfl)
theorem aw_19_22 : Cond.code yX5_mayJoin cX5_mayJoin 6 (some .boolean) ∈ zAll := zin_r19 _ (List.mem_of_getElem? (i := 22) rfl)
theorem aw_19_23 : Cond.methodLink RL 165 yL_thingByRounds ∈ zAll := zin_r19 _ (List.mem_of_getElem? (i := 23) rfl)
theorem aw_20_0 : Cond.static yL_thingByRounds ∈ zAll := zin_r20 _ (List.mem_of_getElem? (i := 0) rfl)
theorem aw_20_1 : Cond.codeWith yL_thingByRounds cL_thingByRounds 4 (some .int) [(0, 9, 12, 21)] ∈ zAll := zin_r20 _ (List.mem_of_getElem? (i := 1) rfl)
theorem aw_20_2 : Cond.methodLink RL 57 yX4_thingByRounds ∈ zAll := zin_r20 _ (List.mem_of_getElem? (i := 2) rfl)
theorem aw_20_3 : Cond.instanceMethod yX4_thingByRounds ∈ zAll := zin_r20 _ (List.mem_of_getElem? (i := 3) rfl)
theorem aw_20_4 : Cond.selects RX4 yX4_thingByRounds yX4_thingByRounds ∈ zAll := zin_r20 _ (List.mem_of_getElem? (i := 4) rfl)
theorem aw_20_5 : Cond.code yX4_thingByRounds cX4_thingByRounds 2 (some .int) ∈ zAll := zin_r20 _ (List.mem_of_getElem? (i := 5) rfl)
theorem aw_20_6 : Cond.fieldLink RX4 135 "Assetmerge$Spreading" "groups" "[[I" ∈ zAll := zin_r20 _ (List.mem_of_getElem? (i := 6) rfl)
theorem aw_20_7 : Cond.sameField "Assetmerge$Spreading" "Assetmerge$Finder" "groups" "[[I" ∈ zAll := zin_r20 _ (List.mem_of_getElem? (i := 7) rfl)
theorem aw_20_8 : Cond.methodLink RX4 131 ⟨"Assetmerge$Spreading", "findGroups", "(LAssetmerge$Inventory;)V"⟩ ∈ zAll := zin_r20 _ (List.mem_of_getElem? (i := 8) rfl)
theorem aw_20_9 : Cond.sameMethod "Assetmerge$Spreading" "Assetmerge$Finder" "findGroups" "(LAssetmerge$Inventory;)V" ∈ zAll := zin_r20 _ (List.mem_of_getElem? (i := 9) rfl)
theorem aw_20_10 : Cond.selects RX3 ⟨"Assetmerge$Spreading", "findGroups", "(LAssetmerge$Inventory;)V"⟩ yX0_findGroups ∈ zAll := zin_r20 _ (List.mem_of_getElem? (i := 10) rfl)
theorem aw_20_11 : Cond.methodLink RL 167 yX5_thingByRounds ∈ zAll := zin_r20 _ (List.mem_of_getElem? (i := 11) rfl)
theorem aw_20_12 : Cond.instanceMethod yX5_thingByRounds ∈ zAll := zin_r20 _ (List.mem_of_getElem? (i := 12) rfl)
theorem aw_20_13 : Cond.selects RX5 yX5_thingByRounds yX5_thingByRounds ∈ zAll := zin_r20 _ (List.mem_of_getElem? (i := 13) rfl)
theorem aw_20_14 : Cond.code yX5_thingByRounds cX5_thingByRounds 2 (some .int) ∈ zAll := zin_r20 _ (List.mem_of_getElem? (i := 14) rfl)
theorem aw_20_15 : Cond.methodLink RX5 116 yX5_thing ∈ zAll := zin_r20 _ (List.mem_of_getElem? (i := 15) rfl)
theorem aw_20_16 : Cond.methodLink RL 168 yX4_things ∈ zAll := zin_r20 _ (List.mem_of_getElem? (i := 16) rfl)
theorem aw_20_17 : Cond.instanceMethod yX4_things ∈ zAll := zin_r20 _ (List.mem_of_getElem? (i := 17) rfl)
theorem aw_20_18 : Cond.selects RX4 yX4_things yX4_things ∈ zAll := zin_r20 _ (List.mem_of_getElem? (i := 18) rfl)
theorem aw_20_19 : Cond.code yX4_things cX4_things 1 (some .int) ∈ zAll := zin_r20 _ (List.mem_of_getElem? (i := 19) rfl)
theorem aw_20_20 : Cond.methodLink RX4 138 yX4_countThings ∈ zAll := zin_r20 _ (List.mem_of_getElem? (i := 20) rfl)
theorem aw_20_21 : Cond.instanceMethod yX4_countThings ∈ zAll := zin_r20 _ (List.mem_of_getElem? (i := 21) rfl)
theorem aw_20_22 : Cond.selects RX4 yX4_countThings yX4_countThings ∈ zAll := zin_r20 _ (List.mem_of_getElem? (i := 22) rfl)
theorem aw_20_23 : Cond.code yX4_countThings cX4_countThings 3 (some .int) ∈ zAll := zin_r20 _ (List.mem_of_getElem? (i := 23) rfl)
theorem aw_21_0 : Cond.methodLink RX4 187 yX4_isThing ∈ zAll := zin_r21 _ (List.mem_of_getElem? (i := 0) rfl)
theorem aw_21_1 : Cond.instanceMethod yX4_isThing ∈ zAll := zin_r21 _ (List.mem_of_getElem? (i := 1) rfl)
theorem aw_21_2 : Cond.selects RX4 yX4_isThing yX4_isThing ∈ zAll := zin_r21 _ (List.mem_of_getElem? (i := 2) rfl)
theorem aw_21_3 : Cond.code yX4_isThing cX4_isThing 2 (some .boolean) ∈ zAll := zin_r21 _ (List.mem_of_getElem? (i := 3) rfl)
theorem aw_21_4 : Cond.methodLink RX4 230 yX4_isMember ∈ zAll := zin_r21 _ (List.mem_of_getElem? (i := 4) rfl)
theorem aw_21_5 : Cond.instanceMethod yX4_isMember ∈ zAll := zin_r21 _ (List.mem_of_getElem? (i := 5) rfl)
theorem aw_21_6 : Cond.selects RX4 yX4_isMember yX4_isMember ∈ zAll := zin_r21 _ (List.mem_of_getElem? (i := 6) rfl)
theorem aw_21_7 : Cond.code yX4_isMember cX4_isMember 3 (some .boolean) ∈ zAll := zin_r21 _ (List.mem_of_getElem? (i := 7) rfl)
theorem aw_21_8 : Cond.methodLink RL 171 yX5_things ∈ zAll := zin_r21 _ (List.mem_of_getElem? (i := 8) rfl)
theorem aw_21_9 : Cond.instanceMethod yX5_things ∈ zAll := zin_r21 _ (List.mem_of_getElem? (i := 9) rfl)
theorem aw_21_10 : Cond.selects RX5 yX5_things yX5_things ∈ zAll := zin_r21 _ (List.mem_of_getElem? (i := 10) rfl)
theorem aw_21_11 : Cond.code yX5_things cX5_things 1 (some .int) ∈ zAll := zin_r21 _ (List.mem_of_getElem? (i := 11) rfl)
theorem aw_21_12 : Cond.methodLink RX5 119 yX5_thingMany ∈ zAll := zin_r21 _ (List.mem_of_getElem? (i := 12) rfl)
theorem aw_21_13 : Cond.instanceMethod yX5_thingMany ∈ zAll := zin_r21 _ (List.mem_of_getElem? (i := 13) rfl)
theorem aw_21_14 : Cond.selects RX5 yX5_thingMany yX5_thingMany ∈ zAll := zin_r21 _ (List.mem_of_getElem? (i := 14) rfl)
theorem aw_21_15 : Cond.code yX5_thingMany cX5_thingMany 3 (some .int) ∈ zAll := zin_r21 _ (List.mem_of_getElem? (i := 15) rfl)
theorem aw_21_16 : Cond.methodLink RL 172 yL_size ∈ zAll := zin_r21 _ (List.mem_of_getElem? (i := 16) rfl)
theorem aw_21_17 : Cond.static yL_size ∈ zAll := zin_r21 _ (List.mem_of_getElem? (i := 17) rfl)
theorem aw_21_18 : Cond.codeWith yL_size cL_size 4 (some .int) [(0, 9, 12, 21)] ∈ zAll := zin_r21 _ (List.mem_of_getElem? (i := 18) rfl)
theorem aw_21_19 : Cond.methodLink RL 60 yX4_size ∈ zAll := zin_r21 _ (List.mem_of_getElem? (i := 19) rfl)
theorem aw_21_20 : Cond.instanceMethod yX4_size ∈ zAll := zin_r21 _ (List.mem_of_getElem? (i := 20) rfl)
theorem aw_21_21 : Cond.selects RX4 yX4_size yX4_size ∈ zAll := zin_r21 _ (List.mem_of_getElem? (i := 21) rfl)
theorem aw_21_22 : Cond.code yX4_size cX4_size 2 (some .int) ∈ zAll := zin_r21 _ (List.mem_of_getElem? (i := 22) rfl)
theorem aw_21_23 : Cond.methodLink RX4 141 yX4_countMembers ∈ zAll := zin_r21 _ (List.mem_of_getElem? (i := 23) rfl)
theorem aw_22_0 : Cond.instanceMethod yX4_countMembers ∈ zAll := zin_r22 _ (List.mem_of_getElem? (i := 0) rfl)
theorem aw_22_1 : Cond.selects RX4 yX4_countMembers yX4_countMembers ∈ zAll := zin_r22 _ (List.mem_of_getElem? (i := 1) rfl)
theorem aw_22_2 : Cond.code yX4_countMembers cX4_countMembers 4 (some .int) ∈ zAll := zin_r22 _ (List.mem_of_getElem? (i := 2) rfl)
theorem aw_22_3 : Cond.methodLink RL 174 yX5_size ∈ zAll := zin_r22 _ (List.mem_of_getElem? (i := 3) rfl)
theorem aw_22_4 : Cond.instanceMethod yX5_size ∈ zAll := zin_r22 _ (List.mem_of_getElem? (i := 4) rfl)
theorem aw_22_5 : Cond.selects RX5 yX5_size yX5_size ∈ zAll := zin_r22 _ (List.mem_of_getElem? (i := 5) rfl)
theorem aw_22_6 : Cond.code yX5_size cX5_size 4 (some .int) ∈ zAll := zin_r22 _ (List.mem_of_getElem? (i := 6) rfl)
theorem aw_22_7 : Cond.methodLink RX5 122 yX5_isOf ∈ zAll := zin_r22 _ (List.mem_of_getElem? (i := 7) rfl)
theorem aw_22_8 : Cond.instanceMethod yX5_isOf ∈ zAll := zin_r22 _ (List.mem_of_getElem? (i := 8) rfl)
theorem aw_22_9 : Cond.selects RX5 yX5_isOf yX5_isOf ∈ zAll := zin_r22 _ (List.mem_of_getElem? (i := 9) rfl)
theorem aw_22_10 : Cond.code yX5_isOf cX5_isOf 3 (some .boolean) ∈ zAll := zin_r22 _ (List.mem_of_getElem? (i := 10) rfl)
theorem aw_22_11 : Cond.methodLink RL 175 yL_member ∈ zAll := zin_r22 _ (List.mem_of_getElem? (i := 11) rfl)
theorem aw_22_12 : Cond.static yL_member ∈ zAll := zin_r22 _ (List.mem_of_getElem? (i := 12) rfl)
theorem aw_22_13 : Cond.codeWith yL_member cL_member 5 (some .int) [(0, 10, 13, 21), (0, 10, 17, 46)] ∈ zAll := zin_r22 _ (List.mem_of_getElem? (i := 13) rfl)
theorem aw_22_14 : Cond.methodLink RL 63 yX4_member ∈ zAll := zin_r22 _ (List.mem_of_getElem? (i := 14) rfl)
theorem aw_22_15 : Cond.instanceMethod yX4_member ∈ zAll := zin_r22 _ (List.mem_of_getElem? (i := 15) rfl)
theorem aw_22_16 : Cond.selects RX4 yX4_member yX4_member ∈ zAll := zin_r22 _ (List.mem_of_getElem? (i := 16) rfl)
theorem aw_22_17 : Cond.code yX4_member cX4_member 4 (some .int) ∈ zAll := zin_r22 _ (List.mem_of_getElem? (i := 17) rfl)
theorem aw_22_18 : Cond.methodLink RX4 144 yX4_findMember ∈ zAll := zin_r22 _ (List.mem_of_getElem? (i := 18) rfl)
theorem aw_22_19 : Cond.instanceMethod yX4_findMember ∈ zAll := zin_r22 _ (List.mem_of_getElem? (i := 19) rfl)
theorem aw_22_20 : Cond.selects RX4 yX4_findMember yX4_findMember ∈ zAll := zin_r22 _ (List.mem_of_getElem? (i := 20) rfl)
theorem aw_22_21 : Cond.code yX4_findMember cX4_findMember 5 (some .int) ∈ zAll := zin_r22 _ (List.mem_of_getElem? (i := 21) rfl)
theorem aw_22_22 : Cond.methodLink RL 177 yX5_member ∈ zAll := zin_r22 _ (List.mem_of_getElem? (i := 22) rfl)
theorem aw_22_23 : Cond.instanceMethod yX5_member ∈ zAll := zin_r22 _ (List.mem_of_getElem? (i := 23) rfl)
theorem aw_23_0 : Cond.selects RX5 yX5_member yX5_member ∈ zAll := zin_r23 _ (List.mem_of_getElem? (i := 0) rfl)
theorem aw_23_1 : Cond.code yX5_member cX5_member 5 (some .int) ∈ zAll := zin_r23 _ (List.mem_of_getElem? (i := 1) rfl)
theorem aw_23_2 : Cond.methodLink RL 178 yL_areTogether ∈ zAll := zin_r23 _ (List.mem_of_getElem? (i := 2) rfl)
theorem aw_23_3 : Cond.static yL_areTogether ∈ zAll := zin_r23 _ (List.mem_of_getElem? (i := 3) rfl)
theorem aw_23_4 : Cond.codeWith yL_areTogether cL_areTogether 5 (some .int) [(0, 17, 20, 21)] ∈ zAll := zin_r23 _ (List.mem_of_getElem? (i := 4) rfl)
theorem aw_23_5 : Cond.methodLink RL 66 yX4_areTogether ∈ zAll := zin_r23 _ (List.mem_of_getElem? (i := 5) rfl)
theorem aw_23_6 : Cond.instanceMethod yX4_areTogether ∈ zAll := zin_r23 _ (List.mem_of_getElem? (i := 6) rfl)
theorem aw_23_7 : Cond.selects RX4 yX4_areTogether yX4_areTogether ∈ zAll := zin_r23 _ (List.mem_of_getElem? (i := 7) rfl)
theorem aw_23_8 : Cond.code yX4_areTogether cX4_areTogether 3 (some .boolean) ∈ zAll := zin_r23 _ (List.mem_of_getElem? (i := 8) rfl)
theorem aw_23_9 : Cond.methodLink RL 180 yX5_areTogether ∈ zAll := zin_r23 _ (List.mem_of_getElem? (i := 9) rfl)
theorem aw_23_10 : Cond.instanceMethod yX5_areTogether ∈ zAll := zin_r23 _ (List.mem_of_getElem? (i := 10) rfl)
theorem aw_23_11 : Cond.selects RX5 yX5_areTogether yX5_areTogether ∈ zAll := zin_r23 _ (List.mem_of_getElem? (i := 11) rfl)
theorem aw_23_12 : Cond.code yX5_areTogether cX5_areTogether 3 (some .boolean) ∈ zAll := zin_r23 _ (List.mem_of_getElem? (i := 12) rfl)
theorem aw_23_13 : Cond.methodLink RL 181 yL_step ∈ zAll := zin_r23 _ (List.mem_of_getElem? (i := 13) rfl)
theorem aw_23_14 : Cond.static yL_step ∈ zAll := zin_r23 _ (List.mem_of_getElem? (i := 14) rfl)
theorem aw_23_15 : Cond.codeWith yL_step cL_step 5 (some .int) [(0, 10, 13, 21), (0, 10, 17, 13), (0, 10, 21, 46)] ∈ zAll := zin_r23 _ (List.mem_of_getElem? (i := 15) rfl)
theorem aw_23_16 : Cond.methodLink RL 70 yX4_step ∈ zAll := zin_r23 _ (List.mem_of_getElem? (i := 16) rfl)
theorem aw_23_17 : Cond.instanceMethod yX4_step ∈ zAll := zin_r23 _ (List.mem_of_getElem? (i := 17) rfl)
theorem aw_23_18 : Cond.selects RX4 yX4_step yX4_step ∈ zAll := zin_r23 _ (List.mem_of_getElem? (i := 18) rfl)
theorem aw_23_19 : Cond.code yX4_step cX4_step 4 (some .int) ∈ zAll := zin_r23 _ (List.mem_of_getElem? (i := 19) rfl)
theorem aw_23_20 : Cond.methodLink RX4 153 yX4_findStep ∈ zAll := zin_r23 _ (List.mem_of_getElem? (i := 20) rfl)
theorem aw_23_21 : Cond.instanceMethod yX4_findStep ∈ zAll := zin_r23 _ (List.mem_of_getElem? (i := 21) rfl)
theorem aw_23_22 : Cond.selects RX4 yX4_findStep yX4_findStep ∈ zAll := zin_r23 _ (List.mem_of_getElem? (i := 22) rfl)
theorem aw_23_23 : Cond.code yX4_findStep cX4_findStep 4 (some .int) ∈ zAll := zin_r23 _ (List.mem_of_getElem? (i := 23) rfl)
theorem aw_24_0 : Cond.methodLink RL 183 yX5_step ∈ zAll := zin_r24 _ (List.mem_of_getElem? (i := 0) rfl)
theorem aw_24_1 : Cond.instanceMethod yX5_step ∈ zAll := zin_r24 _ (List.mem_of_getElem? (i := 1) rfl)
theorem aw_24_2 : Cond.selects RX5 yX5_step yX5_step ∈ zAll := zin_r24 _ (List.mem_of_getElem? (i := 2) rfl)
theorem aw_24_3 : Cond.code yX5_step cX5_step 4 (some .int) ∈ zAll := zin_r24 _ (List.mem_of_getElem? (i := 3) rfl)
theorem aw_24_4 : Cond.methodLink RL 184 yL_shared ∈ zAll := zin_r24 _ (List.mem_of_getElem? (i := 4) rfl)
theorem aw_24_5 : Cond.static yL_shared ∈ zAll := zin_r24 _ (List.mem_of_getElem? (i := 5) rfl)
theorem aw_24_6 : Cond.codeWith yL_shared cL_shared 4 (some .int) [(0, 9, 12, 21)] ∈ zAll := zin_r24 _ (List.mem_of_getElem? (i := 6) rfl)
theorem aw_24_7 : Cond.methodLink RL 73 yX4_shared ∈ zAll := zin_r24 _ (List.mem_of_getElem? (i := 7) rfl)
theorem aw_24_8 : Cond.instanceMethod yX4_shared ∈ zAll := zin_r24 _ (List.mem_of_getElem? (i := 8) rfl)
theorem aw_24_9 : Cond.selects RX4 yX4_shared yX4_shared ∈ zAll := zin_r24 _ (List.mem_of_getElem? (i := 9) rfl)
theorem aw_24_10 : Cond.code yX4_shared cX4_shared 4 (some .int) ∈ zAll := zin_r24 _ (List.mem_of_getElem? (i := 10) rfl)
theorem aw_24_11 : Cond.methodLink RX4 159 yX1_isFirstWithKey ∈ zAll := zin_r24 _ (List.mem_of_getElem? (i := 11) rfl)
theorem aw_24_12 : Cond.instanceMethod yX1_isFirstWithKey ∈ zAll := zin_r24 _ (List.mem_of_getElem? (i := 12) rfl)
theorem aw_24_13 : Cond.selects RX1 yX1_isFirstWithKey yX1_isFirstWithKey ∈ zAll := zin_r24 _ (List.mem_of_getElem? (i := 13) rfl)
theorem aw_24_14 : Cond.code yX1_isFirstWithKey cX1_isFirstWithKey 4 (some .boolean) ∈ zAll := zin_r24 _ (List.mem_of_getElem? (i := 14) rfl)
theorem aw_24_15 : Cond.methodLink RX1 60 yX1_haveSameKey ∈ zAll := zin_r24 _ (List.mem_of_getElem? (i := 15) rfl)
theorem aw_24_16 : Cond.methodLink RX4 162 yX4_isKeyElsewhere ∈ zAll := zin_r24 _ (List.mem_of_getElem? (i := 16) rfl)
theorem aw_24_17 : Cond.instanceMethod yX4_isKeyElsewhere ∈ zAll := zin_r24 _ (List.mem_of_getElem? (i := 17) rfl)
theorem aw_24_18 : Cond.selects RX4 yX4_isKeyElsewhere yX4_isKeyElsewhere ∈ zAll := zin_r24 _ (List.mem_of_getElem? (i := 18) rfl)
theorem aw_24_19 : Cond.code yX4_isKeyElsewhere cX4_isKeyElsewhere 5 (some .boolean) ∈ zAll := zin_r24 _ (List.mem_of_getElem? (i := 19) rfl)
theorem aw_24_20 : Cond.methodLink RX4 233 yX1_haveSameKey ∈ zAll := zin_r24 _ (List.mem_of_getElem? (i := 20) rfl)
theorem aw_24_21 : Cond.methodLink RL 186 yX5_shared ∈ zAll := zin_r24 _ (List.mem_of_getElem? (i := 21) rfl)
theorem aw_24_22 : Cond.instanceMethod yX5_shared ∈ zAll := zin_r24 _ (List.mem_of_getElem? (i := 22) rfl)
theorem aw_24_23 : Cond.selects RX5 yX5_shared yX5_shared ∈ zAll := zin_r24 _ (List.mem_of_getElem? (i := 23) rfl)
theorem aw_25_0 : Cond.code yX5_shared cX5_shared 4 (some .int) ∈ zAll := zin_r25 _ (List.mem_of_getElem? (i := 0) rfl)
theorem aw_25_1 : Cond.methodLink RX5 125 yX5_isShared ∈ zAll := zin_r25 _ (List.mem_of_getElem? (i := 1) rfl)
theorem aw_25_2 : Cond.instanceMethod yX5_isShared ∈ zAll := zin_r25 _ (List.mem_of_getElem? (i := 2) rfl)
theorem aw_25_3 : Cond.selects RX5 yX5_isShared yX5_isShared ∈ zAll := zin_r25 _ (List.mem_of_getElem? (i := 3) rfl)
theorem aw_25_4 : Cond.code yX5_isShared cX5_isShared 5 (some .boolean) ∈ zAll := zin_r25 _ (List.mem_of_getElem? (i := 4) rfl)
theorem aw_25_5 : Cond.methodLink RL 187 yL_thingsWithout ∈ zAll := zin_r25 _ (List.mem_of_getElem? (i := 5) rfl)
theorem aw_25_6 : Cond.static yL_thingsWithout ∈ zAll := zin_r25 _ (List.mem_of_getElem? (i := 6) rfl)
theorem aw_25_7 : Cond.codeWith yL_thingsWithout cL_thingsWithout 4 (some .int) [(0, 9, 12, 21)] ∈ zAll := zin_r25 _ (List.mem_of_getElem? (i := 7) rfl)
theorem aw_25_8 : Cond.methodLink RL 76 yX4_thingsWithout ∈ zAll := zin_r25 _ (List.mem_of_getElem? (i := 8) rfl)
theorem aw_25_9 : Cond.instanceMethod yX4_thingsWithout ∈ zAll := zin_r25 _ (List.mem_of_getElem? (i := 9) rfl)
theorem aw_25_10 : Cond.selects RX4 yX4_thingsWithout yX4_thingsWithout ∈ zAll := zin_r25 _ (List.mem_of_getElem? (i := 10) rfl)
theorem aw_25_11 : Cond.code yX4_thingsWithout cX4_thingsWithout 3 (some .int) ∈ zAll := zin_r25 _ (List.mem_of_getElem? (i := 11) rfl)
theorem aw_25_12 : Cond.methodLink RX4 165 yX1_unhide ∈ zAll := zin_r25 _ (List.mem_of_getElem? (i := 12) rfl)
theorem aw_25_13 : Cond.methodLink RL 189 yX5_thingsWithout ∈ zAll := zin_r25 _ (List.mem_of_getElem? (i := 13) rfl)
theorem aw_25_14 : Cond.instanceMethod yX5_thingsWithout ∈ zAll := zin_r25 _ (List.mem_of_getElem? (i := 14) rfl)
theorem aw_25_15 : Cond.selects RX5 yX5_thingsWithout yX5_thingsWithout ∈ zAll := zin_r25 _ (List.mem_of_getElem? (i := 15) rfl)
theorem aw_25_16 : Cond.code yX5_thingsWithout cX5_thingsWithout 3 (some .int) ∈ zAll := zin_r25 _ (List.mem_of_getElem? (i := 16) rfl)
theorem aw_25_17 : Cond.methodLink RL 190 yL_thingsIf ∈ zAll := zin_r25 _ (List.mem_of_getElem? (i := 17) rfl)
theorem aw_25_18 : Cond.static yL_thingsIf ∈ zAll := zin_r25 _ (List.mem_of_getElem? (i := 18) rfl)
theorem aw_25_19 : Cond.codeWith yL_thingsIf cL_thingsIf 6 (some .int) [(0, 12, 15, 21), (0, 12, 19, 13)] ∈ zAll := zin_r25 _ (List.mem_of_getElem? (i := 19) rfl)
theorem aw_25_20 : Cond.methodLink RL 79 yX4_thingsIf ∈ zAll := zin_r25 _ (List.mem_of_getElem? (i := 20) rfl)
theorem aw_25_21 : Cond.instanceMethod yX4_thingsIf ∈ zAll := zin_r25 _ (List.mem_of_getElem? (i := 21) rfl)
theorem aw_25_22 : Cond.selects RX4 yX4_thingsIf yX4_thingsIf ∈ zAll := zin_r25 _ (List.mem_of_getElem? (i := 22) rfl)
theorem aw_25_23 : Cond.code yX4_thingsIf cX4_thingsIf 6 (some .int) ∈ zAll := zin_r25 _ (List.mem_of_getElem? (i := 23) rfl)
theorem aw_26_0 : Cond.methodLink RL 192 yX5_thingsIf ∈ zAll := zin_r26 _ (List.mem_of_getElem? (i := 0) rfl)
theorem aw_26_1 : Cond.instanceMethod yX5_thingsIf ∈ zAll := zin_r26 _ (List.mem_of_getElem? (i := 1) rfl)
theorem aw_26_2 : Cond.selects RX5 yX5_thingsIf yX5_thingsIf ∈ zAll := zin_r26 _ (List.mem_of_getElem? (i := 2) rfl)
theorem aw_26_3 : Cond.code yX5_thingsIf cX5_thingsIf 6 (some .int) ∈ zAll := zin_r26 _ (List.mem_of_getElem? (i := 3) rfl)
theorem aw_26_4 : Cond.methodLink RX5 128 yX5_setKey ∈ zAll := zin_r26 _ (List.mem_of_getElem? (i := 4) rfl)
theorem aw_26_5 : Cond.methodLink RL 193 yL_thingsIfAllowed ∈ zAll := zin_r26 _ (List.mem_of_getElem? (i := 5) rfl)
theorem aw_26_6 : Cond.static yL_thingsIfAllowed ∈ zAll := zin_r26 _ (List.mem_of_getElem? (i := 6) rfl)
theorem aw_26_7 : Cond.codeWith yL_thingsIfAllowed cL_thingsIfAllowed 5 (some .int) [(0, 10, 13, 21), (0, 10, 17, 46)] ∈ zAll := zin_r26 _ (List.mem_of_getElem? (i := 7) rfl)
theorem aw_26_8 : Cond.methodLink RL 82 yX4_thingsIfAllowed ∈ zAll := zin_r26 _ (List.mem_of_getElem? (i := 8) rfl)
theorem aw_26_9 : Cond.instanceMethod yX4_thingsIfAllowed ∈ zAll := zin_r26 _ (List.mem_of_getElem? (i := 9) rfl)
theorem aw_26_10 : Cond.selects RX4 yX4_thingsIfAllowed yX4_thingsIfAllowed ∈ zAll := zin_r26 _ (List.mem_of_getElem? (i := 10) rfl)
theorem aw_26_11 : Cond.code yX4_thingsIfAllowed cX4_thingsIfAllowed 4 (some .int) ∈ zAll := zin_r26 _ (List.mem_of_getElem? (i := 11) rfl)
theorem aw_26_12 : Cond.methodLink RL 195 yX5_thingsIfAllowed ∈ zAll := zin_r26 _ (List.mem_of_getElem? (i := 12) rfl)
theorem aw_26_13 : Cond.instanceMethod yX5_thingsIfAllowed ∈ zAll := zin_r26 _ (List.mem_of_getElem? (i := 13) rfl)
theorem aw_26_14 : Cond.selects RX5 yX5_thingsIfAllowed yX5_thingsIfAllowed ∈ zAll := zin_r26 _ (List.mem_of_getElem? (i := 14) rfl)
theorem aw_26_15 : Cond.code yX5_thingsIfAllowed cX5_thingsIfAllowed 5 (some .int) ∈ zAll := zin_r26 _ (List.mem_of_getElem? (i := 15) rfl)
theorem aw_26_16 : Cond.methodLink RL 196 yL_weight ∈ zAll := zin_r26 _ (List.mem_of_getElem? (i := 16) rfl)
theorem aw_26_17 : Cond.static yL_weight ∈ zAll := zin_r26 _ (List.mem_of_getElem? (i := 17) rfl)
theorem aw_26_18 : Cond.codeWith yL_weight cL_weight 4 (some .int) [(0, 9, 12, 21)] ∈ zAll := zin_r26 _ (List.mem_of_getElem? (i := 18) rfl)
theorem aw_26_19 : Cond.methodLink RL 85 yX4_weight ∈ zAll := zin_r26 _ (List.mem_of_getElem? (i := 19) rfl)
theorem aw_26_20 : Cond.instanceMethod yX4_weight ∈ zAll := zin_r26 _ (List.mem_of_getElem? (i := 20) rfl)
theorem aw_26_21 : Cond.selects RX4 yX4_weight yX4_weight ∈ zAll := zin_r26 _ (List.mem_of_getElem? (i := 21) rfl)
theorem aw_26_22 : Cond.code yX4_weight cX4_weight 2 (some .int) ∈ zAll := zin_r26 _ (List.mem_of_getElem? (i := 22) rfl)
theorem aw_26_23 : Cond.methodLink RX4 168 yX1_weigh ∈ zAll := zin_r26 _ (List.mem_of_getElem? (i := 23) rfl)
theorem aw_27_0 : Cond.instanceMethod yX1_weigh ∈ zAll := zin_r27 _ (List.mem_of_getElem? (i := 0) rfl)
theorem aw_27_1 : Cond.selects RX1 yX1_weigh yX1_weigh ∈ zAll := zin_r27 _ (List.mem_of_getElem? (i := 1) rfl)
theorem aw_27_2 : Cond.code yX1_weigh cX1_weigh 3 (some .int) ∈ zAll := zin_r27 _ (List.mem_of_getElem? (i := 2) rfl)
theorem aw_27_3 : Cond.methodLink RL 198 yX5_weight ∈ zAll := zin_r27 _ (List.mem_of_getElem? (i := 3) rfl)
theorem aw_27_4 : Cond.instanceMethod yX5_weight ∈ zAll := zin_r27 _ (List.mem_of_getElem? (i := 4) rfl)
theorem aw_27_5 : Cond.selects RX5 yX5_weight yX5_weight ∈ zAll := zin_r27 _ (List.mem_of_getElem? (i := 5) rfl)
theorem aw_27_6 : Cond.code yX5_weight cX5_weight 2 (some .int) ∈ zAll := zin_r27 _ (List.mem_of_getElem? (i := 6) rfl)
theorem aw_27_7 : Cond.methodLink RX5 132 yX5_weightOf ∈ zAll := zin_r27 _ (List.mem_of_getElem? (i := 7) rfl)
theorem aw_27_8 : Cond.instanceMethod yX5_weightOf ∈ zAll := zin_r27 _ (List.mem_of_getElem? (i := 8) rfl)
theorem aw_27_9 : Cond.selects RX5 yX5_weightOf yX5_weightOf ∈ zAll := zin_r27 _ (List.mem_of_getElem? (i := 9) rfl)
theorem aw_27_10 : Cond.code yX5_weightOf cX5_weightOf 2 (some .int) ∈ zAll := zin_r27 _ (List.mem_of_getElem? (i := 10) rfl)
theorem aw_27_11 : Cond.methodLink RL 199 yL_fact ∈ zAll := zin_r27 _ (List.mem_of_getElem? (i := 11) rfl)
theorem aw_27_12 : Cond.static yL_fact ∈ zAll := zin_r27 _ (List.mem_of_getElem? (i := 12) rfl)
theorem aw_27_13 : Cond.codeWith yL_fact cL_fact 5 (some .int) [(0, 10, 13, 21), (0, 10, 17, 46)] ∈ zAll := zin_r27 _ (List.mem_of_getElem? (i := 13) rfl)
theorem aw_27_14 : Cond.methodLink RL 88 yX4_fact ∈ zAll := zin_r27 _ (List.mem_of_getElem? (i := 14) rfl)
theorem aw_27_15 : Cond.instanceMethod yX4_fact ∈ zAll := zin_r27 _ (List.mem_of_getElem? (i := 15) rfl)
theorem aw_27_16 : Cond.selects RX4 yX4_fact yX4_fact ∈ zAll := zin_r27 _ (List.mem_of_getElem? (i := 16) rfl)
theorem aw_27_17 : Cond.code yX4_fact cX4_fact 4 (some .int) ∈ zAll := zin_r27 _ (List.mem_of_getElem? (i := 17) rfl)
theorem aw_27_18 : Cond.methodLink RX4 171 yX4_findFirstByOrder ∈ zAll := zin_r27 _ (List.mem_of_getElem? (i := 18) rfl)
theorem aw_27_19 : Cond.instanceMethod yX4_findFirstByOrder ∈ zAll := zin_r27 _ (List.mem_of_getElem? (i := 19) rfl)
theorem aw_27_20 : Cond.selects RX4 yX4_findFirstByOrder yX4_findFirstByOrder ∈ zAll := zin_r27 _ (List.mem_of_getElem? (i := 20) rfl)
theorem aw_27_21 : Cond.code yX4_findFirstByOrder cX4_findFirstByOrder 5 (some .int) ∈ zAll := zin_r27 _ (List.mem_of_getElem? (i := 21) rfl)
theorem aw_27_22 : Cond.methodLink RX4 236 yX4_orderMembers ∈ zAll := zin_r27 _ (List.mem_of_getElem? (i := 22) rfl)
theorem aw_27_23 : Cond.instanceMethod yX4_orderMembers ∈ zAll := zin_r27 _ (List.mem_of_getElem? (i := 23) rfl)
theorem aw_28_0 : Cond.selects RX4 yX4_orderMembers yX4_orderMembers ∈ zAll := zin_r28 _ (List.mem_of_getElem? (i := 0) rfl)
theorem aw_28_1 : Cond.code yX4_orderMembers cX4_orderMembers 5 (some .int) ∈ zAll := zin_r28 _ (List.mem_of_getElem? (i := 1) rfl)
theorem aw_28_2 : Cond.methodLink RX4 239 yX1_isAhead ∈ zAll := zin_r28 _ (List.mem_of_getElem? (i := 2) rfl)
theorem aw_28_3 : Cond.instanceMethod yX1_isAhead ∈ zAll := zin_r28 _ (List.mem_of_getElem? (i := 3) rfl)
theorem aw_28_4 : Cond.selects RX1 yX1_isAhead yX1_isAhead ∈ zAll := zin_r28 _ (List.mem_of_getElem? (i := 4) rfl)
theorem aw_28_5 : Cond.code yX1_isAhead cX1_isAhead 6 (some .boolean) ∈ zAll := zin_r28 _ (List.mem_of_getElem? (i := 5) rfl)
theorem aw_28_6 : Cond.methodLink RX1 70 yX1_weigh ∈ zAll := zin_r28 _ (List.mem_of_getElem? (i := 6) rfl)
theorem aw_28_7 : Cond.methodLink RX4 174 yX4_checkFactRecord ∈ zAll := zin_r28 _ (List.mem_of_getElem? (i := 7) rfl)
theorem aw_28_8 : Cond.static yX4_checkFactRecord ∈ zAll := zin_r28 _ (List.mem_of_getElem? (i := 8) rfl)
theorem aw_28_9 : Cond.code yX4_checkFactRecord cX4_checkFactRecord 1 none ∈ zAll := zin_r28 _ (List.mem_of_getElem? (i := 9) rfl)
theorem aw_28_10 : Cond.methodLink RL 201 yX5_fact ∈ zAll := zin_r28 _ (List.mem_of_getElem? (i := 10) rfl)
theorem aw_28_11 : Cond.instanceMethod yX5_fact ∈ zAll := zin_r28 _ (List.mem_of_getElem? (i := 11) rfl)
theorem aw_28_12 : Cond.selects RX5 yX5_fact yX5_fact ∈ zAll := zin_r28 _ (List.mem_of_getElem? (i := 12) rfl)
theorem aw_28_13 : Cond.code yX5_fact cX5_fact 4 (some .int) ∈ zAll := zin_r28 _ (List.mem_of_getElem? (i := 13) rfl)
theorem aw_28_14 : Cond.methodLink RX5 138 yX5_teller ∈ zAll := zin_r28 _ (List.mem_of_getElem? (i := 14) rfl)
theorem aw_28_15 : Cond.instanceMethod yX5_teller ∈ zAll := zin_r28 _ (List.mem_of_getElem? (i := 15) rfl)
theorem aw_28_16 : Cond.selects RX5 yX5_teller yX5_teller ∈ zAll := zin_r28 _ (List.mem_of_getElem? (i := 16) rfl)
theorem aw_28_17 : Cond.code yX5_teller cX5_teller 5 (some .int) ∈ zAll := zin_r28 _ (List.mem_of_getElem? (i := 17) rfl)
theorem aw_28_18 : Cond.methodLink RX5 135 yX5_isAhead ∈ zAll := zin_r28 _ (List.mem_of_getElem? (i := 18) rfl)
theorem aw_28_19 : Cond.instanceMethod yX5_isAhead ∈ zAll := zin_r28 _ (List.mem_of_getElem? (i := 19) rfl)
theorem aw_28_20 : Cond.selects RX5 yX5_isAhead yX5_isAhead ∈ zAll := zin_r28 _ (List.mem_of_getElem? (i := 20) rfl)
theorem aw_28_21 : Cond.code yX5_isAhead cX5_isAhead 3 (some .boolean) ∈ zAll := zin_r28 _ (List.mem_of_getElem? (i := 21) rfl)
theorem aw_28_22 : Cond.methodLink RL 202 yL_factByPairs ∈ zAll := zin_r28 _ (List.mem_of_getElem? (i := 22) rfl)
theorem aw_28_23 : Cond.static yL_factByPairs ∈ zAll := zin_r28 _ (List.mem_of_getElem? (i := 23) rfl)
theorem aw_29_0 : Cond.codeWith yL_factByPairs cL_factByPairs 5 (some .int) [(0, 10, 13, 21), (0, 10, 17, 46)] ∈ zAll := zin_r29 _ (List.mem_of_getElem? (i := 0) rfl)
theorem aw_29_1 : Cond.methodLink RL 91 yX4_factByPairs ∈ zAll := zin_r29 _ (List.mem_of_getElem? (i := 1) rfl)
theorem aw_29_2 : Cond.instanceMethod yX4_factByPairs ∈ zAll := zin_r29 _ (List.mem_of_getElem? (i := 2) rfl)
theorem aw_29_3 : Cond.selects RX4 yX4_factByPairs yX4_factByPairs ∈ zAll := zin_r29 _ (List.mem_of_getElem? (i := 3) rfl)
theorem aw_29_4 : Cond.code yX4_factByPairs cX4_factByPairs 4 (some .int) ∈ zAll := zin_r29 _ (List.mem_of_getElem? (i := 4) rfl)
theorem aw_29_5 : Cond.methodLink RX4 177 yX4_findFirstByPairs ∈ zAll := zin_r29 _ (List.mem_of_getElem? (i := 5) rfl)
theorem aw_29_6 : Cond.instanceMethod yX4_findFirstByPairs ∈ zAll := zin_r29 _ (List.mem_of_getElem? (i := 6) rfl)
theorem aw_29_7 : Cond.selects RX4 yX4_findFirstByPairs yX4_findFirstByPairs ∈ zAll := zin_r29 _ (List.mem_of_getElem? (i := 7) rfl)
theorem aw_29_8 : Cond.code yX4_findFirstByPairs cX4_findFirstByPairs 4 (some .int) ∈ zAll := zin_r29 _ (List.mem_of_getElem? (i := 8) rfl)
theorem aw_29_9 : Cond.methodLink RX4 180 yX4_tellsFact ∈ zAll := zin_r29 _ (List.mem_of_getElem? (i := 9) rfl)
theorem aw_29_10 : Cond.instanceMethod yX4_tellsFact ∈ zAll := zin_r29 _ (List.mem_of_getElem? (i := 10) rfl)
theorem aw_29_11 : Cond.selects RX4 yX4_tellsFact yX4_tellsFact ∈ zAll := zin_r29 _ (List.mem_of_getElem? (i := 11) rfl)
theorem aw_29_12 : Cond.code yX4_tellsFact cX4_tellsFact 4 (some .boolean) ∈ zAll := zin_r29 _ (List.mem_of_getElem? (i := 12) rfl)
theorem aw_29_13 : Cond.methodLink RX4 242 yX4_isBeaten ∈ zAll := zin_r29 _ (List.mem_of_getElem? (i := 13) rfl)
theorem aw_29_14 : Cond.instanceMethod yX4_isBeaten ∈ zAll := zin_r29 _ (List.mem_of_getElem? (i := 14) rfl)
theorem aw_29_15 : Cond.selects RX4 yX4_isBeaten yX4_isBeaten ∈ zAll := zin_r29 _ (List.mem_of_getElem? (i := 15) rfl)
theorem aw_29_16 : Cond.code yX4_isBeaten cX4_isBeaten 5 (some .boolean) ∈ zAll := zin_r29 _ (List.mem_of_getElem? (i := 16) rfl)
theorem aw_29_17 : Cond.methodLink RL 204 yX5_factByPairs ∈ zAll := zin_r29 _ (List.mem_of_getElem? (i := 17) rfl)
theorem aw_29_18 : Cond.instanceMethod yX5_factByPairs ∈ zAll := zin_r29 _ (List.mem_of_getElem? (i := 18) rfl)
theorem aw_29_19 : Cond.selects RX5 yX5_factByPairs yX5_factByPairs ∈ zAll := zin_r29 _ (List.mem_of_getElem? (i := 19) rfl)
theorem aw_29_20 : Cond.code yX5_factByPairs cX5_factByPairs 3 (some .int) ∈ zAll := zin_r29 _ (List.mem_of_getElem? (i := 20) rfl)
theorem aw_29_21 : Cond.methodLink RX5 141 yX5_fact ∈ zAll := zin_r29 _ (List.mem_of_getElem? (i := 21) rfl)
theorem aw_29_22 : Cond.methodLink RL 205 yL_factFrom ∈ zAll := zin_r29 _ (List.mem_of_getElem? (i := 22) rfl)
theorem aw_29_23 : Cond.static yL_factFrom ∈ zAll := zin_r29 _ (List.mem_of_getElem? (i := 23) rfl)
theorem aw_30_0 : Cond.codeWith yL_factFrom cL_factFrom 5 (some .int) [(0, 10, 13, 21), (0, 10, 17, 46)] ∈ zAll := zin_r30 _ (List.mem_of_getElem? (i := 0) rfl)
theorem aw_30_1 : Cond.methodLink RL 94 yX4_factFrom ∈ zAll := zin_r30 _ (List.mem_of_getElem? (i := 1) rfl)
theorem aw_30_2 : Cond.instanceMethod yX4_factFrom ∈ zAll := zin_r30 _ (List.mem_of_getElem? (i := 2) rfl)
theorem aw_30_3 : Cond.selects RX4 yX4_factFrom yX4_factFrom ∈ zAll := zin_r30 _ (List.mem_of_getElem? (i := 3) rfl)
theorem aw_30_4 : Cond.code yX4_factFrom cX4_factFrom 4 (some .int) ∈ zAll := zin_r30 _ (List.mem_of_getElem? (i := 4) rfl)
theorem aw_30_5 : Cond.methodLink RL 207 yX5_factFrom ∈ zAll := zin_r30 _ (List.mem_of_getElem? (i := 5) rfl)
theorem aw_30_6 : Cond.instanceMethod yX5_factFrom ∈ zAll := zin_r30 _ (List.mem_of_getElem? (i := 6) rfl)
theorem aw_30_7 : Cond.selects RX5 yX5_factFrom yX5_factFrom ∈ zAll := zin_r30 _ (List.mem_of_getElem? (i := 7) rfl)
theorem aw_30_8 : Cond.code yX5_factFrom cX5_factFrom 4 (some .int) ∈ zAll := zin_r30 _ (List.mem_of_getElem? (i := 8) rfl)
theorem aw_30_9 : Cond.methodLink RL 208 yL_agreement ∈ zAll := zin_r30 _ (List.mem_of_getElem? (i := 9) rfl)
theorem aw_30_10 : Cond.static yL_agreement ∈ zAll := zin_r30 _ (List.mem_of_getElem? (i := 10) rfl)
theorem aw_30_11 : Cond.codeWith yL_agreement cL_agreement 5 (some .int) [(0, 10, 13, 21), (0, 10, 17, 46)] ∈ zAll := zin_r30 _ (List.mem_of_getElem? (i := 11) rfl)
theorem aw_30_12 : Cond.methodLink RL 97 yX4_agreement ∈ zAll := zin_r30 _ (List.mem_of_getElem? (i := 12) rfl)
theorem aw_30_13 : Cond.instanceMethod yX4_agreement ∈ zAll := zin_r30 _ (List.mem_of_getElem? (i := 13) rfl)
theorem aw_30_14 : Cond.selects RX4 yX4_agreement yX4_agreement ∈ zAll := zin_r30 _ (List.mem_of_getElem? (i := 14) rfl)
theorem aw_30_15 : Cond.code yX4_agreement cX4_agreement 8 (some .float) ∈ zAll := zin_r30 _ (List.mem_of_getElem? (i := 15) rfl)
theorem aw_30_16 : Cond.methodLink RL 211 yX5_agreement ∈ zAll := zin_r30 _ (List.mem_of_getElem? (i := 16) rfl)
theorem aw_30_17 : Cond.instanceMethod yX5_agreement ∈ zAll := zin_r30 _ (List.mem_of_getElem? (i := 17) rfl)
theorem aw_30_18 : Cond.selects RX5 yX5_agreement yX5_agreement ∈ zAll := zin_r30 _ (List.mem_of_getElem? (i := 18) rfl)
theorem aw_30_19 : Cond.code yX5_agreement cX5_agreement 8 (some .float) ∈ zAll := zin_r30 _ (List.mem_of_getElem? (i := 19) rfl)
theorem aw_30_20 : Cond.methodLink RL 212 yL_setLimit ∈ zAll := zin_r30 _ (List.mem_of_getElem? (i := 20) rfl)
theorem aw_30_21 : Cond.static yL_setLimit ∈ zAll := zin_r30 _ (List.mem_of_getElem? (i := 21) rfl)
theorem aw_30_22 : Cond.codeWith yL_setLimit cL_setLimit 4 (some .int) [(0, 9, 12, 13)] ∈ zAll := zin_r30 _ (List.mem_of_getElem? (i := 22) rfl)
theorem aw_30_23 : Cond.methodLink RL 101 yX4_setLimit ∈ zAll := zin_r30 _ (List.mem_of_getElem? (i := 23) rfl)
theorem aw_31_0 : Cond.instanceMethod yX4_setLimit ∈ zAll := zin_r31 _ (List.mem_of_getElem? (i := 0) rfl)
theorem aw_31_1 : Cond.selects RX4 yX4_setLimit yX4_setLimit ∈ zAll := zin_r31 _ (List.mem_of_getElem? (i := 1) rfl)
theorem aw_31_2 : Cond.code yX4_setLimit cX4_setLimit 3 (some .int) ∈ zAll := zin_r31 _ (List.mem_of_getElem? (i := 2) rfl)
theorem aw_31_3 : Cond.methodLink RL 214 yX5_setLimit ∈ zAll := zin_r31 _ (List.mem_of_getElem? (i := 3) rfl)
theorem aw_31_4 : Cond.instanceMethod yX5_setLimit ∈ zAll := zin_r31 _ (List.mem_of_getElem? (i := 4) rfl)
theorem aw_31_5 : Cond.selects RX5 yX5_setLimit yX5_setLimit ∈ zAll := zin_r31 _ (List.mem_of_getElem? (i := 5) rfl)
theorem aw_31_6 : Cond.code yX5_setLimit cX5_setLimit 3 (some .int) ∈ zAll := zin_r31 _ (List.mem_of_getElem? (i := 6) rfl)
theorem aw_31_7 : Cond.methodLink RL 215 yL_isGhost ∈ zAll := zin_r31 _ (List.mem_of_getElem? (i := 7) rfl)
theorem aw_31_8 : Cond.static yL_isGhost ∈ zAll := zin_r31 _ (List.mem_of_getElem? (i := 8) rfl)
theorem aw_31_9 : Cond.codeWith yL_isGhost cL_isGhost 4 (some .int) [(0, 16, 19, 21)] ∈ zAll := zin_r31 _ (List.mem_of_getElem? (i := 9) rfl)
theorem aw_31_10 : Cond.methodLink RL 104 yX4_isGhost ∈ zAll := zin_r31 _ (List.mem_of_getElem? (i := 10) rfl)
theorem aw_31_11 : Cond.instanceMethod yX4_isGhost ∈ zAll := zin_r31 _ (List.mem_of_getElem? (i := 11) rfl)
theorem aw_31_12 : Cond.selects RX4 yX4_isGhost yX4_isGhost ∈ zAll := zin_r31 _ (List.mem_of_getElem? (i := 12) rfl)
theorem aw_31_13 : Cond.code yX4_isGhost cX4_isGhost 2 (some .boolean) ∈ zAll := zin_r31 _ (List.mem_of_getElem? (i := 13) rfl)
theorem aw_31_14 : Cond.methodLink RX4 184 yX4_isGhostOn ∈ zAll := zin_r31 _ (List.mem_of_getElem? (i := 14) rfl)
theorem aw_31_15 : Cond.instanceMethod yX4_isGhostOn ∈ zAll := zin_r31 _ (List.mem_of_getElem? (i := 15) rfl)
theorem aw_31_16 : Cond.selects RX4 yX4_isGhostOn yX4_isGhostOn ∈ zAll := zin_r31 _ (List.mem_of_getElem? (i := 16) rfl)
theorem aw_31_17 : Cond.code yX4_isGhostOn cX4_isGhostOn 3 (some .boolean) ∈ zAll := zin_r31 _ (List.mem_of_getElem? (i := 17) rfl)
theorem aw_31_18 : Cond.methodLink RX4 191 yX4_findLastSeen ∈ zAll := zin_r31 _ (List.mem_of_getElem? (i := 18) rfl)
theorem aw_31_19 : Cond.instanceMethod yX4_findLastSeen ∈ zAll := zin_r31 _ (List.mem_of_getElem? (i := 19) rfl)
theorem aw_31_20 : Cond.selects RX4 yX4_findLastSeen yX4_findLastSeen ∈ zAll := zin_r31 _ (List.mem_of_getElem? (i := 20) rfl)
theorem aw_31_21 : Cond.code yX4_findLastSeen cX4_findLastSeen 4 (some .int) ∈ zAll := zin_r31 _ (List.mem_of_getElem? (i := 21) rfl)
theorem aw_31_22 : Cond.methodLink RX4 245 Lib.Math.max.name ∈ zAll := zin_r31 _ (List.mem_of_getElem? (i := 22) rfl)
theorem aw_31_23 : Cond.methodLink RL 217 yX5_isGhost ∈ zAll := zin_r31 _ (List.mem_of_getElem? (i := 23) rfl)
theorem aw_32_0 : Cond.instanceMethod yX5_isGhost ∈ zAll := zin_r32 _ (List.mem_of_getElem? (i := 0) rfl)
theorem aw_32_1 : Cond.selects RX5 yX5_isGhost yX5_isGhost ∈ zAll := zin_r32 _ (List.mem_of_getElem? (i := 1) rfl)
theorem aw_32_2 : Cond.code yX5_isGhost cX5_isGhost 2 (some .boolean) ∈ zAll := zin_r32 _ (List.mem_of_getElem? (i := 2) rfl)
theorem aw_32_3 : Cond.methodLink RX5 149 yX5_lastOf ∈ zAll := zin_r32 _ (List.mem_of_getElem? (i := 3) rfl)
theorem aw_32_4 : Cond.instanceMethod yX5_lastOf ∈ zAll := zin_r32 _ (List.mem_of_getElem? (i := 4) rfl)
theorem aw_32_5 : Cond.selects RX5 yX5_lastOf yX5_lastOf ∈ zAll := zin_r32 _ (List.mem_of_getElem? (i := 5) rfl)
theorem aw_32_6 : Cond.code yX5_lastOf cX5_lastOf 4 (some .int) ∈ zAll := zin_r32 _ (List.mem_of_getElem? (i := 6) rfl)
theorem aw_32_7 : Cond.methodLink RX5 144 Lib.Math.max.name ∈ zAll := zin_r32 _ (List.mem_of_getElem? (i := 7) rfl)
theorem aw_32_8 : Cond.methodLink RL 218 yX4_ghosts ∈ zAll := zin_r32 _ (List.mem_of_getElem? (i := 8) rfl)
theorem aw_32_9 : Cond.instanceMethod yX4_ghosts ∈ zAll := zin_r32 _ (List.mem_of_getElem? (i := 9) rfl)
theorem aw_32_10 : Cond.selects RX4 yX4_ghosts yX4_ghosts ∈ zAll := zin_r32 _ (List.mem_of_getElem? (i := 10) rfl)
theorem aw_32_11 : Cond.code yX4_ghosts cX4_ghosts 3 (some .int) ∈ zAll := zin_r32 _ (List.mem_of_getElem? (i := 11) rfl)
theorem aw_32_12 : Cond.methodLink RL 221 yX5_ghosts ∈ zAll := zin_r32 _ (List.mem_of_getElem? (i := 12) rfl)
theorem aw_32_13 : Cond.instanceMethod yX5_ghosts ∈ zAll := zin_r32 _ (List.mem_of_getElem? (i := 13) rfl)
theorem aw_32_14 : Cond.selects RX5 yX5_ghosts yX5_ghosts ∈ zAll := zin_r32 _ (List.mem_of_getElem? (i := 14) rfl)
theorem aw_32_15 : Cond.code yX5_ghosts cX5_ghosts 3 (some .int) ∈ zAll := zin_r32 _ (List.mem_of_getElem? (i := 15) rfl)
theorem aw_32_16 : Cond.methodLink RL 222 yX4_nextGhost ∈ zAll := zin_r32 _ (List.mem_of_getElem? (i := 16) rfl)
theorem aw_32_17 : Cond.instanceMethod yX4_nextGhost ∈ zAll := zin_r32 _ (List.mem_of_getElem? (i := 17) rfl)
theorem aw_32_18 : Cond.selects RX4 yX4_nextGhost yX4_nextGhost ∈ zAll := zin_r32 _ (List.mem_of_getElem? (i := 18) rfl)
theorem aw_32_19 : Cond.code yX4_nextGhost cX4_nextGhost 4 (some .int) ∈ zAll := zin_r32 _ (List.mem_of_getElem? (i := 19) rfl)
theorem aw_32_20 : Cond.methodLink RL 225 yX5_nextGhost ∈ zAll := zin_r32 _ (List.mem_of_getElem? (i := 20) rfl)
theorem aw_32_21 : Cond.instanceMethod yX5_nextGhost ∈ zAll := zin_r32 _ (List.mem_of_getElem? (i := 21) rfl)
theorem aw_32_22 : Cond.selects RX5 yX5_nextGhost yX5_nextGhost ∈ zAll := zin_r32 _ (List.mem_of_getElem? (i := 22) rfl)
theorem aw_32_23 : Cond.code yX5_nextGhost cX5_nextGhost 4 (some .int) ∈ zAll := zin_r32 _ (List.mem_of_getElem? (i := 23) rfl)
theorem aw_33_0 : Cond.methodLink RL 226 yX4_nextGhostByDays ∈ zAll := zin_r33 _ (List.mem_of_getElem? (i := 0) rfl)
theorem aw_33_1 : Cond.instanceMethod yX4_nextGhostByDays ∈ zAll := zin_r33 _ (List.mem_of_getElem? (i := 1) rfl)
theorem aw_33_2 : Cond.selects RX4 yX4_nextGhostByDays yX4_nextGhostByDays ∈ zAll := zin_r33 _ (List.mem_of_getElem? (i := 2) rfl)
theorem aw_33_3 : Cond.code yX4_nextGhostByDays cX4_nextGhostByDays 3 (some .int) ∈ zAll := zin_r33 _ (List.mem_of_getElem? (i := 3) rfl)
theorem aw_33_4 : Cond.methodLink RX4 194 Lib.Math.min.name ∈ zAll := zin_r33 _ (List.mem_of_getElem? (i := 4) rfl)
theorem aw_33_5 : Cond.methodLink RX4 199 yX4_becomesGhostOn ∈ zAll := zin_r33 _ (List.mem_of_getElem? (i := 5) rfl)
theorem aw_33_6 : Cond.instanceMethod yX4_becomesGhostOn ∈ zAll := zin_r33 _ (List.mem_of_getElem? (i := 6) rfl)
theorem aw_33_7 : Cond.selects RX4 yX4_becomesGhostOn yX4_becomesGhostOn ∈ zAll := zin_r33 _ (List.mem_of_getElem? (i := 7) rfl)
theorem aw_33_8 : Cond.code yX4_becomesGhostOn cX4_becomesGhostOn 3 (some .boolean) ∈ zAll := zin_r33 _ (List.mem_of_getElem? (i := 8) rfl)
theorem aw_33_9 : Cond.methodLink RL 229 yX5_nextGhostByDays ∈ zAll := zin_r33 _ (List.mem_of_getElem? (i := 9) rfl)
theorem aw_33_10 : Cond.instanceMethod yX5_nextGhostByDays ∈ zAll := zin_r33 _ (List.mem_of_getElem? (i := 10) rfl)
theorem aw_33_11 : Cond.selects RX5 yX5_nextGhostByDays yX5_nextGhostByDays ∈ zAll := zin_r33 _ (List.mem_of_getElem? (i := 11) rfl)
theorem aw_33_12 : Cond.code yX5_nextGhostByDays cX5_nextGhostByDays 1 (some .int) ∈ zAll := zin_r33 _ (List.mem_of_getElem? (i := 12) rfl)
theorem aw_33_13 : Cond.methodLink RX5 152 yX5_nextGhost ∈ zAll := zin_r33 _ (List.mem_of_getElem? (i := 13) rfl)
theorem aw_33_14 : Cond.methodLink RL 230 yL_pass ∈ zAll := zin_r33 _ (List.mem_of_getElem? (i := 14) rfl)
theorem aw_33_15 : Cond.static yL_pass ∈ zAll := zin_r33 _ (List.mem_of_getElem? (i := 15) rfl)
theorem aw_33_16 : Cond.codeWith yL_pass cL_pass 4 (some .int) [(0, 9, 12, 13)] ∈ zAll := zin_r33 _ (List.mem_of_getElem? (i := 16) rfl)
theorem aw_33_17 : Cond.methodLink RL 108 yX4_pass ∈ zAll := zin_r33 _ (List.mem_of_getElem? (i := 17) rfl)
theorem aw_33_18 : Cond.instanceMethod yX4_pass ∈ zAll := zin_r33 _ (List.mem_of_getElem? (i := 18) rfl)
theorem aw_33_19 : Cond.selects RX4 yX4_pass yX4_pass ∈ zAll := zin_r33 _ (List.mem_of_getElem? (i := 19) rfl)
theorem aw_33_20 : Cond.code yX4_pass cX4_pass 2 (some .int) ∈ zAll := zin_r33 _ (List.mem_of_getElem? (i := 20) rfl)
theorem aw_33_21 : Cond.methodLink RL 232 yX5_pass ∈ zAll := zin_r33 _ (List.mem_of_getElem? (i := 21) rfl)
theorem aw_33_22 : Cond.instanceMethod yX5_pass ∈ zAll := zin_r33 _ (List.mem_of_getElem? (i := 22) rfl)
theorem aw_33_23 : Cond.selects RX5 yX5_pass yX5_pass ∈ zAll := zin_r33 _ (List.mem_of_getElem? (i := 23) rfl)
theorem aw_34_0 : Cond.code yX5_pass cX5_pass 2 (some .int) ∈ zAll := zin_r34 _ (List.mem_of_getElem? (i := 0) rfl)
theorem aw_34_1 : Cond.methodLink RL 233 yX4_today ∈ zAll := zin_r34 _ (List.mem_of_getElem? (i := 1) rfl)
theorem aw_34_2 : Cond.instanceMethod yX4_today ∈ zAll := zin_r34 _ (List.mem_of_getElem? (i := 2) rfl)
theorem aw_34_3 : Cond.selects RX4 yX4_today yX4_today ∈ zAll := zin_r34 _ (List.mem_of_getElem? (i := 3) rfl)
theorem aw_34_4 : Cond.code yX4_today cX4_today 1 (some .int) ∈ zAll := zin_r34 _ (List.mem_of_getElem? (i := 4) rfl)
theorem aw_34_5 : Cond.methodLink RL 236 yX5_today ∈ zAll := zin_r34 _ (List.mem_of_getElem? (i := 5) rfl)
theorem aw_34_6 : Cond.instanceMethod yX5_today ∈ zAll := zin_r34 _ (List.mem_of_getElem? (i := 6) rfl)
theorem aw_34_7 : Cond.selects RX5 yX5_today yX5_today ∈ zAll := zin_r34 _ (List.mem_of_getElem? (i := 7) rfl)
theorem aw_34_8 : Cond.code yX5_today cX5_today 1 (some .int) ∈ zAll := zin_r34 _ (List.mem_of_getElem? (i := 8) rfl)
theorem aw_34_9 : Cond.methodLink RL 237 yX4_mark ∈ zAll := zin_r34 _ (List.mem_of_getElem? (i := 9) rfl)
theorem aw_34_10 : Cond.instanceMethod yX4_mark ∈ zAll := zin_r34 _ (List.mem_of_getElem? (i := 10) rfl)
theorem aw_34_11 : Cond.selects RX4 yX4_mark yX4_mark ∈ zAll := zin_r34 _ (List.mem_of_getElem? (i := 11) rfl)
theorem aw_34_12 : Cond.code yX4_mark cX4_mark 6 (some .long) ∈ zAll := zin_r34 _ (List.mem_of_getElem? (i := 12) rfl)
theorem aw_34_13 : Cond.methodLink RX4 202 yX4_sumMembers ∈ zAll := zin_r34 _ (List.mem_of_getElem? (i := 13) rfl)
theorem aw_34_14 : Cond.instanceMethod yX4_sumMembers ∈ zAll := zin_r34 _ (List.mem_of_getElem? (i := 14) rfl)
theorem aw_34_15 : Cond.selects RX4 yX4_sumMembers yX4_sumMembers ∈ zAll := zin_r34 _ (List.mem_of_getElem? (i := 15) rfl)
theorem aw_34_16 : Cond.code yX4_sumMembers cX4_sumMembers 4 (some .int) ∈ zAll := zin_r34 _ (List.mem_of_getElem? (i := 16) rfl)
theorem aw_34_17 : Cond.methodLink RL 241 yX5_mark ∈ zAll := zin_r34 _ (List.mem_of_getElem? (i := 17) rfl)
theorem aw_34_18 : Cond.instanceMethod yX5_mark ∈ zAll := zin_r34 _ (List.mem_of_getElem? (i := 18) rfl)
theorem aw_34_19 : Cond.selects RX5 yX5_mark yX5_mark ∈ zAll := zin_r34 _ (List.mem_of_getElem? (i := 19) rfl)
theorem aw_34_20 : Cond.code yX5_mark cX5_mark 9 (some .long) ∈ zAll := zin_r34 _ (List.mem_of_getElem? (i := 20) rfl)
theorem zAll_good : zAll.all goodWord = true := by decide +kernel
/-- a callee's words and its link, in a caller's -/
theorem zgood {w : Cond} (h : w ∈ zAll) : (w.onTables && w.keeps) = true ∨ ∃ ty, w = .arrayClass ty := good_of_word (List.all_eq_true.mp zAll_good w h)
theorem zGoodIn {ws : List Cond} (h : ∀ w ∈ ws, w ∈ zAll) : GoodIn zAll ws := fun w hw => ⟨h w hw, zgood (h w hw)⟩
end
section
abbrev vwCl : List vw_C := [(RX1, TX1, 10), (RX2, TX2, 2), (RX3, TX3, 2), (RX4, TX4, 6), (RX5, TX5, 18)]
/-! THE ABSTRACT WALK. The memory of a fixed world of cells is a function: number of the cell, slot, int. 'Wm' says that the method,
standing at pc with these locals and this stack over this memory, comes to its end with Z. References are numbers of cells. -/
abbrev Sg : Type := Nat → Nat → Int32
abbrev Dsc : Type := (Nat × Nat) ⊕ ((Nat × Nat × (Nat → Option Nat)) ⊕ (Nat × List (Option Nat)))
def zu (σ : Sg) (k j : Nat) (x : Int32) : Sg := fun a b => if a = k then (if b = j then x else σ a b) else σ a b
theorem zu_at (σ : Sg) (k j : Nat) (x : Int32) : zu σ k j x k = upd (σ k) j x := by
  funext b
  simp [zu, upd]
theorem zu_ne (σ : Sg) {k a : Nat} (j : Nat) (x : Int32) (h : a ≠ k) : zu σ k j x a = σ a := by
  funext b
  simp [zu, h]
def zv (ad : Nat → Nat) (v : Value) : Value := match v with
  | .ref k => .ref (ad k)
  | v => v
theorem zv_cat (ad : Nat → Nat) (v : Value) : (zv ad v).category = v.category := by cases v <;> rfl
def zfv (ad : Nat → Nat) (r : Nat → Int32) (j : Nat) (f : Option Nat) : Value := match f with
  | none => .int (r j)
  | some k => .ref (ad k)
def zent (cT ad : Nat → Nat) (d : Dsc) (r : Nat → Int32) : va_E := match d with
  | .inl (t, n) => .inl (cT t, n, .inl r)
  | .inr (.inl (t, n, f)) => .inl (cT t, n, .inr (.inr (.inr (.inr (fun i => (f i).map ad)))))
  | .inr (.inr (ci, fs)) => .inr (ci, fs.mapIdx (zfv ad r))
def zw (cT ad : Nat → Nat) (L : List Dsc) (σ : Sg) : va_W := L.mapIdx (fun k d => (ad k, zent cT ad d (σ k)))
theorem zw_len (cT ad : Nat → Nat) (L : List Dsc) (σ : Sg) : (zw cT ad L σ).length = L.length := by simp [zw]
theorem zw_get {cT ad : Nat → Nat} {L : List Dsc} {σ : Sg} {k : Nat} {d : Dsc} (X : va_W) (h : L[k]? = some d) : (zw cT ad L σ ++ X)[k]? = some (ad k, zent cT ad d (σ k)) := by
  have hl : k < L.length := (List.getElem?_eq_some_iff.mp h).1
  rw [List.getElem?_append_left (by rw [zw_len]; exact hl)]
  simp [zw, List.getElem?_mapIdx, h]
theorem zw_set {cT ad : Nat → Nat} {L : List Dsc} {σ : Sg} {k j : Nat} {d : Dsc} {x : Int32} {e : va_E} (X : va_W) (h : L[k]? = some d) (he : e = zent cT ad d (upd (σ k) j x)) : (zw cT ad L σ ++ X).set k (ad k, e) = zw cT ad L (zu σ k j x) ++ X := by
  have hl : k < L.length := (List.getElem?_eq_some_iff.mp h).1
  rw [List.set_append_left _ _ (by rw [zw_len]; exact hl)]
  congr 1
  apply List.ext_getElem?
  intro i
  by_cases hi : i = k
  · subst hi
    rw [List.getElem?_set_self (by rw [zw_len]; exact hl)]
    simp [zw, List.getElem?_mapIdx, h, zu_at, he]
  · rw [List.getElem?_set_ne (Ne.symm hi)]
    simp only [zw, List.getElem?_mapIdx, zu_ne σ j x hi]
theorem zfv_set {ad : Nat → Nat} {r : Nat → Int32} {fs : List (Option Nat)} {j : Nat} {x : Int32} (h : fs[j]? = some none) : (fs.mapIdx (zfv ad r)).set j (.int x) = fs.mapIdx (zfv ad (upd r j x)) := by
  have hl : j < fs.length := (List.getElem?_eq_some_iff.mp h).1
  apply List.ext_getElem?
  intro i
  by_cases hi : i = j
  · subst hi
    rw [List.getElem?_set_self (by simpa using hl)]
    simp [List.getElem?_mapIdx, h, zfv, upd]
  · rw [List.getElem?_set_ne (Ne.symm hi)]
    simp only [List.getElem?_mapIdx]
    cases fs[i]? with
    | none => rfl
    | some f => cases f <;> simp [zfv, upd, hi]
/-- the locals, by their numbers -/
def zl : List (Nat × Value) → Nat → Option Value
  | [], _ => none
  | (j, v) :: t, i => match Nat.beq j i with
    | true => some v
    | false => zl t i
theorem zl_pos : ∀ {ls : List (Nat × Value)} {i : Nat} {v : Value}, zl ls i = some v → ∃ k : Nat, ls[k]? = some (i, v)
  | [], i, v, h => by cases h
  | (j, w) :: t, i, v, h => by
    unfold zl at h
    cases hb : Nat.beq j i with
    | true =>
      rw [hb] at h
      have hj : j = i := Nat.eq_of_beq_eq_true hb
      cases h
      exact ⟨0, by rw [hj]; rfl⟩
    | false =>
      rw [hb] at h
      obtain ⟨k, hk⟩ := zl_pos h
      exact ⟨k + 1, by simpa using hk⟩
abbrev zlm (ad : Nat → Nat) (ls : List (Nat × Value)) : List (Nat × Value) := ls.map (fun q => (q.1, zv ad q.2))
theorem zl_posm {ad : Nat → Nat} {ls : List (Nat × Value)} {i : Nat} {v : Value} (h : zl ls i = some v) : ∃ k : Nat, (zlm ad ls)[k]? = some (i, zv ad v) := by
  obtain ⟨k, hk⟩ := zl_pos h
  exact ⟨k, by simp [zlm, hk]⟩
theorem zl_at {ad : Nat → Nat} {la : Array Slot} {nL : Nat} {ls : List (Nat × Value)} {i : Nat} {v : Value} (hl : lv_has la nL (zlm ad ls)) (h : zl ls i = some v) : la[i]? = some (.val (zv ad v)) := by
  obtain ⟨k, hk⟩ := zl_posm (ad := ad) h
  exact lv_at hl k hk
abbrev zk1 (i : Nat) (ls : List (Nat × Value)) : List (Nat × Value) := ls.filter (fun q => !(q.1 == i) && !(q.1 + 1 == i && q.2.category == 2))
abbrev zk2 (i : Nat) (ls : List (Nat × Value)) : List (Nat × Value) := ls.filter (fun q => !(q.1 == i) && (!(q.1 == i + 1) && !(q.1 + 1 == i && q.2.category == 2)))
theorem zk1_m (ad : Nat → Nat) (i : Nat) (ls : List (Nat × Value)) : zk1 i (zlm ad ls) = zlm ad (zk1 i ls) := by
  induction ls with
  | nil => rfl
  | cons a t ih =>
    simp only [zk1, zlm, List.map_cons, List.filter_cons, zv_cat] at ih ⊢
    split <;> simp_all
theorem zk2_m (ad : Nat → Nat) (i : Nat) (ls : List (Nat × Value)) : zk2 i (zlm ad ls) = zlm ad (zk2 i ls) := by
  induction ls with
  | nil => rfl
  | cons a t ih =>
    simp only [zk2, zlm, List.map_cons, List.filter_cons, zv_cat] at ih ⊢
    split <;> simp_all
def ztys (cT : Nat → Nat) : List (ClassId × FieldType) := [(cT 0, .int), (cT 1, .array .int), (cT 2, .boolean), (cT 3, .long), (cT 4, .double)]
/-- the world: the cells of the layout L and the further ones X, apart, all of A; what isn't of A is as at the start -/
def zW (D : va_G) (cT ad : Nat → Nat) (L : List Dsc) (X : va_W) (A : Nat → Prop) (s : State) (σ : Sg) (H : Heap) (locs : List Loc) : Prop :=
  (∀ q : Nat, s.heap.size ≤ q → A q) ∧ va_K D vwCl (ztys cT) s ∧ va_P D vwCl (zw cT ad L σ ++ X) H ∧ va_D A (zw cT ad L σ ++ X) ∧ va_S A s.heap H locs
def zC (TB : Code → Prop) (own : String) (cc : ByteArray) (nL : Nat) (ret : Option FieldType) (p : Program) (s : State) (m : MethodId) (args : Array Value) (meth : Method) (c : Code) : Prop :=
  p.tables.exec = Jvm.exec ∧ c.code = cc ∧ c.maxLocals = nL ∧ s.vm.findClass own = some m.cls ∧ (∀ w ∈ zAll, w.before args s = true) ∧ meth.sig.returnType = ret ∧ meth.locks = false ∧ TB c
def Wm (TB : Code → Prop) (l : Launch) (R : Room) (own : String) (cc : ByteArray) (nL : Nat) (ret : Option FieldType) (D : va_G) (cT ad : Nat → Nat) (L : List Dsc) (A : Nat → Prop) (Z : List Frame → Array Value → State → State → Prop) (X : va_W) (pc : Nat) (ls : List (Nat × Value)) (st : List Value) (σ : Sg) (k n : Nat) : Prop :=
  ∀ (p : Program) (e : Env) (s : State) (m : MethodId) (args : Array Value) (below : List Frame) (meth : Method) (c : Code) (H : Heap) (locs : List Loc) (la : Array Slot), zC TB own cc nL ret p s m args meth c → zW D cT ad L X A s σ H locs → lv_has la nL (zlm ad ls) →
    W p l e R s m args below meth c H locs k n (Z below args s) (F0 m pc la (st.map (zv ad)))
section WM
variable {TB : Code → Prop} {l : Launch} {R : Room} {own : String} {cc : ByteArray} {nL : Nat} {ret : Option FieldType} {D : va_G} {cT ad : Nat → Nat} {L : List Dsc} {A : Nat → Prop} {Z : List Frame → Array Value → State → State → Prop} {X : va_W} {pc : Nat} {ls : List (Nat × Value)} {st : List Value} {σ : Sg} {k n : Nat}

theorem wm_iadd {x y : Int32} (q : Nat) (hq : pc + 1 = q) (d : decode cc pc = .ok (.iadd, 1)) (kk : Wm TB l R own cc nL ret D cT ad L A Z X q ls (.int (x + y) :: st) σ k n) : Wm TB l R own cc nL ret D cT ad L A Z X pc ls (.int y :: .int x :: st) σ k n := by
  subst hq
  intro p e s m args below meth c H locs la C w hl
  obtain ⟨hx, hb, hml, hown, hts, hr, hlk, hTB⟩ := id C
  exact lv_iadd hx hb d (kk p e s m args below meth c H locs la C w hl)
theorem wm_isub {x y : Int32} (q : Nat) (hq : pc + 1 = q) (d : decode cc pc = .ok (.isub, 1)) (kk : Wm TB l R own cc nL ret D cT ad L A Z X q ls (.int (x - y) :: st) σ k n) : Wm TB l R own cc nL ret D cT ad L A Z X pc ls (.int y :: .int x :: st) σ k n := by
  subst hq
  intro p e s m args below meth c H locs la C w hl
  obtain ⟨hx, hb, hml, hown, hts, hr, hlk, hTB⟩ := id C
  exact lv_isub hx hb d (kk p e s m args below meth c H locs la C w hl)
theorem wm_imul {x y : Int32} (q : Nat) (hq : pc + 1 = q) (d : decode cc pc = .ok (.imul, 1)) (kk : Wm TB l R own cc nL ret D cT ad L A Z X q ls (.int (x * y) :: st) σ k n) : Wm TB l R own cc nL ret D cT ad L A Z X pc ls (.int y :: .int x :: st) σ k n := by
  subst hq
  intro p e s m args below meth c H locs la C w hl
  obtain ⟨hx, hb, hml, hown, hts, hr, hlk, hTB⟩ := id C
  exact lv_imul hx hb d (kk p e s m args below meth c H locs la C w hl)
theorem wm_iand {x y : Int32} (q : Nat) (hq : pc + 1 = q) (d : decode cc pc = .ok (.iand, 1)) (kk : Wm TB l R own cc nL ret D cT ad L A Z X q ls (.int (x &&& y) :: st) σ k n) : Wm TB l R own cc nL ret D cT ad L A Z X pc ls (.int y :: .int x :: st) σ k n := by
  subst hq
  intro p e s m args below meth c H locs la C w hl
  obtain ⟨hx, hb, hml, hown, hts, hr, hlk, hTB⟩ := id C
  exact lv_iand hx hb d (kk p e s m args below meth c H locs la C w hl)
theorem wm_ior {x y : Int32} (q : Nat) (hq : pc + 1 = q) (d : decode cc pc = .ok (.ior, 1)) (kk : Wm TB l R own cc nL ret D cT ad L A Z X q ls (.int (x ||| y) :: st) σ k n) : Wm TB l R own cc nL ret D cT ad L A Z X pc ls (.int y :: .int x :: st) σ k n := by
  subst hq
  intro p e s m args below meth c H locs la C w hl
  obtain ⟨hx, hb, hml, hown, hts, hr, hlk, hTB⟩ := id C
  exact lv_ior hx hb d (kk p e s m args below meth c H locs la C w hl)
theorem wm_ixor {x y : Int32} (q : Nat) (hq : pc + 1 = q) (d : decode cc pc = .ok (.ixor, 1)) (kk : Wm TB l R own cc nL ret D cT ad L A Z X q ls (.int (x ^^^ y) :: st) σ k n) : Wm TB l R own cc nL ret D cT ad L A Z X pc ls (.int y :: .int x :: st) σ k n := by
  subst hq
  intro p e s m args below meth c H locs la C w hl
  obtain ⟨hx, hb, hml, hown, hts, hr, hlk, hTB⟩ := id C
  exact lv_ixor hx hb d (kk p e s m args below meth c H locs la C w hl)
theorem wm_idiv {x y : Int32} (q : Nat) (hq : pc + 1 = q) (d : decode cc pc = .ok (.idiv, 1)) (hne : ¬ y = 0) (kk : Wm TB l R own cc nL ret D cT ad L A Z X q ls (.int (x / y) :: st) σ k n) : Wm TB l R own cc nL ret D cT ad L A Z X pc ls (.int y :: .int x :: st) σ k n := by
  subst hq
  intro p e s m args below meth c H locs la C w hl
  obtain ⟨hx, hb, hml, hown, hts, hr, hlk, hTB⟩ := id C
  exact lv_idiv hx hb d hne (kk p e s m args below meth c H locs la C w hl)
theorem wm_ishl {x y : Int32} (q : Nat) (hq : pc + 1 = q) (d : decode cc pc = .ok (.ishl, 1)) (kk : Wm TB l R own cc nL ret D cT ad L A Z X q ls (.int (x <<< (y &&& 31)) :: st) σ k n) : Wm TB l R own cc nL ret D cT ad L A Z X pc ls (.int y :: .int x :: st) σ k n := by
  subst hq
  intro p e s m args below meth c H locs la C w hl
  obtain ⟨hx, hb, hml, hown, hts, hr, hlk, hTB⟩ := id C
  exact lv_ishl hx hb d (kk p e s m args below meth c H locs la C w hl)
theorem wm_ishr {x y : Int32} (q : Nat) (hq : pc + 1 = q) (d : decode cc pc = .ok (.ishr, 1)) (kk : Wm TB l R own cc nL ret D cT ad L A Z X q ls (.int (x >>> (y &&& 31)) :: st) σ k n) : Wm TB l R own cc nL ret D cT ad L A Z X pc ls (.int y :: .int x :: st) σ k n := by
  subst hq
  intro p e s m args below meth c H locs la C w hl
  obtain ⟨hx, hb, hml, hown, hts, hr, hlk, hTB⟩ := id C
  exact lv_ishr hx hb d (kk p e s m args below meth c H locs la C w hl)
theorem wm_iushr {x y : Int32} (q : Nat) (hq : pc + 1 = q) (d : decode cc pc = .ok (.iushr, 1)) (kk : Wm TB l R own cc nL ret D cT ad L A Z X q ls (.int (x.toUInt32 >>> (y.toUInt32 &&& Int32.toUInt32 31)).toInt32 :: st) σ k n) : Wm TB l R own cc nL ret D cT ad L A Z X pc ls (.int y :: .int x :: st) σ k n := by
  subst hq
  intro p e s m args below meth c H locs la C w hl
  obtain ⟨hx, hb, hml, hown, hts, hr, hlk, hTB⟩ := id C
  exact lv_iushr hx hb d rfl (kk p e s m args below meth c H locs la C w hl)
theorem wm_ladd {x y : Int64} (q : Nat) (hq : pc + 1 = q) (d : decode cc pc = .ok (.ladd, 1)) (kk : Wm TB l R own cc nL ret D cT ad L A Z X q ls (.long (x + y) :: st) σ k n) : Wm TB l R own cc nL ret D cT ad L A Z X pc ls (.long y :: .long x :: st) σ k n := by
  subst hq
  intro p e s m args below meth c H locs la C w hl
  obtain ⟨hx, hb, hml, hown, hts, hr, hlk, hTB⟩ := id C
  exact lv_ladd hx hb d (kk p e s m args below meth c H locs la C w hl)
theorem wm_lsub {x y : Int64} (q : Nat) (hq : pc + 1 = q) (d : decode cc pc = .ok (.lsub, 1)) (kk : Wm TB l R own cc nL ret D cT ad L A Z X q ls (.long (x - y) :: st) σ k n) : Wm TB l R own cc nL ret D cT ad L A Z X pc ls (.long y :: .long x :: st) σ k n := by
  subst hq
  intro p e s m args below meth c H locs la C w hl
  obtain ⟨hx, hb, hml, hown, hts, hr, hlk, hTB⟩ := id C
  exact lv_lsub hx hb d (kk p e s m args below meth c H locs la C w hl)
theorem wm_lmul {x y : Int64} (q : Nat) (hq : pc + 1 = q) (d : decode cc pc = .ok (.lmul, 1)) (kk : Wm TB l R own cc nL ret D cT ad L A Z X q ls (.long (x * y) :: st) σ k n) : Wm TB l R own cc nL ret D cT ad L A Z X pc ls (.long y :: .long x :: st) σ k n := by
  subst hq
  intro p e s m args below meth c H locs la C w hl
  obtain ⟨hx, hb, hml, hown, hts, hr, hlk, hTB⟩ := id C
  exact lv_lmul hx hb d (kk p e s m args below meth c H locs la C w hl)
theorem wm_i2l {x : Int32} (q : Nat) (hq : pc + 1 = q) (d : decode cc pc = .ok (.i2l, 1)) (kk : Wm TB l R own cc nL ret D cT ad L A Z X q ls (.long x.toInt64 :: st) σ k n) : Wm TB l R own cc nL ret D cT ad L A Z X pc ls (.int x :: st) σ k n := by
  subst hq
  intro p e s m args below meth c H locs la C w hl
  obtain ⟨hx, hb, hml, hown, hts, hr, hlk, hTB⟩ := id C
  exact lv_i2l hx hb d rfl (kk p e s m args below meth c H locs la C w hl)
theorem wm_i2f {x : Int32} (q : Nat) (hq : pc + 1 = q) (d : decode cc pc = .ok (.i2f, 1)) (kk : Wm TB l R own cc nL ret D cT ad L A Z X q ls (.float (FP.i2f x) :: st) σ k n) : Wm TB l R own cc nL ret D cT ad L A Z X pc ls (.int x :: st) σ k n := by
  subst hq
  intro p e s m args below meth c H locs la C w hl
  obtain ⟨hx, hb, hml, hown, hts, hr, hlk, hTB⟩ := id C
  exact lv_i2f hx hb d (kk p e s m args below meth c H locs la C w hl)
theorem wm_iconst {v : Int32} {z : Int} (q : Nat) (hq : pc + 1 = q) (d : decode cc pc = .ok (.iconst z, 1)) (hv : Int32.ofInt z = v) (kk : Wm TB l R own cc nL ret D cT ad L A Z X q ls (.int v :: st) σ k n) : Wm TB l R own cc nL ret D cT ad L A Z X pc ls (st) σ k n := by
  subst hq
  intro p e s m args below meth c H locs la C w hl
  obtain ⟨hx, hb, hml, hown, hts, hr, hlk, hTB⟩ := id C
  exact lv_iconst hx hb d hv (kk p e s m args below meth c H locs la C w hl)
theorem wm_bipush {v : Int32} {z : Int} (q : Nat) (hq : pc + 2 = q) (d : decode cc pc = .ok (.bipush z, 2)) (hv : (Int8.ofInt z).toInt32 = v) (kk : Wm TB l R own cc nL ret D cT ad L A Z X q ls (.int v :: st) σ k n) : Wm TB l R own cc nL ret D cT ad L A Z X pc ls (st) σ k n := by
  subst hq
  intro p e s m args below meth c H locs la C w hl
  obtain ⟨hx, hb, hml, hown, hts, hr, hlk, hTB⟩ := id C
  exact lv_bipush hx hb d hv (kk p e s m args below meth c H locs la C w hl)
theorem wm_sipush {v : Int32} {z : Int} (q : Nat) (hq : pc + 3 = q) (d : decode cc pc = .ok (.sipush z, 3)) (hv : (Int16.ofInt z).toInt32 = v) (kk : Wm TB l R own cc nL ret D cT ad L A Z X q ls (.int v :: st) σ k n) : Wm TB l R own cc nL ret D cT ad L A Z X pc ls (st) σ k n := by
  subst hq
  intro p e s m args below meth c H locs la C w hl
  obtain ⟨hx, hb, hml, hown, hts, hr, hlk, hTB⟩ := id C
  exact lv_sipush hx hb d hv (kk p e s m args below meth c H locs la C w hl)
theorem wm_lconst {v : Int64} {z : Fin 2} (q : Nat) (hq : pc + 1 = q) (d : decode cc pc = .ok (.lconst z, 1)) (hv : Int64.ofNat (z : Nat) = v) (kk : Wm TB l R own cc nL ret D cT ad L A Z X q ls (.long v :: st) σ k n) : Wm TB l R own cc nL ret D cT ad L A Z X pc ls (st) σ k n := by
  subst hq
  intro p e s m args below meth c H locs la C w hl
  obtain ⟨hx, hb, hml, hown, hts, hr, hlk, hTB⟩ := id C
  exact lv_lconst hx hb d hv (kk p e s m args below meth c H locs la C w hl)
theorem wm_fconst0 (q : Nat) (hq : pc + 1 = q) (d : decode cc pc = .ok (.fconst 0, 1)) (kk : Wm TB l R own cc nL ret D cT ad L A Z X q ls (.float 0 :: st) σ k n) : Wm TB l R own cc nL ret D cT ad L A Z X pc ls (st) σ k n := by
  subst hq
  intro p e s m args below meth c H locs la C w hl
  obtain ⟨hx, hb, hml, hown, hts, hr, hlk, hTB⟩ := id C
  exact lv_fconst0 hx hb d (kk p e s m args below meth c H locs la C w hl)
theorem wm_lcmp {x y : Int64} (q : Nat) (hq : pc + 1 = q) (d : decode cc pc = .ok (.lcmp, 1)) (kk : Wm TB l R own cc nL ret D cT ad L A Z X q ls (.int (lg_cmp x y) :: st) σ k n) : Wm TB l R own cc nL ret D cT ad L A Z X pc ls (.long y :: .long x :: st) σ k n := by
  subst hq
  intro p e s m args below meth c H locs la C w hl
  obtain ⟨hx, hb, hml, hown, hts, hr, hlk, hTB⟩ := id C
  exact W.lcmp hx hb d (kk p e s m args below meth c H locs la C w hl)
theorem wm_fdiv {x y : UInt32} (q : Nat) (hq : pc + 1 = q) (d : decode cc pc = .ok (.fdiv, 1)) (hne : vf_n32 (FP.fdiv x y)) (kk : Wm TB l R own cc nL ret D cT ad L A Z X q ls (.float (FP.fdiv x y) :: st) σ k n) : Wm TB l R own cc nL ret D cT ad L A Z X pc ls (.float y :: .float x :: st) σ k n := by
  subst hq
  intro p e s m args below meth c H locs la C w hl
  obtain ⟨hx, hb, hml, hown, hts, hr, hlk, hTB⟩ := id C
  exact lv_fdiv hx hb d hne (kk p e s m args below meth c H locs la C w hl)
theorem wm_dup {v : Value} (q : Nat) (hq : pc + 1 = q) (hv : v.category = 1) (d : decode cc pc = .ok (.dup, 1)) (kk : Wm TB l R own cc nL ret D cT ad L A Z X q ls (v :: v :: st) σ k n) : Wm TB l R own cc nL ret D cT ad L A Z X pc ls (v :: st) σ k n := by
  subst hq
  intro p e s m args below meth c H locs la C w hl
  obtain ⟨hx, hb, hml, hown, hts, hr, hlk, hTB⟩ := id C
  exact lv_dup hx hb d ((zv_cat ad v).trans hv) (kk p e s m args below meth c H locs la C w hl)
theorem wm_dup2 {v v2 : Value} (q : Nat) (hq : pc + 1 = q) (hv : v.category = 1) (hv2 : v2.category = 1) (d : decode cc pc = .ok (.dup2, 1)) (kk : Wm TB l R own cc nL ret D cT ad L A Z X q ls (v :: v2 :: v :: v2 :: st) σ k n) : Wm TB l R own cc nL ret D cT ad L A Z X pc ls (v :: v2 :: st) σ k n := by
  subst hq
  intro p e s m args below meth c H locs la C w hl
  obtain ⟨hx, hb, hml, hown, hts, hr, hlk, hTB⟩ := id C
  exact lv_dup2_11 hx hb d ((zv_cat ad v).trans hv) ((zv_cat ad v2).trans hv2) (kk p e s m args below meth c H locs la C w hl)
theorem wm_dup_x1 {v v2 : Value} (q : Nat) (hq : pc + 1 = q) (hv : v.category = 1) (hv2 : v2.category = 1) (d : decode cc pc = .ok (.dup_x1, 1)) (kk : Wm TB l R own cc nL ret D cT ad L A Z X q ls (v :: v2 :: v :: st) σ k n) : Wm TB l R own cc nL ret D cT ad L A Z X pc ls (v :: v2 :: st) σ k n := by
  subst hq
  intro p e s m args below meth c H locs la C w hl
  obtain ⟨hx, hb, hml, hown, hts, hr, hlk, hTB⟩ := id C
  exact lv_dup_x1 hx hb d ((zv_cat ad v).trans hv) ((zv_cat ad v2).trans hv2) (kk p e s m args below meth c H locs la C w hl)
theorem wm_pop {v : Value} (q : Nat) (hq : pc + 1 = q) (hv : v.category = 1) (d : decode cc pc = .ok (.pop, 1)) (kk : Wm TB l R own cc nL ret D cT ad L A Z X q ls (st) σ k n) : Wm TB l R own cc nL ret D cT ad L A Z X pc ls (v :: st) σ k n := by
  subst hq
  intro p e s m args below meth c H locs la C w hl
  obtain ⟨hx, hb, hml, hown, hts, hr, hlk, hTB⟩ := id C
  exact lv_pop hx hb d ((zv_cat ad v).trans hv) (kk p e s m args below meth c H locs la C w hl)
theorem wm_iload_n {x : Int32} {i : Nat} {z : Fin 4} (q : Nat) (hq : pc + 1 = q) (d : decode cc pc = .ok (.iload_n z, 1)) (hi : (z : Nat) = i) (hg : zl ls i = some (.int x)) (kk : Wm TB l R own cc nL ret D cT ad L A Z X q ls (.int x :: st) σ k n) : Wm TB l R own cc nL ret D cT ad L A Z X pc ls (st) σ k n := by
  subst hq
  intro p e s m args below meth c H locs la C w hl
  obtain ⟨hx, hb, hml, hown, hts, hr, hlk, hTB⟩ := id C
  exact lv_iload_n hx hb d hi (zl_at hl hg) (kk p e s m args below meth c H locs la C w hl)
theorem wm_iload {x : Int32} {i : Nat} (q : Nat) (hq : pc + 2 = q) (d : decode cc pc = .ok (.iload i, 2)) (hg : zl ls i = some (.int x)) (kk : Wm TB l R own cc nL ret D cT ad L A Z X q ls (.int x :: st) σ k n) : Wm TB l R own cc nL ret D cT ad L A Z X pc ls (st) σ k n := by
  subst hq
  intro p e s m args below meth c H locs la C w hl
  obtain ⟨hx, hb, hml, hown, hts, hr, hlk, hTB⟩ := id C
  exact lv_iload hx hb d (zl_at hl hg) (kk p e s m args below meth c H locs la C w hl)
theorem wm_lload_n {x : Int64} {i : Nat} {z : Fin 4} (q : Nat) (hq : pc + 1 = q) (d : decode cc pc = .ok (.lload_n z, 1)) (hi : (z : Nat) = i) (hg : zl ls i = some (.long x)) (kk : Wm TB l R own cc nL ret D cT ad L A Z X q ls (.long x :: st) σ k n) : Wm TB l R own cc nL ret D cT ad L A Z X pc ls (st) σ k n := by
  subst hq
  intro p e s m args below meth c H locs la C w hl
  obtain ⟨hx, hb, hml, hown, hts, hr, hlk, hTB⟩ := id C
  exact lv_lload_n hx hb d hi (zl_at hl hg) (kk p e s m args below meth c H locs la C w hl)
theorem wm_lload {x : Int64} {i : Nat} (q : Nat) (hq : pc + 2 = q) (d : decode cc pc = .ok (.lload i, 2)) (hg : zl ls i = some (.long x)) (kk : Wm TB l R own cc nL ret D cT ad L A Z X q ls (.long x :: st) σ k n) : Wm TB l R own cc nL ret D cT ad L A Z X pc ls (st) σ k n := by
  subst hq
  intro p e s m args below meth c H locs la C w hl
  obtain ⟨hx, hb, hml, hown, hts, hr, hlk, hTB⟩ := id C
  exact lv_lload hx hb d (zl_at hl hg) (kk p e s m args below meth c H locs la C w hl)
theorem wm_aload_n {x : Nat} {i : Nat} {z : Fin 4} (q : Nat) (hq : pc + 1 = q) (d : decode cc pc = .ok (.aload_n z, 1)) (hi : (z : Nat) = i) (hg : zl ls i = some (.ref x)) (kk : Wm TB l R own cc nL ret D cT ad L A Z X q ls (.ref x :: st) σ k n) : Wm TB l R own cc nL ret D cT ad L A Z X pc ls (st) σ k n := by
  subst hq
  intro p e s m args below meth c H locs la C w hl
  obtain ⟨hx, hb, hml, hown, hts, hr, hlk, hTB⟩ := id C
  exact lv_aload_n hx hb d hi (zl_at hl hg) (kk p e s m args below meth c H locs la C w hl)
theorem wm_aload {x : Nat} {i : Nat} (q : Nat) (hq : pc + 2 = q) (d : decode cc pc = .ok (.aload i, 2)) (hg : zl ls i = some (.ref x)) (kk : Wm TB l R own cc nL ret D cT ad L A Z X q ls (.ref x :: st) σ k n) : Wm TB l R own cc nL ret D cT ad L A Z X pc ls (st) σ k n := by
  subst hq
  intro p e s m args below meth c H locs la C w hl
  obtain ⟨hx, hb, hml, hown, hts, hr, hlk, hTB⟩ := id C
  exact lv_aload hx hb d (zl_at hl hg) (kk p e s m args below meth c H locs la C w hl)
theorem wm_fload_n {x : UInt32} {i : Nat} {z : Fin 4} (q : Nat) (hq : pc + 1 = q) (d : decode cc pc = .ok (.fload_n z, 1)) (hi : (z : Nat) = i) (hg : zl ls i = some (.float x)) (kk : Wm TB l R own cc nL ret D cT ad L A Z X q ls (.float x :: st) σ k n) : Wm TB l R own cc nL ret D cT ad L A Z X pc ls (st) σ k n := by
  subst hq
  intro p e s m args below meth c H locs la C w hl
  obtain ⟨hx, hb, hml, hown, hts, hr, hlk, hTB⟩ := id C
  exact lv_fload_n hx hb d hi (zl_at hl hg) (kk p e s m args below meth c H locs la C w hl)
theorem wm_fload {x : UInt32} {i : Nat} (q : Nat) (hq : pc + 2 = q) (d : decode cc pc = .ok (.fload i, 2)) (hg : zl ls i = some (.float x)) (kk : Wm TB l R own cc nL ret D cT ad L A Z X q ls (.float x :: st) σ k n) : Wm TB l R own cc nL ret D cT ad L A Z X pc ls (st) σ k n := by
  subst hq
  intro p e s m args below meth c H locs la C w hl
  obtain ⟨hx, hb, hml, hown, hts, hr, hlk, hTB⟩ := id C
  exact lv_fload hx hb d (zl_at hl hg) (kk p e s m args below meth c H locs la C w hl)
theorem wm_istore_n {x : Int32} {i : Nat} {z : Fin 4} {ls' : List (Nat × Value)} (q : Nat) (hq : pc + 1 = q) (d : decode cc pc = .ok (.istore_n z, 1)) (hi : (z : Nat) = i) (hn : i < nL) (hl9 : (i, Value.int x) :: zk1 i ls = ls') (kk : Wm TB l R own cc nL ret D cT ad L A Z X q ls' (st) σ k n) : Wm TB l R own cc nL ret D cT ad L A Z X pc ls (.int x :: st) σ k n := by
  subst hq
  intro p e s m args below meth c H locs la C w hl
  obtain ⟨hx, hb, hml, hown, hts, hr, hlk, hTB⟩ := id C
  exact lv_istore_n (lv' := zlm ad ls') hx hb d hi hl hn (by show _ :: zk1 i (zlm ad ls) = zlm ad ls'; rw [zk1_m, ← hl9]; rfl) (fun la' hl' => kk p e s m args below meth c H locs la' C w hl')
theorem wm_istore {x : Int32} {i : Nat} {ls' : List (Nat × Value)} (q : Nat) (hq : pc + 2 = q) (d : decode cc pc = .ok (.istore i, 2)) (hn : i < nL) (hl9 : (i, Value.int x) :: zk1 i ls = ls') (kk : Wm TB l R own cc nL ret D cT ad L A Z X q ls' (st) σ k n) : Wm TB l R own cc nL ret D cT ad L A Z X pc ls (.int x :: st) σ k n := by
  subst hq
  intro p e s m args below meth c H locs la C w hl
  obtain ⟨hx, hb, hml, hown, hts, hr, hlk, hTB⟩ := id C
  exact lv_istore (lv' := zlm ad ls') hx hb d hl hn (by show _ :: zk1 i (zlm ad ls) = zlm ad ls'; rw [zk1_m, ← hl9]; rfl) (fun la' hl' => kk p e s m args below meth c H locs la' C w hl')
theorem wm_lstore_n {x : Int64} {i : Nat} {z : Fin 4} {ls' : List (Nat × Value)} (q : Nat) (hq : pc + 1 = q) (d : decode cc pc = .ok (.lstore_n z, 1)) (hi : (z : Nat) = i) (hn : i + 1 < nL) (hl9 : (i, Value.long x) :: zk2 i ls = ls') (kk : Wm TB l R own cc nL ret D cT ad L A Z X q ls' (st) σ k n) : Wm TB l R own cc nL ret D cT ad L A Z X pc ls (.long x :: st) σ k n := by
  subst hq
  intro p e s m args below meth c H locs la C w hl
  obtain ⟨hx, hb, hml, hown, hts, hr, hlk, hTB⟩ := id C
  exact lv_lstore_n (lv' := zlm ad ls') hx hb d hi hl hn (by show _ :: zk2 i (zlm ad ls) = zlm ad ls'; rw [zk2_m, ← hl9]; rfl) (fun la' hl' => kk p e s m args below meth c H locs la' C w hl')
theorem wm_lstore {x : Int64} {i : Nat} {ls' : List (Nat × Value)} (q : Nat) (hq : pc + 2 = q) (d : decode cc pc = .ok (.lstore i, 2)) (hn : i + 1 < nL) (hl9 : (i, Value.long x) :: zk2 i ls = ls') (kk : Wm TB l R own cc nL ret D cT ad L A Z X q ls' (st) σ k n) : Wm TB l R own cc nL ret D cT ad L A Z X pc ls (.long x :: st) σ k n := by
  subst hq
  intro p e s m args below meth c H locs la C w hl
  obtain ⟨hx, hb, hml, hown, hts, hr, hlk, hTB⟩ := id C
  exact lv_lstore (lv' := zlm ad ls') hx hb d hl hn (by show _ :: zk2 i (zlm ad ls) = zlm ad ls'; rw [zk2_m, ← hl9]; rfl) (fun la' hl' => kk p e s m args below meth c H locs la' C w hl')
theorem wm_astore_n {x : Nat} {i : Nat} {z : Fin 4} {ls' : List (Nat × Value)} (q : Nat) (hq : pc + 1 = q) (d : decode cc pc = .ok (.astore_n z, 1)) (hi : (z : Nat) = i) (hn : i < nL) (hl9 : (i, Value.ref x) :: zk1 i ls = ls') (kk : Wm TB l R own cc nL ret D cT ad L A Z X q ls' (st) σ k n) : Wm TB l R own cc nL ret D cT ad L A Z X pc ls (.ref x :: st) σ k n := by
  subst hq
  intro p e s m args below meth c H locs la C w hl
  obtain ⟨hx, hb, hml, hown, hts, hr, hlk, hTB⟩ := id C
  exact lv_astore_n (lv' := zlm ad ls') hx hb d hi hl hn (by show _ :: zk1 i (zlm ad ls) = zlm ad ls'; rw [zk1_m, ← hl9]; rfl) (fun la' hl' => kk p e s m args below meth c H locs la' C w hl')
theorem wm_astore {x : Nat} {i : Nat} {ls' : List (Nat × Value)} (q : Nat) (hq : pc + 2 = q) (d : decode cc pc = .ok (.astore i, 2)) (hn : i < nL) (hl9 : (i, Value.ref x) :: zk1 i ls = ls') (kk : Wm TB l R own cc nL ret D cT ad L A Z X q ls' (st) σ k n) : Wm TB l R own cc nL ret D cT ad L A Z X pc ls (.ref x :: st) σ k n := by
  subst hq
  intro p e s m args below meth c H locs la C w hl
  obtain ⟨hx, hb, hml, hown, hts, hr, hlk, hTB⟩ := id C
  exact lv_astore (lv' := zlm ad ls') hx hb d hl hn (by show _ :: zk1 i (zlm ad ls) = zlm ad ls'; rw [zk1_m, ← hl9]; rfl) (fun la' hl' => kk p e s m args below meth c H locs la' C w hl')
theorem wm_fstore_n {x : UInt32} {i : Nat} {z : Fin 4} {ls' : List (Nat × Value)} (q : Nat) (hq : pc + 1 = q) (d : decode cc pc = .ok (.fstore_n z, 1)) (hi : (z : Nat) = i) (hn : i < nL) (hl9 : (i, Value.float x) :: zk1 i ls = ls') (kk : Wm TB l R own cc nL ret D cT ad L A Z X q ls' (st) σ k n) : Wm TB l R own cc nL ret D cT ad L A Z X pc ls (.float x :: st) σ k n := by
  subst hq
  intro p e s m args below meth c H locs la C w hl
  obtain ⟨hx, hb, hml, hown, hts, hr, hlk, hTB⟩ := id C
  exact lv_fstore_n (lv' := zlm ad ls') hx hb d hi hl hn (by show _ :: zk1 i (zlm ad ls) = zlm ad ls'; rw [zk1_m, ← hl9]; rfl) (fun la' hl' => kk p e s m args below meth c H locs la' C w hl')
theorem wm_fstore {x : UInt32} {i : Nat} {ls' : List (Nat × Value)} (q : Nat) (hq : pc + 2 = q) (d : decode cc pc = .ok (.fstore i, 2)) (hn : i < nL) (hl9 : (i, Value.float x) :: zk1 i ls = ls') (kk : Wm TB l R own cc nL ret D cT ad L A Z X q ls' (st) σ k n) : Wm TB l R own cc nL ret D cT ad L A Z X pc ls (.float x :: st) σ k n := by
  subst hq
  intro p e s m args below meth c H locs la C w hl
  obtain ⟨hx, hb, hml, hown, hts, hr, hlk, hTB⟩ := id C
  exact lv_fstore (lv' := zlm ad ls') hx hb d hl hn (by show _ :: zk1 i (zlm ad ls) = zlm ad ls'; rw [zk1_m, ← hl9]; rfl) (fun la' hl' => kk p e s m args below meth c H locs la' C w hl')
theorem wm_iinc {x v : Int32} {i : Nat} {z : Int} {ls' : List (Nat × Value)} (q : Nat) (hq : pc + 3 = q) (d : decode cc pc = .ok (.iinc i z, 3)) (hg : zl ls i = some (.int x)) (hv : x + Int32.ofInt z = v) (hn : i < nL) (hl9 : (i, Value.int v) :: zk1 i ls = ls') (kk : Wm TB l R own cc nL ret D cT ad L A Z X q ls' (st) σ k n) : Wm TB l R own cc nL ret D cT ad L A Z X pc ls (st) σ k n := by
  subst hq
  intro p e s m args below meth c H locs la C w hl
  obtain ⟨hx, hb, hml, hown, hts, hr, hlk, hTB⟩ := id C
  obtain ⟨k9, hk9⟩ := zl_posm (ad := ad) hg
  exact lv_iinc (lv' := zlm ad ls') (v := v) hx hb d hl hk9 hv hn (by show _ :: zk1 i (zlm ad ls) = zlm ad ls'; rw [zk1_m, ← hl9]; rfl) (fun la' hl' => kk p e s m args below meth c H locs la' C w hl')
theorem wm_if_eq {x : Int32} {off : Int} (tgt q : Nat) (hq : pc + 3 = q) (ht : (pc : Int) + off = (tgt : Int)) (d : decode cc pc = .ok (.ifCond .eq off, 3)) (kt : x = 0 → Wm TB l R own cc nL ret D cT ad L A Z X tgt ls (st) σ k n) (kf : ¬ x = 0 → Wm TB l R own cc nL ret D cT ad L A Z X q ls (st) σ k n) : Wm TB l R own cc nL ret D cT ad L A Z X pc ls (.int x :: st) σ k n := by
  subst hq
  intro p e s m args below meth c H locs la C w hl
  obtain ⟨hx, hb, hml, hown, hts, hr, hlk, hTB⟩ := id C
  exact lv_if_eq hx hb d ht (fun h => kt h p e s m args below meth c H locs la C w hl) (fun h => kf h p e s m args below meth c H locs la C w hl)
theorem wm_icmp_eq {x y : Int32} {off : Int} (tgt q : Nat) (hq : pc + 3 = q) (ht : (pc : Int) + off = (tgt : Int)) (d : decode cc pc = .ok (.if_icmp .eq off, 3)) (kt : x = y → Wm TB l R own cc nL ret D cT ad L A Z X tgt ls (st) σ k n) (kf : ¬ x = y → Wm TB l R own cc nL ret D cT ad L A Z X q ls (st) σ k n) : Wm TB l R own cc nL ret D cT ad L A Z X pc ls (.int y :: .int x :: st) σ k n := by
  subst hq
  intro p e s m args below meth c H locs la C w hl
  obtain ⟨hx, hb, hml, hown, hts, hr, hlk, hTB⟩ := id C
  exact lv_icmp_eq hx hb d ht (fun h => kt h p e s m args below meth c H locs la C w hl) (fun h => kf h p e s m args below meth c H locs la C w hl)
theorem wm_if_ne {x : Int32} {off : Int} (tgt q : Nat) (hq : pc + 3 = q) (ht : (pc : Int) + off = (tgt : Int)) (d : decode cc pc = .ok (.ifCond .ne off, 3)) (kt : ¬ x = 0 → Wm TB l R own cc nL ret D cT ad L A Z X tgt ls (st) σ k n) (kf : x = 0 → Wm TB l R own cc nL ret D cT ad L A Z X q ls (st) σ k n) : Wm TB l R own cc nL ret D cT ad L A Z X pc ls (.int x :: st) σ k n := by
  subst hq
  intro p e s m args below meth c H locs la C w hl
  obtain ⟨hx, hb, hml, hown, hts, hr, hlk, hTB⟩ := id C
  exact lv_if_ne hx hb d ht (fun h => kt h p e s m args below meth c H locs la C w hl) (fun h => kf h p e s m args below meth c H locs la C w hl)
theorem wm_icmp_ne {x y : Int32} {off : Int} (tgt q : Nat) (hq : pc + 3 = q) (ht : (pc : Int) + off = (tgt : Int)) (d : decode cc pc = .ok (.if_icmp .ne off, 3)) (kt : ¬ x = y → Wm TB l R own cc nL ret D cT ad L A Z X tgt ls (st) σ k n) (kf : x = y → Wm TB l R own cc nL ret D cT ad L A Z X q ls (st) σ k n) : Wm TB l R own cc nL ret D cT ad L A Z X pc ls (.int y :: .int x :: st) σ k n := by
  subst hq
  intro p e s m args below meth c H locs la C w hl
  obtain ⟨hx, hb, hml, hown, hts, hr, hlk, hTB⟩ := id C
  exact lv_icmp_ne hx hb d ht (fun h => kt h p e s m args below meth c H locs la C w hl) (fun h => kf h p e s m args below meth c H locs la C w hl)
theorem wm_if_lt {x : Int32} {off : Int} (tgt q : Nat) (hq : pc + 3 = q) (ht : (pc : Int) + off = (tgt : Int)) (d : decode cc pc = .ok (.ifCond .lt off, 3)) (kt : x < 0 → Wm TB l R own cc nL ret D cT ad L A Z X tgt ls (st) σ k n) (kf : ¬ x < 0 → Wm TB l R own cc nL ret D cT ad L A Z X q ls (st) σ k n) : Wm TB l R own cc nL ret D cT ad L A Z X pc ls (.int x :: st) σ k n := by
  subst hq
  intro p e s m args below meth c H locs la C w hl
  obtain ⟨hx, hb, hml, hown, hts, hr, hlk, hTB⟩ := id C
  exact lv_if_lt hx hb d ht (fun h => kt h p e s m args below meth c H locs la C w hl) (fun h => kf h p e s m args below meth c H locs la C w hl)
theorem wm_icmp_lt {x y : Int32} {off : Int} (tgt q : Nat) (hq : pc + 3 = q) (ht : (pc : Int) + off = (tgt : Int)) (d : decode cc pc = .ok (.if_icmp .lt off, 3)) (kt : x < y → Wm TB l R own cc nL ret D cT ad L A Z X tgt ls (st) σ k n) (kf : ¬ x < y → Wm TB l R own cc nL ret D cT ad L A Z X q ls (st) σ k n) : Wm TB l R own cc nL ret D cT ad L A Z X pc ls (.int y :: .int x :: st) σ k n := by
  subst hq
  intro p e s m args below meth c H locs la C w hl
  obtain ⟨hx, hb, hml, hown, hts, hr, hlk, hTB⟩ := id C
  exact lv_icmp_lt hx hb d ht (fun h => kt h p e s m args below meth c H locs la C w hl) (fun h => kf h p e s m args below meth c H locs la C w hl)
theorem wm_if_ge {x : Int32} {off : Int} (tgt q : Nat) (hq : pc + 3 = q) (ht : (pc : Int) + off = (tgt : Int)) (d : decode cc pc = .ok (.ifCond .ge off, 3)) (kt : 0 ≤ x → Wm TB l R own cc nL ret D cT ad L A Z X tgt ls (st) σ k n) (kf : ¬ 0 ≤ x → Wm TB l R own cc nL ret D cT ad L A Z X q ls (st) σ k n) : Wm TB l R own cc nL ret D cT ad L A Z X pc ls (.int x :: st) σ k n := by
  subst hq
  intro p e s m args below meth c H locs la C w hl
  obtain ⟨hx, hb, hml, hown, hts, hr, hlk, hTB⟩ := id C
  exact lv_if_ge hx hb d ht (fun h => kt h p e s m args below meth c H locs la C w hl) (fun h => kf h p e s m args below meth c H locs la C w hl)
theorem wm_icmp_ge {x y : Int32} {off : Int} (tgt q : Nat) (hq : pc + 3 = q) (ht : (pc : Int) + off = (tgt : Int)) (d : decode cc pc = .ok (.if_icmp .ge off, 3)) (kt : y ≤ x → Wm TB l R own cc nL ret D cT ad L A Z X tgt ls (st) σ k n) (kf : ¬ y ≤ x → Wm TB l R own cc nL ret D cT ad L A Z X q ls (st) σ k n) : Wm TB l R own cc nL ret D cT ad L A Z X pc ls (.int y :: .int x :: st) σ k n := by
  subst hq
  intro p e s m args below meth c H locs la C w hl
  obtain ⟨hx, hb, hml, hown, hts, hr, hlk, hTB⟩ := id C
  exact lv_icmp_ge hx hb d ht (fun h => kt h p e s m args below meth c H locs la C w hl) (fun h => kf h p e s m args below meth c H locs la C w hl)
theorem wm_if_gt {x : Int32} {off : Int} (tgt q : Nat) (hq : pc + 3 = q) (ht : (pc : Int) + off = (tgt : Int)) (d : decode cc pc = .ok (.ifCond .gt off, 3)) (kt : 0 < x → Wm TB l R own cc nL ret D cT ad L A Z X tgt ls (st) σ k n) (kf : ¬ 0 < x → Wm TB l R own cc nL ret D cT ad L A Z X q ls (st) σ k n) : Wm TB l R own cc nL ret D cT ad L A Z X pc ls (.int x :: st) σ k n := by
  subst hq
  intro p e s m args below meth c H locs la C w hl
  obtain ⟨hx, hb, hml, hown, hts, hr, hlk, hTB⟩ := id C
  exact lv_if_gt hx hb d ht (fun h => kt h p e s m args below meth c H locs la C w hl) (fun h => kf h p e s m args below meth c H locs la C w hl)
theorem wm_icmp_gt {x y : Int32} {off : Int} (tgt q : Nat) (hq : pc + 3 = q) (ht : (pc : Int) + off = (tgt : Int)) (d : decode cc pc = .ok (.if_icmp .gt off, 3)) (kt : y < x → Wm TB l R own cc nL ret D cT ad L A Z X tgt ls (st) σ k n) (kf : ¬ y < x → Wm TB l R own cc nL ret D cT ad L A Z X q ls (st) σ k n) : Wm TB l R own cc nL ret D cT ad L A Z X pc ls (.int y :: .int x :: st) σ k n := by
  subst hq
  intro p e s m args below meth c H locs la C w hl
  obtain ⟨hx, hb, hml, hown, hts, hr, hlk, hTB⟩ := id C
  exact lv_icmp_gt hx hb d ht (fun h => kt h p e s m args below meth c H locs la C w hl) (fun h => kf h p e s m args below meth c H locs la C w hl)
theorem wm_if_le {x : Int32} {off : Int} (tgt q : Nat) (hq : pc + 3 = q) (ht : (pc : Int) + off = (tgt : Int)) (d : decode cc pc = .ok (.ifCond .le off, 3)) (kt : x ≤ 0 → Wm TB l R own cc nL ret D cT ad L A Z X tgt ls (st) σ k n) (kf : ¬ x ≤ 0 → Wm TB l R own cc nL ret D cT ad L A Z X q ls (st) σ k n) : Wm TB l R own cc nL ret D cT ad L A Z X pc ls (.int x :: st) σ k n := by
  subst hq
  intro p e s m args below meth c H locs la C w hl
  obtain ⟨hx, hb, hml, hown, hts, hr, hlk, hTB⟩ := id C
  exact lv_if_le hx hb d ht (fun h => kt h p e s m args below meth c H locs la C w hl) (fun h => kf h p e s m args below meth c H locs la C w hl)
theorem wm_icmp_le {x y : Int32} {off : Int} (tgt q : Nat) (hq : pc + 3 = q) (ht : (pc : Int) + off = (tgt : Int)) (d : decode cc pc = .ok (.if_icmp .le off, 3)) (kt : x ≤ y → Wm TB l R own cc nL ret D cT ad L A Z X tgt ls (st) σ k n) (kf : ¬ x ≤ y → Wm TB l R own cc nL ret D cT ad L A Z X q ls (st) σ k n) : Wm TB l R own cc nL ret D cT ad L A Z X pc ls (.int y :: .int x :: st) σ k n := by
  subst hq
  intro p e s m args below meth c H locs la C w hl
  obtain ⟨hx, hb, hml, hown, hts, hr, hlk, hTB⟩ := id C
  exact lv_icmp_le hx hb d ht (fun h => kt h p e s m args below meth c H locs la C w hl) (fun h => kf h p e s m args below meth c H locs la C w hl)
theorem wm_goto {off : Int} (tgt : Nat) (ht : (pc : Int) + off = (tgt : Int)) (d : decode cc pc = .ok (.goto off, 3)) (kk : Wm TB l R own cc nL ret D cT ad L A Z X tgt ls (st) σ k n) : Wm TB l R own cc nL ret D cT ad L A Z X pc ls (st) σ k n := by
  intro p e s m args below meth c H locs la C w hl
  obtain ⟨hx, hb, hml, hown, hts, hr, hlk, hTB⟩ := id C
  exact lv_goto hx hb d ht (kk p e s m args below meth c H locs la C w hl)

/-- what the tables say of a field's link in a method's words -/
def zGF (own : String) (index ci j : Nat) : Prop := ∃ (C : String) (T : u_T) (N : Nat) (ref : String), vwCl[ci]? = some (C, T, N) ∧ (∀ w ∈ u_ws C T N, w ∈ zAll) ∧ j < N ∧ Cond.fieldLink own index ref (T j).2.1 (T j).2.2.1 ∈ zAll ∧ (ref = (T j).1 ∨ Cond.sameField ref (T j).1 (T j).2.1 (T j).2.2.1 ∈ zAll)
def zPF (own : String) (index ci j : Nat) : Prop := ∃ (C : String) (T : u_T) (N : Nat) (ref : String) (ty0 : Nat → FieldType), vwCl[ci]? = some (C, T, N) ∧ (∀ w ∈ u_ws C T N, w ∈ zAll) ∧ j < N ∧ Cond.fieldLink own index ref (T j).2.1 (T j).2.2.1 ∈ zAll ∧ ref = (T j).1 ∧ (∀ k, k < N → parseFieldDescriptor (T k).2.2.1 = some (ty0 k)) ∧ (∀ a, a < N → ∀ b, b < N → a ≠ b → (T a).2.1 ≠ (T b).2.1) ∧ (T j).2.2.2 = false ∧ parseFieldDescriptor (T j).2.2.1 = some .int
theorem wm_getI {index ci j b : Nat} {fs : List (Option Nat)} (q : Nat) (hq : pc + 3 = q) (d : decode cc pc = .ok (.getfield index, 3)) (hg : zGF own index ci j) (hL : L[b]? = some (.inr (.inr (ci, fs)))) (hf : fs[j]? = some none) (kk : Wm TB l R own cc nL ret D cT ad L A Z X q ls (.int (σ b j) :: st) σ k n) : Wm TB l R own cc nL ret D cT ad L A Z X pc ls (.ref b :: st) σ k n := by
  subst hq
  intro p e s m args below meth c H locs la C w hl
  obtain ⟨hx, hb, hml, hown, hts, hr, hlk, hTB⟩ := id C
  obtain ⟨C9, T9, N9, ref9, h1, h2, h3, h4, h5⟩ := hg
  exact va_get (a := ad b) hx hb hts h2 hown w.2.1 w.2.2.1 b (zw_get X hL) h1 j h3 (hts _ h4) (fun z hz => by
    rcases h5 with h5 | h5
    · rw [h5]; exact hz
    · exact u_same (hts _ h5) z hz) (by simp [List.getElem?_mapIdx, hf, zfv, zv]) d (kk p e s m args below meth c H locs la C w hl)
theorem wm_getR {index ci j b : Nat} {r : Nat} {fs : List (Option Nat)} (q : Nat) (hq : pc + 3 = q) (d : decode cc pc = .ok (.getfield index, 3)) (hg : zGF own index ci j) (hL : L[b]? = some (.inr (.inr (ci, fs)))) (hf : fs[j]? = some (some r)) (kk : Wm TB l R own cc nL ret D cT ad L A Z X q ls (.ref r :: st) σ k n) : Wm TB l R own cc nL ret D cT ad L A Z X pc ls (.ref b :: st) σ k n := by
  subst hq
  intro p e s m args below meth c H locs la C w hl
  obtain ⟨hx, hb, hml, hown, hts, hr, hlk, hTB⟩ := id C
  obtain ⟨C9, T9, N9, ref9, h1, h2, h3, h4, h5⟩ := hg
  exact va_get (a := ad b) hx hb hts h2 hown w.2.1 w.2.2.1 b (zw_get X hL) h1 j h3 (hts _ h4) (fun z hz => by
    rcases h5 with h5 | h5
    · rw [h5]; exact hz
    · exact u_same (hts _ h5) z hz) (by simp [List.getElem?_mapIdx, hf, zfv, zv]) d (kk p e s m args below meth c H locs la C w hl)
theorem wm_putI {index ci j b : Nat} {x : Int32} {fs : List (Option Nat)} (q : Nat) (hq : pc + 3 = q) (d : decode cc pc = .ok (.putfield index, 3)) (hg : zPF own index ci j) (hL : L[b]? = some (.inr (.inr (ci, fs)))) (hf : fs[j]? = some none) (kk : Wm TB l R own cc nL ret D cT ad L A Z X q ls (st) (zu σ b j x) k n) : Wm TB l R own cc nL ret D cT ad L A Z X pc ls (.int x :: .ref b :: st) σ k n := by
  subst hq
  intro p e s m args below meth c H locs la C w hl
  obtain ⟨hx, hb, hml, hown, hts, hr, hlk, hTB⟩ := id C
  obtain ⟨C9, T9, N9, ref9, ty9, h1, h2, h3, h4, h5, h6, h7, h8, h9⟩ := hg
  refine va_put (a := ad b) (ty := .int) (v := .int x) hx hb hts h2 ty9 h6 h7 hown w.2.1 w.2.2.1 w.2.2.2.1 w.2.2.2.2 b (zw_get X hL) h1 j h3 (hts _ h4) (fun z hz => by rw [h5]; exact hz) h8 h9 rfl rfl (by simpa using (List.getElem?_eq_some_iff.mp hf).1) d (fun H1 locs1 hP hD hS => ?_)
  rw [zw_set X hL (j := j) (x := x) (by show _ = Sum.inr (ci, _); rw [zfv_set hf])] at hP hD
  exact kk p e s m args below meth c H1 locs1 la C ⟨w.1, w.2.1, hP, hD, hS⟩ hl
theorem wm_iaload {b n9 : Nat} {i : Int32} (q : Nat) (hq : pc + 1 = q) (d : decode cc pc = .ok (.iaload, 1)) (hL : L[b]? = some (.inl (0, n9))) (hin : vp_in i n9) (kk : Wm TB l R own cc nL ret D cT ad L A Z X q ls (.int (σ b i.toNatClampNeg) :: st) σ k n) : Wm TB l R own cc nL ret D cT ad L A Z X pc ls (.int i :: .ref b :: st) σ k n := by
  subst hq
  intro p e s m args below meth c H locs la C w hl
  obtain ⟨hx, hb, hml, hown, hts, hr, hlk, hTB⟩ := id C
  exact va_iald (a := ad b) hx hb w.2.1 w.2.2.1 b 0 (zw_get X hL) rfl hin d (kk p e s m args below meth c H locs la C w hl)
theorem wm_baload {b n9 : Nat} {i : Int32} (q : Nat) (hq : pc + 1 = q) (d : decode cc pc = .ok (.baload, 1)) (hL : L[b]? = some (.inl (2, n9))) (hin : vp_in i n9) (kk : Wm TB l R own cc nL ret D cT ad L A Z X q ls (.int (σ b i.toNatClampNeg) :: st) σ k n) : Wm TB l R own cc nL ret D cT ad L A Z X pc ls (.int i :: .ref b :: st) σ k n := by
  subst hq
  intro p e s m args below meth c H locs la C w hl
  obtain ⟨hx, hb, hml, hown, hts, hr, hlk, hTB⟩ := id C
  exact va_zald (a := ad b) hx hb w.2.1 w.2.2.1 b 2 (zw_get X hL) rfl hin d (kk p e s m args below meth c H locs la C w hl)
theorem wm_aaload {b n9 r : Nat} {i : Int32} {f : Nat → Option Nat} (q : Nat) (hq : pc + 1 = q) (d : decode cc pc = .ok (.aaload, 1)) (hL : L[b]? = some (.inr (.inl (1, n9, f)))) (hin : vp_in i n9) (hf : f i.toNatClampNeg = some r) (kk : Wm TB l R own cc nL ret D cT ad L A Z X q ls (.ref r :: st) σ k n) : Wm TB l R own cc nL ret D cT ad L A Z X pc ls (.int i :: .ref b :: st) σ k n := by
  subst hq
  intro p e s m args below meth c H locs la C w hl
  obtain ⟨hx, hb, hml, hown, hts, hr, hlk, hTB⟩ := id C
  have ha := zw_get (cT := cT) (ad := ad) (σ := σ) X hL
  have hlt : i.toNatClampNeg < n9 := Nat.not_le.mp fun q => hin (Or.inr q)
  exact W.aald (v := .ref (ad r)) (ty := .array .int) hx hb (w.2.2.1 b _ ha) ((w.2.1.2 1 _ rfl).1 n9 (fun j => va_rf ((f j).map ad))) rfl (fun q => by cases q) (by show ¬ (i < 0 ∨ (arrV _ _ _).slots.size ≤ _); rw [arrV_size]; exact hin) (by show (arrV _ _ _).slots[_]? = _; rw [arrV_read _ _ hlt]; show some (va_rf ((f _).map ad)) = _; rw [hf]; rfl) rfl rfl d (kk p e s m args below meth c H locs la C w hl)
theorem wm_iastore {b n9 : Nat} {i x : Int32} (q : Nat) (hq : pc + 1 = q) (d : decode cc pc = .ok (.iastore, 1)) (hL : L[b]? = some (.inl (0, n9))) (hin : vp_in i n9) (kk : Wm TB l R own cc nL ret D cT ad L A Z X q ls (st) (zu σ b i.toNatClampNeg x) k n) : Wm TB l R own cc nL ret D cT ad L A Z X pc ls (.int x :: .int i :: .ref b :: st) σ k n := by
  subst hq
  intro p e s m args below meth c H locs la C w hl
  obtain ⟨hx, hb, hml, hown, hts, hr, hlk, hTB⟩ := id C
  refine va_iast (a := ad b) hx hb w.2.1 w.2.2.1 w.2.2.2.1 w.2.2.2.2 b 0 (zw_get X hL) rfl hin d (fun H1 locs1 hP hD hS => ?_)
  rw [zw_set (cT := cT) (ad := ad) (σ := σ) (e := .inl (cT 0, n9, .inl (upd (σ b) i.toNatClampNeg x))) X hL (j := i.toNatClampNeg) (x := x) rfl] at hP hD
  exact kk p e s m args below meth c H1 locs1 la C ⟨w.1, w.2.1, hP, hD, hS⟩ hl
theorem wm_bastore {b n9 : Nat} {i x : Int32} (q : Nat) (hq : pc + 1 = q) (d : decode cc pc = .ok (.bastore, 1)) (hL : L[b]? = some (.inl (2, n9))) (hin : vp_in i n9) (kk : Wm TB l R own cc nL ret D cT ad L A Z X q ls (st) (zu σ b i.toNatClampNeg (vp_nar .boolean x)) k n) : Wm TB l R own cc nL ret D cT ad L A Z X pc ls (.int x :: .int i :: .ref b :: st) σ k n := by
  subst hq
  intro p e s m args below meth c H locs la C w hl
  obtain ⟨hx, hb, hml, hown, hts, hr, hlk, hTB⟩ := id C
  refine va_zast (a := ad b) hx hb w.2.1 w.2.2.1 w.2.2.2.1 w.2.2.2.2 b 2 (zw_get X hL) rfl hin d (fun H1 locs1 hP hD hS => ?_)
  rw [zw_set (cT := cT) (ad := ad) (σ := σ) (e := .inl (cT 2, n9, .inl (upd (σ b) i.toNatClampNeg (vp_nar .boolean x)))) X hL (j := i.toNatClampNeg) (x := (vp_nar .boolean x)) rfl] at hP hD
  exact kk p e s m args below meth c H1 locs1 la C ⟨w.1, w.2.1, hP, hD, hS⟩ hl
theorem wm_max {x y : Int32} {index : Nat} (q : Nat) (hq : pc + 3 = q) (d : decode cc pc = .ok (.invokestatic index, 3)) (h1 : Cond.methodLink own index Lib.Math.max.name ∈ zAll) (h2 : Cond.static Lib.Math.max.name ∈ zAll) (h3 : Cond.initialized "java/lang/Math" ∈ zAll) (h4 : Cond.code Lib.Math.max.name Lib.Math.max.code 2 (some .int) ∈ zAll) (hR : 1 ≤ R.frames ∧ 21 ≤ R.locals) (hc : (st.map fun v => v.category).sum ≤ 8) (hk : k ≤ R.cells ∧ n ≤ R.slots) (kk : Wm TB l R own cc nL ret D cT ad L A Z X q ls (.int (if x < y then y else x) :: st) σ k n) : Wm TB l R own cc nL ret D cT ad L A Z X pc ls (.int y :: .int x :: st) σ k n := by
  subst hq
  intro p e s m args below meth c H locs la C w hl
  obtain ⟨hx, hb, hml, hown, hts, hr, hlk, hTB⟩ := id C
  have hc9 : ((st.map (zv ad)).map fun v => v.category).sum ≤ 8 := by rw [List.map_map]; exact (show (st.map ((fun v : Value => v.category) ∘ zv ad)).sum ≤ 8 by rw [show ((fun v : Value => v.category) ∘ zv ad) = (fun v => v.category) from funext (zv_cat ad)]; exact hc)
  exact va_mmax hx hb (hml.trans hl.1.symm) hown (hts _ h1) (hts _ h2) (hts _ h3) (hts _ h4) hR.1 (by omega) hk.1 hk.2 d (kk p e s m args below meth c H locs la C w hl)
theorem wm_min {x y : Int32} {index : Nat} (q : Nat) (hq : pc + 3 = q) (d : decode cc pc = .ok (.invokestatic index, 3)) (h1 : Cond.methodLink own index Lib.Math.min.name ∈ zAll) (h2 : Cond.static Lib.Math.min.name ∈ zAll) (h3 : Cond.initialized "java/lang/Math" ∈ zAll) (h4 : Cond.code Lib.Math.min.name Lib.Math.min.code 2 (some .int) ∈ zAll) (hR : 1 ≤ R.frames ∧ 21 ≤ R.locals) (hc : (st.map fun v => v.category).sum ≤ 8) (hk : k ≤ R.cells ∧ n ≤ R.slots) (kk : Wm TB l R own cc nL ret D cT ad L A Z X q ls (.int (if y < x then y else x) :: st) σ k n) : Wm TB l R own cc nL ret D cT ad L A Z X pc ls (.int y :: .int x :: st) σ k n := by
  subst hq
  intro p e s m args below meth c H locs la C w hl
  obtain ⟨hx, hb, hml, hown, hts, hr, hlk, hTB⟩ := id C
  have hc9 : ((st.map (zv ad)).map fun v => v.category).sum ≤ 8 := by rw [List.map_map]; exact (show (st.map ((fun v : Value => v.category) ∘ zv ad)).sum ≤ 8 by rw [show ((fun v : Value => v.category) ∘ zv ad) = (fun v => v.category) from funext (zv_cat ad)]; exact hc)
  exact va_mmin hx hb (hml.trans hl.1.symm) hown (hts _ h1) (hts _ h2) (hts _ h3) (hts _ h4) hR.1 (by omega) hk.1 hk.2 d (kk p e s m args below meth c H locs la C w hl)
end WM
end
section
/-! CONTRACTS over the int memory: a method of the world L, called with as over σ, answers r and leaves σ' with 'post r σ'', makes nothing -/
def rmh (h : Nat) : Room := { frames := h, cells := 0, slots := 0, locals := 36 * h }
def zA (ad : Nat → Nat) (N sz : Nat) : Nat → Prop := fun q => (∃ k, k < N ∧ q = ad k) ∨ sz ≤ q
def zB (D : va_G) (cT ad : Nat → Nat) (L : List Dsc) (A : Nat → Prop) (σ : Sg) (t : State) : Prop := va_P D vwCl (zw cT ad L σ) t.heap ∧ va_K D vwCl (ztys cT) t ∧ va_D A (zw cT ad L σ)
def zPc (D : va_G) (cT ad : Nat → Nat) (L : List Dsc) (sz : Nat) (as : List Value) (σ : Sg) : Array Value → State → Prop := va_Pc (as.map (zv ad)) (fun U => U.heap.size = sz ∧ va_P D vwCl (zw cT ad L σ) U.heap ∧ va_K D vwCl (ztys cT) U ∧ va_D (fun _ => True) (zw cT ad L σ))
/-- the ends: an int or boolean, a long, a float, nothing -/
def zQi (D : va_G) (cT ad : Nat → Nat) (L : List Dsc) (sz : Nat) (post : Int32 → Sg → Prop) : Array Value → State → Outcome → State → Prop := va_Qi post (zB D cT ad L (zA ad L.length sz)) (zA ad L.length sz)
def zQl (D : va_G) (cT ad : Nat → Nat) (L : List Dsc) (sz : Nat) (post : Int64 → Sg → Prop) : Array Value → State → Outcome → State → Prop := va_Ql post (zB D cT ad L (zA ad L.length sz)) (zA ad L.length sz)
def zQf (D : va_G) (cT ad : Nat → Nat) (L : List Dsc) (sz : Nat) (post : UInt32 → Sg → Prop) : Array Value → State → Outcome → State → Prop := va_Qf post (zB D cT ad L (zA ad L.length sz)) (zA ad L.length sz)
def zQv (D : va_G) (cT ad : Nat → Nat) (L : List Dsc) (sz : Nat) (post : Sg → Prop) : Array Value → State → Outcome → State → Prop := va_Qv post (zB D cT ad L (zA ad L.length sz)) (zA ad L.length sz)
/-- the contract: any world of the layout L -/
def zMet (l : Launch) (y : MethodName) (bytes : ByteArray) (maxL : Nat) (ret : Option FieldType) (h : Nat) (L : List Dsc) (as : List Value) (σ : Sg) (Q : va_G → (Nat → Nat) → (Nat → Nat) → List Dsc → Nat → Array Value → State → Outcome → State → Prop) : Prop :=
  ∀ (D : va_G) (cT ad : Nat → Nat) (sz : Nat), Met l y (Cond.code y bytes maxL ret :: zAll) (rmh h) (zPc D cT ad L sz as σ) (Q D cT ad L sz) 0 0 (zA ad L.length sz)
abbrev cMi (l : Launch) (y : MethodName) (bytes : ByteArray) (maxL : Nat) (ty : FieldType) (h : Nat) (L : List Dsc) (as : List Value) (σ : Sg) (post : Int32 → Sg → Prop) : Prop := zMet l y bytes maxL (some ty) h L as σ (fun D cT ad L sz => zQi D cT ad L sz post)
abbrev cMl (l : Launch) (y : MethodName) (bytes : ByteArray) (maxL : Nat) (h : Nat) (L : List Dsc) (as : List Value) (σ : Sg) (post : Int64 → Sg → Prop) : Prop := zMet l y bytes maxL (some .long) h L as σ (fun D cT ad L sz => zQl D cT ad L sz post)
abbrev cMf (l : Launch) (y : MethodName) (bytes : ByteArray) (maxL : Nat) (h : Nat) (L : List Dsc) (as : List Value) (σ : Sg) (post : UInt32 → Sg → Prop) : Prop := zMet l y bytes maxL (some .float) h L as σ (fun D cT ad L sz => zQf D cT ad L sz post)
abbrev cMv (l : Launch) (y : MethodName) (bytes : ByteArray) (maxL : Nat) (h : Nat) (L : List Dsc) (as : List Value) (σ : Sg) (post : Sg → Prop) : Prop := zMet l y bytes maxL none h L as σ (fun D cT ad L sz => zQv D cT ad L sz post)
abbrev zZ (Q : va_G → (Nat → Nat) → (Nat → Nat) → List Dsc → Nat → Array Value → State → Outcome → State → Prop) (D : va_G) (cT ad : Nat → Nat) (L : List Dsc) (sz : Nat) : List Frame → Array Value → State → State → Prop := fun below args s => MQ below (Q D cT ad L sz) args s 0 0 (zA ad L.length sz)
theorem zlv_args (ad : Nat → Nat) : ∀ (as : List Value) (i : Nat), lv_args i (as.map (zv ad)) = zlm ad (lv_args i as)
  | [], i => rfl
  | v :: vs, i => by
    show (i, zv ad v) :: lv_args (if (zv ad v).category = 2 then i + 2 else i + 1) (vs.map (zv ad)) = _
    rw [zv_cat, zlv_args ad vs]
    rfl
theorem zlg_len (ad : Nat → Nat) (as : List Value) : (lg_sl (as.map (zv ad))).length = (lg_sl as).length := by
  induction as with
  | nil => rfl
  | cons v vs ih =>
    simp only [lg_sl, List.map_cons, List.flatMap_cons, List.length_append, zv_cat] at ih ⊢
    first | (rw [ih]; done) | (split <;> simp_all)
theorem zD_in {ad cT : Nat → Nat} {L : List Dsc} {σ : Sg} {sz : Nat} {A : Nat → Prop} (h : va_D A (zw cT ad L σ)) : va_D (zA ad L.length sz) (zw cT ad L σ) := by
  refine h.weaken (fun k q hk _ => ?_)
  simp only [zw, List.getElem?_mapIdx] at hk
  cases hL : L[k]? with
  | none => rw [hL] at hk; cases hk
  | some d =>
    rw [hL] at hk
    cases hk
    exact Or.inl ⟨k, (List.getElem?_eq_some_iff.mp hL).1, rfl⟩
/-- a contract out of a walk -/
theorem zMet_of {l : Launch} {y : MethodName} {bytes : ByteArray} {maxL : Nat} {ret : Option FieldType} {h : Nat} {L : List Dsc} {as : List Value} {σ : Sg} {Q : va_G → (Nat → Nat) → (Nat → Nat) → List Dsc → Nat → Array Value → State → Outcome → State → Prop}
    (hy : plainName y.cls = true) (hn : (lg_sl as).length ≤ maxL)
    (hw : ∀ (D : va_G) (cT ad : Nat → Nat) (sz : Nat), Wm (fun _ => True) l (rmh h) y.cls bytes maxL ret D cT ad L (zA ad L.length sz) (zZ Q D cT ad L sz) [] 0 (lv_args 0 as) [] σ 0 0) : zMet l y bytes maxL ret h L as σ Q := by
  intro D cT ad sz
  refine Met.ofW (cc := bytes) (maxL := maxL) (ret := ret) hy rfl ?_
  intro p e s m args below meth c s₁ B hml hv
  obtain ⟨rfl, hsz, hP, hK, hD0⟩ := hv
  have hown : s.vm.findClass y.cls = some m.cls := findClass_of_methodNamed B.named
  have hts : ∀ w ∈ zAll, w.before (as.map (zv ad)).toArray s = true := fun w hw9 => atoms_spec (ws := Cond.code y bytes maxL ret :: zAll) B.pre w (List.mem_cons_of_mem _ hw9)
  subst hsz
  have hl := lv_entry (as.map (zv ad)) (n := maxL) (by rw [zlg_len]; exact hn)
  rw [lg_entry_eq]
  generalize (lg_sl (as.map (zv ad)) ++ List.replicate (maxL - (lg_sl (as.map (zv ad))).length) Slot.unset).toArray = la at hl ⊢
  rw [zlv_args] at hl
  refine hw D cT ad s.heap.size p e s m _ below meth c s.heap [] la ⟨B.exec, B.bytes, hml, hown, hts, B.returns, B.notSynchronized, trivial⟩ ⟨fun q hq => Or.inr hq, hK, ?_, ?_, va_S.rf⟩ hl
  · rw [List.append_nil]; exact hP
  · rw [List.append_nil]; exact zD_in hD0
section RET
variable {TB : Code → Prop} {l : Launch} {R : Room} {own : String} {cc : ByteArray} {nL : Nat} {D : va_G} {cT ad : Nat → Nat} {L : List Dsc} {pc sz : Nat} {ls : List (Nat × Value)} {σ : Sg}
theorem wm_iret {ty : FieldType} {v : Int32} {post : Int32 → Sg → Prop} (d : decode cc pc = .ok (.ireturn, 1)) (hn : narrow ty (.int v) = .int v) (hp : post v σ) : Wm TB l R own cc nL (some ty) D cT ad L (zA ad L.length sz) (zZ (fun D cT ad L sz => zQi D cT ad L sz post) D cT ad L sz) [] pc ls [.int v] σ 0 0 := by
  intro p e s m args below meth c H locs la C w hl
  obtain ⟨hx, hb, hml, hown, hts, hr, hlk, hTB⟩ := id C
  obtain ⟨hA, hK, hP, hD, hS⟩ := w
  rw [List.append_nil] at hP hD
  exact W.zret hx hb hr hn (fun t ht hW => ⟨⟨v, σ, rfl, hp, by rw [ht]; exact hP, va_K.moved hW.alike hK, hD⟩, hS.F ht⟩) hS.2.2 d hlk
theorem wm_lret {v : Int64} {post : Int64 → Sg → Prop} (d : decode cc pc = .ok (.lreturn, 1)) (hp : post v σ) : Wm TB l R own cc nL (some .long) D cT ad L (zA ad L.length sz) (zZ (fun D cT ad L sz => zQl D cT ad L sz post) D cT ad L sz) [] pc ls [.long v] σ 0 0 := by
  intro p e s m args below meth c H locs la C w hl
  obtain ⟨hx, hb, hml, hown, hts, hr, hlk, hTB⟩ := id C
  obtain ⟨hA, hK, hP, hD, hS⟩ := w
  rw [List.append_nil] at hP hD
  exact W.lret hx hb hr (fun t ht hW => ⟨⟨v, σ, rfl, hp, by rw [ht]; exact hP, va_K.moved hW.alike hK, hD⟩, hS.F ht⟩) hS.2.2 d hlk
theorem wm_fret {v : UInt32} {post : UInt32 → Sg → Prop} (d : decode cc pc = .ok (.freturn, 1)) (hp : post v σ) : Wm TB l R own cc nL (some .float) D cT ad L (zA ad L.length sz) (zZ (fun D cT ad L sz => zQf D cT ad L sz post) D cT ad L sz) [] pc ls [.float v] σ 0 0 := by
  intro p e s m args below meth c H locs la C w hl
  obtain ⟨hx, hb, hml, hown, hts, hr, hlk, hTB⟩ := id C
  obtain ⟨hA, hK, hP, hD, hS⟩ := w
  rw [List.append_nil] at hP hD
  exact W.fret hx hb hr (fun t ht hW => ⟨⟨v, σ, rfl, hp, by rw [ht]; exact hP, va_K.moved hW.alike hK, hD⟩, hS.F ht⟩) hS.2.2 d hlk
theorem wm_vret {post : Sg → Prop} (d : decode cc pc = .ok (.return_, 1)) (hp : post σ) : Wm TB l R own cc nL none D cT ad L (zA ad L.length sz) (zZ (fun D cT ad L sz => zQv D cT ad L sz post) D cT ad L sz) [] pc ls [] σ 0 0 := by
  intro p e s m args below meth c H locs la C w hl
  obtain ⟨hx, hb, hml, hown, hts, hr, hlk, hTB⟩ := id C
  obtain ⟨hA, hK, hP, hD, hS⟩ := w
  rw [List.append_nil] at hP hD
  exact W.vret hx hb hr (fun t ht hW => ⟨⟨σ, rfl, hp, by rw [ht]; exact hP, va_K.moved hW.alike hK, hD⟩, hS.F ht⟩) hS.2.2 d hlk
end RET
/-- a world seen again behind a call -/
theorem zD_same {A : Nat → Prop} {w w' : va_W} (h : w'.map (·.1) = w.map (·.1)) (hD : va_D A w) : va_D A w' := by
  have key : ∀ (k : Nat) (q : Nat × va_E), w'[k]? = some q → ∃ q0, w[k]? = some q0 ∧ q0.1 = q.1 := by
    intro k q hk
    have h1 : (w'.map (·.1))[k]? = some q.1 := by rw [List.getElem?_map, hk]; rfl
    rw [h, List.getElem?_map] at h1
    cases hw : w[k]? with
    | none => rw [hw] at h1; cases h1
    | some q0 => rw [hw] at h1; exact ⟨q0, rfl, Option.some.inj h1⟩
  refine ⟨fun i j x y hi hj hxy => ?_, fun k q hk => ?_⟩
  · obtain ⟨x0, h1, h2⟩ := key i x hi
    obtain ⟨y0, h3, h4⟩ := key j y hj
    exact hD.1 i j x0 y0 h1 h3 (h2.trans (hxy.trans h4.symm))
  · obtain ⟨q0, h1, h2⟩ := key k q hk
    rw [← h2]
    exact hD.2 k q0 h1
theorem zw_fst (cT ad : Nat → Nat) (L : List Dsc) (σ σ' : Sg) : (zw cT ad L σ').map (·.1) = (zw cT ad L σ).map (·.1) := by
  apply List.ext_getElem?
  intro i
  simp only [zw, List.getElem?_map, List.getElem?_mapIdx]
  cases L[i]? <;> rfl
theorem zP_left {D : va_G} {cl : List vw_C} {w X : va_W} {H : Heap} (h : va_P D cl (w ++ X) H) : va_P D cl w H := fun k q hk => h k q (by rw [List.getElem?_append_left (List.getElem?_eq_some_iff.mp hk).1]; exact hk)
theorem zD_left {A : Nat → Prop} {w X : va_W} (h : va_D A (w ++ X)) : va_D A w := ⟨fun i j p q hi hj e => h.1 i j p q (by rw [List.getElem?_append_left (List.getElem?_eq_some_iff.mp hi).1]; exact hi) (by rw [List.getElem?_append_left (List.getElem?_eq_some_iff.mp hj).1]; exact hj) e, fun k q hk => h.2 k q (by rw [List.getElem?_append_left (List.getElem?_eq_some_iff.mp hk).1]; exact hk)⟩
/-- what a callee over the layout may change is of the caller's own cells -/
theorem zfree {D : va_G} {cT ad : Nat → Nat} {L : List Dsc} {X : va_W} {A : Nat → Prop} {s : State} {σ : Sg} {H : Heap} {locs : List Loc} (w : zW D cT ad L X A s σ H locs) : ∀ q, zA ad L.length H.size q → A q := by
  intro q hq
  rcases hq with ⟨k, hk, rfl⟩ | hq
  · have h1 := zw_get (cT := cT) (ad := ad) (σ := σ) X (List.getElem?_eq_getElem hk)
    exact w.2.2.2.1.2 k _ h1
  · exact w.1 q (Nat.le_trans w.2.2.2.2.1 hq)
/-- the world behind a call: the layout's cells anew, the further ones as they were -/
theorem zjoin {D : va_G} {cT ad : Nat → Nat} {L : List Dsc} {X : va_W} {A A1 : Nat → Prop} {s t : State} {σ σ' : Sg} {H H1 : Heap} {locs locs1 : List Loc} (w : zW D cT ad L X A s σ H locs) (ht : t.heap = H1) (hB : zB D cT ad L A1 σ' t)
    (hk : ∀ q : Nat, q < H.size → ¬ zA ad L.length H.size q → H1[q]? = H[q]?) (hS : va_S A s.heap H1 locs1) : zW D cT ad L X A s σ' H1 locs1 := by
  obtain ⟨hA, hK, hP, hD, -⟩ := w
  have hP1 : va_P D vwCl (zw cT ad L σ') H1 := by rw [← ht]; exact hB.1
  refine ⟨hA, hK, hP1.app (fun k q hq => ?_), zD_same (by rw [List.map_append, List.map_append, zw_fst cT ad L σ σ']) hD, hS⟩
  have hq2 : (zw cT ad L σ ++ X)[(zw cT ad L σ).length + k]? = some q := by rw [List.getElem?_append_right (by omega)]; simpa using hq
  have hlt := (hP _ q hq2).lt
  refine (hP _ q hq2).kept (hk q.1 hlt ?_)
  rintro (⟨j, hj, e⟩ | h)
  · have h1 := zw_get (cT := cT) (ad := ad) (σ := σ) X (List.getElem?_eq_getElem hj)
    have h2 := hD.1 _ _ q _ hq2 h1 e
    rw [zw_len] at h2
    omega
  · omega
theorem zcats (ad : Nat → Nat) (st : List Value) : ((st.map (zv ad)).map fun v => v.category).sum = (st.map fun v => v.category).sum := by
  rw [List.map_map, show ((fun v : Value => v.category) ∘ zv ad) = (fun v => v.category) from funext (zv_cat ad)]
/-- what is said of a callee once: its words, its class, how many parameters -/
def zCal (y : MethodName) (bytes : ByteArray) (maxL : Nat) (ret : Option FieldType) (n : Nat) : Prop := Cond.code y bytes maxL ret ∈ zAll ∧ Cond.initialized y.cls ∈ zAll ∧ y.cls ≠ "java/lang/invoke/MethodHandle" ∧ y.cls ≠ "java/lang/invoke/VarHandle" ∧ (parseMethodDescriptor y.desc).map (fun d => d.parameters.length) = some n
/-- an instance method's -/
def zCaV (C : String) (y : MethodName) : Prop := Cond.instanceMethod y ∈ zAll ∧ Cond.selects C y y ∈ zAll
theorem zpre_blind {D : va_G} {cT ad : Nat → Nat} {L : List Dsc} {sz : Nat} {as : List Value} {σ : Sg} : FrameBlind (zPc D cT ad L sz as σ) := by
  intro a U g mk q
  obtain ⟨q0, q1, qP, qK, qD⟩ := q
  exact ⟨q0, q1, qP, va_K.moved (u := U) (U := U.calling g mk a) (Vm.Alike.refl U.vm) qK, qD⟩
theorem zpre_of {D : va_G} {cT ad : Nat → Nat} {L : List Dsc} {X : va_W} {A : Nat → Prop} {s U : State} {σ : Sg} {H : Heap} {locs : List Loc} (as : List Value) (w : zW D cT ad L X A s σ H locs) (hU : U.heap = H) (hW : s.WarmedH U.vm) : zPc D cT ad L H.size as σ (as.map (zv ad)).toArray U :=
  ⟨rfl, by rw [hU], by rw [hU]; exact zP_left w.2.2.1, va_K.moved hW.alike w.2.1, (zD_left w.2.2.2.1).weaken (fun _ _ _ _ => trivial)⟩
theorem zwords {y : MethodName} {bytes : ByteArray} {maxL n : Nat} {ret : Option FieldType} (hc : zCal y bytes maxL ret n) : ∀ w ∈ Cond.code y bytes maxL ret :: zAll, w ∈ zAll := fun w h => (List.mem_cons.mp h).elim (fun e => by rw [e]; exact hc.1) id
end
section
/-! CALLS over the int memory -/
section CALLS
variable {TB : Code → Prop} {l : Launch} {R : Room} {own : String} {cc : ByteArray} {nL : Nat} {ret : Option FieldType} {D : va_G} {cT ad : Nat → Nat} {L : List Dsc} {A : Nat → Prop} {Z : List Frame → Array Value → State → State → Prop} {X : va_W} {pc : Nat} {ls : List (Nat × Value)} {σ : Sg} {k n : Nat}
variable {y : MethodName} {bytes : ByteArray} {maxL h index b ci : Nat} {as rest : List Value}
theorem wm_callVi {ty : FieldType} {post : Int32 → Sg → Prop} {C : String} {T : u_T} {N : Nat} {fs : List (Option Nat)} (q : Nat) (hq : pc + 3 = q) (d : decode cc pc = .ok (.invokevirtual index, 3)) (hM : cMi l y bytes maxL ty h L (.ref b :: as) σ post) (hc : zCal y bytes maxL (some ty) as.length) (hv : zCaV C y) (hC : y.cls = C) (hl9 : Cond.methodLink own index y ∈ zAll) (hL : L[b]? = some (.inr (.inr (ci, fs)))) (hci : vwCl[ci]? = some (C, T, N)) (hR : h + 1 ≤ R.frames ∧ 8 + (maxL + 11) + 36 * h ≤ R.locals) (hcat : (rest.map fun v => v.category).sum ≤ 8) (hk : k ≤ R.cells ∧ n ≤ R.slots) (kk : ∀ (r : Int32) (σ1 : Sg), post r σ1 → Wm TB l R own cc nL ret D cT ad L A Z X q ls (.int r :: rest) σ1 k n) : Wm TB l R own cc nL ret D cT ad L A Z X pc ls (as.reverse ++ .ref b :: rest) σ k n := by
  subst hq
  intro p e s m args below meth c H locs la CC w hl
  obtain ⟨hx, hb, hml, hown, hts, hr, hlk, hTB⟩ := id CC
  have hG : GoodIn zAll (wsV own index C y (Cond.code y bytes maxL (some ty) :: zAll)) := zGoodIn (fun w9 h9 => by
    rcases List.mem_append.mp h9 with h9 | h9
    · simp only [List.mem_cons, List.not_mem_nil, or_false] at h9
      rcases h9 with rfl | rfl | rfl | rfl
      · exact hl9
      · exact hv.1
      · exact hv.2
      · rw [← hC]; exact hc.2.1
    · exact zwords hc w9 h9)
  refine va_calli (va_runV (As := as.map (zv ad)) (rest := rest.map (zv ad)) ⟨hx, hb, hml, hown, hts⟩ (hM D cT ad H.size) (cwV as.length hts hG rfl rfl rfl ⟨hC, hc.2.2.1, hc.2.2.2.1, hc.2.2.2.2⟩ hR) ⟨zpre_blind, va_recv w.2.1 w.2.2.1 hci (zw_get X hL), fun U hU hW => zpre_of (.ref b :: as) w hU hW⟩ rfl (by simp) hl.1 (by simp [zv]) (lv_room (by rw [zcats]; exact hcat)) d hk) w.2.2.2.2 (fun q _ h => zfree w q h) (zfree w) (fun r σ1 t H1 locs1 ht hvm hw hB hz1 hk1 hS => ?_)
  exact kk r σ1 hw p e s m args below meth c H1 locs1 la CC (zjoin w ht hB hk1 hS) hl

theorem wm_callSi {ty : FieldType} {post : Int32 → Sg → Prop} (q : Nat) (hq : pc + 3 = q) (d : decode cc pc = .ok (.invokestatic index, 3)) (hM : cMi l y bytes maxL ty h L as σ post) (hc : zCal y bytes maxL (some ty) as.length) (hs : Cond.static y ∈ zAll) (hl9 : Cond.methodLink own index y ∈ zAll) (hR : h + 1 ≤ R.frames ∧ 8 + (maxL + 11) + 36 * h ≤ R.locals) (hcat : (rest.map fun v => v.category).sum ≤ 8) (hk : k ≤ R.cells ∧ n ≤ R.slots) (kk : ∀ (r : Int32) (σ1 : Sg), post r σ1 → Wm TB l R own cc nL ret D cT ad L A Z X q ls (.int r :: rest) σ1 k n) : Wm TB l R own cc nL ret D cT ad L A Z X pc ls (as.reverse ++ rest) σ k n := by
  subst hq
  intro p e s m args below meth c H locs la CC w hl
  obtain ⟨hx, hb, hml, hown, hts, hr, hlk, hTB⟩ := id CC
  have hG : GoodIn zAll (va_wsS own index y (Cond.code y bytes maxL (some ty) :: zAll)) := zGoodIn (fun w9 h9 => by
    rcases List.mem_append.mp h9 with h9 | h9
    · simp only [List.mem_cons, List.not_mem_nil, or_false] at h9
      rcases h9 with rfl | rfl | rfl
      · exact hl9
      · exact hs
      · exact hc.2.1
    · exact zwords hc w9 h9)
  refine va_calli (va_runS (As := as.map (zv ad)) (rest := rest.map (zv ad)) ⟨hx, hb, hml, hown, hts⟩ (hM D cT ad H.size) (va_cwS as.length hts hG rfl rfl rfl ⟨hc.2.2.1, hc.2.2.2.1, hc.2.2.2.2⟩ hR) ⟨zpre_blind, fun U hU hW => zpre_of as w hU hW⟩ rfl (by simp) hl.1 (by simp) (lv_room (by rw [zcats]; exact hcat)) d hk) w.2.2.2.2 (fun q _ h => zfree w q h) (zfree w) (fun r σ1 t H1 locs1 ht hvm hw hB hz1 hk1 hS => ?_)
  exact kk r σ1 hw p e s m args below meth c H1 locs1 la CC (zjoin w ht hB hk1 hS) hl

theorem wm_callUi {ty : FieldType} {post : Int32 → Sg → Prop} {x : MethodName} {C : String} {T : u_T} {N : Nat} {fs : List (Option Nat)} (q : Nat) (hq : pc + 3 = q) (d : decode cc pc = .ok (.invokevirtual index, 3)) (hM : cMi l y bytes maxL ty h L (.ref b :: as) σ post) (hc : zCal y bytes maxL (some ty) as.length) (hyx : y = ⟨y.cls, x.name, x.desc⟩) (hi : Cond.instanceMethod y ∈ zAll) (hse : Cond.selects C x y ∈ zAll) (hsm : Cond.sameMethod x.cls y.cls x.name x.desc ∈ zAll) (hl9 : Cond.methodLink own index x ∈ zAll) (hL : L[b]? = some (.inr (.inr (ci, fs)))) (hci : vwCl[ci]? = some (C, T, N)) (hR : h + 1 ≤ R.frames ∧ 8 + (maxL + 11) + 36 * h ≤ R.locals) (hcat : (rest.map fun v => v.category).sum ≤ 8) (hk : k ≤ R.cells ∧ n ≤ R.slots) (kk : ∀ (r : Int32) (σ1 : Sg), post r σ1 → Wm TB l R own cc nL ret D cT ad L A Z X q ls (.int r :: rest) σ1 k n) : Wm TB l R own cc nL ret D cT ad L A Z X pc ls (as.reverse ++ .ref b :: rest) σ k n := by
  subst hq
  intro p e s m args below meth c H locs la CC w hl
  obtain ⟨hx, hb, hml, hown, hts, hr, hlk, hTB⟩ := id CC
  have hG : GoodIn zAll (va_wsU own index C y.cls x y (Cond.code y bytes maxL (some ty) :: zAll)) := zGoodIn (fun w9 h9 => by
    rcases List.mem_append.mp h9 with h9 | h9
    · simp only [List.mem_cons, List.not_mem_nil, or_false] at h9
      rcases h9 with rfl | rfl | rfl | rfl | rfl
      · exact hl9
      · exact hsm
      · exact hse
      · exact hi
      · exact hc.2.1
    · exact zwords hc w9 h9)
  have hds : (parseMethodDescriptor x.desc).map (fun d => d.parameters.length) = some as.length := by
    have h0 := hc.2.2.2.2
    rw [hyx] at h0
    exact h0
  refine va_calli (va_runU (owner := y.cls) (x := x) (As := as.map (zv ad)) (rest := rest.map (zv ad)) ⟨hx, hb, hml, hown, hts⟩ (hM D cT ad H.size) (va_cwU as.length hts hG rfl rfl rfl hyx ⟨hc.2.2.1, hc.2.2.2.1, hds⟩ hR) ⟨zpre_blind, va_recv w.2.1 w.2.2.1 hci (zw_get X hL), fun U hU hW => zpre_of (.ref b :: as) w hU hW⟩ rfl (by simp) hl.1 (by simp [zv]) (lv_room (by rw [zcats]; exact hcat)) d hk) w.2.2.2.2 (fun q _ h => zfree w q h) (zfree w) (fun r σ1 t H1 locs1 ht hvm hw hB hz1 hk1 hS => ?_)
  exact kk r σ1 hw p e s m args below meth c H1 locs1 la CC (zjoin w ht hB hk1 hS) hl

theorem wm_callVl  {post : Int64 → Sg → Prop} {C : String} {T : u_T} {N : Nat} {fs : List (Option Nat)} (q : Nat) (hq : pc + 3 = q) (d : decode cc pc = .ok (.invokevirtual index, 3)) (hM : cMl l y bytes maxL h L (.ref b :: as) σ post) (hc : zCal y bytes maxL (some .long) as.length) (hv : zCaV C y) (hC : y.cls = C) (hl9 : Cond.methodLink own index y ∈ zAll) (hL : L[b]? = some (.inr (.inr (ci, fs)))) (hci : vwCl[ci]? = some (C, T, N)) (hR : h + 1 ≤ R.frames ∧ 8 + (maxL + 11) + 36 * h ≤ R.locals) (hcat : (rest.map fun v => v.category).sum ≤ 8) (hk : k ≤ R.cells ∧ n ≤ R.slots) (kk : ∀ (r : Int64) (σ1 : Sg), post r σ1 → Wm TB l R own cc nL ret D cT ad L A Z X q ls (.long r :: rest) σ1 k n) : Wm TB l R own cc nL ret D cT ad L A Z X pc ls (as.reverse ++ .ref b :: rest) σ k n := by
  subst hq
  intro p e s m args below meth c H locs la CC w hl
  obtain ⟨hx, hb, hml, hown, hts, hr, hlk, hTB⟩ := id CC
  have hG : GoodIn zAll (wsV own index C y (Cond.code y bytes maxL (some .long) :: zAll)) := zGoodIn (fun w9 h9 => by
    rcases List.mem_append.mp h9 with h9 | h9
    · simp only [List.mem_cons, List.not_mem_nil, or_false] at h9
      rcases h9 with rfl | rfl | rfl | rfl
      · exact hl9
      · exact hv.1
      · exact hv.2
      · rw [← hC]; exact hc.2.1
    · exact zwords hc w9 h9)
  refine va_calll (va_runV (As := as.map (zv ad)) (rest := rest.map (zv ad)) ⟨hx, hb, hml, hown, hts⟩ (hM D cT ad H.size) (cwV as.length hts hG rfl rfl rfl ⟨hC, hc.2.2.1, hc.2.2.2.1, hc.2.2.2.2⟩ hR) ⟨zpre_blind, va_recv w.2.1 w.2.2.1 hci (zw_get X hL), fun U hU hW => zpre_of (.ref b :: as) w hU hW⟩ rfl (by simp) hl.1 (by simp [zv]) (lv_room (by rw [zcats]; exact hcat)) d hk) w.2.2.2.2 (fun q _ h => zfree w q h) (zfree w) (fun r σ1 t H1 locs1 ht hvm hw hB hz1 hk1 hS => ?_)
  exact kk r σ1 hw p e s m args below meth c H1 locs1 la CC (zjoin w ht hB hk1 hS) hl

theorem wm_callSl  {post : Int64 → Sg → Prop} (q : Nat) (hq : pc + 3 = q) (d : decode cc pc = .ok (.invokestatic index, 3)) (hM : cMl l y bytes maxL h L as σ post) (hc : zCal y bytes maxL (some .long) as.length) (hs : Cond.static y ∈ zAll) (hl9 : Cond.methodLink own index y ∈ zAll) (hR : h + 1 ≤ R.frames ∧ 8 + (maxL + 11) + 36 * h ≤ R.locals) (hcat : (rest.map fun v => v.category).sum ≤ 8) (hk : k ≤ R.cells ∧ n ≤ R.slots) (kk : ∀ (r : Int64) (σ1 : Sg), post r σ1 → Wm TB l R own cc nL ret D cT ad L A Z X q ls (.long r :: rest) σ1 k n) : Wm TB l R own cc nL ret D cT ad L A Z X pc ls (as.reverse ++ rest) σ k n := by
  subst hq
  intro p e s m args below meth c H locs la CC w hl
  obtain ⟨hx, hb, hml, hown, hts, hr, hlk, hTB⟩ := id CC
  have hG : GoodIn zAll (va_wsS own index y (Cond.code y bytes maxL (some .long) :: zAll)) := zGoodIn (fun w9 h9 => by
    rcases List.mem_append.mp h9 with h9 | h9
    · simp only [List.mem_cons, List.not_mem_nil, or_false] at h9
      rcases h9 with rfl | rfl | rfl
      · exact hl9
      · exact hs
      · exact hc.2.1
    · exact zwords hc w9 h9)
  refine va_calll (va_runS (As := as.map (zv ad)) (rest := rest.map (zv ad)) ⟨hx, hb, hml, hown, hts⟩ (hM D cT ad H.size) (va_cwS as.length hts hG rfl rfl rfl ⟨hc.2.2.1, hc.2.2.2.1, hc.2.2.2.2⟩ hR) ⟨zpre_blind, fun U hU hW => zpre_of as w hU hW⟩ rfl (by simp) hl.1 (by simp) (lv_room (by rw [zcats]; exact hcat)) d hk) w.2.2.2.2 (fun q _ h => zfree w q h) (zfree w) (fun r σ1 t H1 locs1 ht hvm hw hB hz1 hk1 hS => ?_)
  exact kk r σ1 hw p e s m args below meth c H1 locs1 la CC (zjoin w ht hB hk1 hS) hl

theorem wm_callUl  {post : Int64 → Sg → Prop} {x : MethodName} {C : String} {T : u_T} {N : Nat} {fs : List (Option Nat)} (q : Nat) (hq : pc + 3 = q) (d : decode cc pc = .ok (.invokevirtual index, 3)) (hM : cMl l y bytes maxL h L (.ref b :: as) σ post) (hc : zCal y bytes maxL (some .long) as.length) (hyx : y = ⟨y.cls, x.name, x.desc⟩) (hi : Cond.instanceMethod y ∈ zAll) (hse : Cond.selects C x y ∈ zAll) (hsm : Cond.sameMethod x.cls y.cls x.name x.desc ∈ zAll) (hl9 : Cond.methodLink own index x ∈ zAll) (hL : L[b]? = some (.inr (.inr (ci, fs)))) (hci : vwCl[ci]? = some (C, T, N)) (hR : h + 1 ≤ R.frames ∧ 8 + (maxL + 11) + 36 * h ≤ R.locals) (hcat : (rest.map fun v => v.category).sum ≤ 8) (hk : k ≤ R.cells ∧ n ≤ R.slots) (kk : ∀ (r : Int64) (σ1 : Sg), post r σ1 → Wm TB l R own cc nL ret D cT ad L A Z X q ls (.long r :: rest) σ1 k n) : Wm TB l R own cc nL ret D cT ad L A Z X pc ls (as.reverse ++ .ref b :: rest) σ k n := by
  subst hq
  intro p e s m args below meth c H locs la CC w hl
  obtain ⟨hx, hb, hml, hown, hts, hr, hlk, hTB⟩ := id CC
  have hG : GoodIn zAll (va_wsU own index C y.cls x y (Cond.code y bytes maxL (some .long) :: zAll)) := zGoodIn (fun w9 h9 => by
    rcases List.mem_append.mp h9 with h9 | h9
    · simp only [List.mem_cons, List.not_mem_nil, or_false] at h9
      rcases h9 with rfl | rfl | rfl | rfl | rfl
      · exact hl9
      · exact hsm
      · exact hse
      · exact hi
      · exact hc.2.1
    · exact zwords hc w9 h9)
  have hds : (parseMethodDescriptor x.desc).map (fun d => d.parameters.length) = some as.length := by
    have h0 := hc.2.2.2.2
    rw [hyx] at h0
    exact h0
  refine va_calll (va_runU (owner := y.cls) (x := x) (As := as.map (zv ad)) (rest := rest.map (zv ad)) ⟨hx, hb, hml, hown, hts⟩ (hM D cT ad H.size) (va_cwU as.length hts hG rfl rfl rfl hyx ⟨hc.2.2.1, hc.2.2.2.1, hds⟩ hR) ⟨zpre_blind, va_recv w.2.1 w.2.2.1 hci (zw_get X hL), fun U hU hW => zpre_of (.ref b :: as) w hU hW⟩ rfl (by simp) hl.1 (by simp [zv]) (lv_room (by rw [zcats]; exact hcat)) d hk) w.2.2.2.2 (fun q _ h => zfree w q h) (zfree w) (fun r σ1 t H1 locs1 ht hvm hw hB hz1 hk1 hS => ?_)
  exact kk r σ1 hw p e s m args below meth c H1 locs1 la CC (zjoin w ht hB hk1 hS) hl

theorem wm_callVf  {post : UInt32 → Sg → Prop} {C : String} {T : u_T} {N : Nat} {fs : List (Option Nat)} (q : Nat) (hq : pc + 3 = q) (d : decode cc pc = .ok (.invokevirtual index, 3)) (hM : cMf l y bytes maxL h L (.ref b :: as) σ post) (hc : zCal y bytes maxL (some .float) as.length) (hv : zCaV C y) (hC : y.cls = C) (hl9 : Cond.methodLink own index y ∈ zAll) (hL : L[b]? = some (.inr (.inr (ci, fs)))) (hci : vwCl[ci]? = some (C, T, N)) (hR : h + 1 ≤ R.frames ∧ 8 + (maxL + 11) + 36 * h ≤ R.locals) (hcat : (rest.map fun v => v.category).sum ≤ 8) (hk : k ≤ R.cells ∧ n ≤ R.slots) (kk : ∀ (r : UInt32) (σ1 : Sg), post r σ1 → Wm TB l R own cc nL ret D cT ad L A Z X q ls (.float r :: rest) σ1 k n) : Wm TB l R own cc nL ret D cT ad L A Z X pc ls (as.reverse ++ .ref b :: rest) σ k n := by
  subst hq
  intro p e s m args below meth c H locs la CC w hl
  obtain ⟨hx, hb, hml, hown, hts, hr, hlk, hTB⟩ := id CC
  have hG : GoodIn zAll (wsV own index C y (Cond.code y bytes maxL (some .float) :: zAll)) := zGoodIn (fun w9 h9 => by
    rcases List.mem_append.mp h9 with h9 | h9
    · simp only [List.mem_cons, List.not_mem_nil, or_false] at h9
      rcases h9 with rfl | rfl | rfl | rfl
      · exact hl9
      · exact hv.1
      · exact hv.2
      · rw [← hC]; exact hc.2.1
    · exact zwords hc w9 h9)
  refine va_callf (va_runV (As := as.map (zv ad)) (rest := rest.map (zv ad)) ⟨hx, hb, hml, hown, hts⟩ (hM D cT ad H.size) (cwV as.length hts hG rfl rfl rfl ⟨hC, hc.2.2.1, hc.2.2.2.1, hc.2.2.2.2⟩ hR) ⟨zpre_blind, va_recv w.2.1 w.2.2.1 hci (zw_get X hL), fun U hU hW => zpre_of (.ref b :: as) w hU hW⟩ rfl (by simp) hl.1 (by simp [zv]) (lv_room (by rw [zcats]; exact hcat)) d hk) w.2.2.2.2 (fun q _ h => zfree w q h) (zfree w) (fun r σ1 t H1 locs1 ht hvm hw hB hz1 hk1 hS => ?_)
  exact kk r σ1 hw p e s m args below meth c H1 locs1 la CC (zjoin w ht hB hk1 hS) hl

theorem wm_callSf  {post : UInt32 → Sg → Prop} (q : Nat) (hq : pc + 3 = q) (d : decode cc pc = .ok (.invokestatic index, 3)) (hM : cMf l y bytes maxL h L as σ post) (hc : zCal y bytes maxL (some .float) as.length) (hs : Cond.static y ∈ zAll) (hl9 : Cond.methodLink own index y ∈ zAll) (hR : h + 1 ≤ R.frames ∧ 8 + (maxL + 11) + 36 * h ≤ R.locals) (hcat : (rest.map fun v => v.category).sum ≤ 8) (hk : k ≤ R.cells ∧ n ≤ R.slots) (kk : ∀ (r : UInt32) (σ1 : Sg), post r σ1 → Wm TB l R own cc nL ret D cT ad L A Z X q ls (.float r :: rest) σ1 k n) : Wm TB l R own cc nL ret D cT ad L A Z X pc ls (as.reverse ++ rest) σ k n := by
  subst hq
  intro p e s m args below meth c H locs la CC w hl
  obtain ⟨hx, hb, hml, hown, hts, hr, hlk, hTB⟩ := id CC
  have hG : GoodIn zAll (va_wsS own index y (Cond.code y bytes maxL (some .float) :: zAll)) := zGoodIn (fun w9 h9 => by
    rcases List.mem_append.mp h9 with h9 | h9
    · simp only [List.mem_cons, List.not_mem_nil, or_false] at h9
      rcases h9 with rfl | rfl | rfl
      · exact hl9
      · exact hs
      · exact hc.2.1
    · exact zwords hc w9 h9)
  refine va_callf (va_runS (As := as.map (zv ad)) (rest := rest.map (zv ad)) ⟨hx, hb, hml, hown, hts⟩ (hM D cT ad H.size) (va_cwS as.length hts hG rfl rfl rfl ⟨hc.2.2.1, hc.2.2.2.1, hc.2.2.2.2⟩ hR) ⟨zpre_blind, fun U hU hW => zpre_of as w hU hW⟩ rfl (by simp) hl.1 (by simp) (lv_room (by rw [zcats]; exact hcat)) d hk) w.2.2.2.2 (fun q _ h => zfree w q h) (zfree w) (fun r σ1 t H1 locs1 ht hvm hw hB hz1 hk1 hS => ?_)
  exact kk r σ1 hw p e s m args below meth c H1 locs1 la CC (zjoin w ht hB hk1 hS) hl

theorem wm_callUf  {post : UInt32 → Sg → Prop} {x : MethodName} {C : String} {T : u_T} {N : Nat} {fs : List (Option Nat)} (q : Nat) (hq : pc + 3 = q) (d : decode cc pc = .ok (.invokevirtual index, 3)) (hM : cMf l y bytes maxL h L (.ref b :: as) σ post) (hc : zCal y bytes maxL (some .float) as.length) (hyx : y = ⟨y.cls, x.name, x.desc⟩) (hi : Cond.instanceMethod y ∈ zAll) (hse : Cond.selects C x y ∈ zAll) (hsm : Cond.sameMethod x.cls y.cls x.name x.desc ∈ zAll) (hl9 : Cond.methodLink own index x ∈ zAll) (hL : L[b]? = some (.inr (.inr (ci, fs)))) (hci : vwCl[ci]? = some (C, T, N)) (hR : h + 1 ≤ R.frames ∧ 8 + (maxL + 11) + 36 * h ≤ R.locals) (hcat : (rest.map fun v => v.category).sum ≤ 8) (hk : k ≤ R.cells ∧ n ≤ R.slots) (kk : ∀ (r : UInt32) (σ1 : Sg), post r σ1 → Wm TB l R own cc nL ret D cT ad L A Z X q ls (.float r :: rest) σ1 k n) : Wm TB l R own cc nL ret D cT ad L A Z X pc ls (as.reverse ++ .ref b :: rest) σ k n := by
  subst hq
  intro p e s m args below meth c H locs la CC w hl
  obtain ⟨hx, hb, hml, hown, hts, hr, hlk, hTB⟩ := id CC
  have hG : GoodIn zAll (va_wsU own index C y.cls x y (Cond.code y bytes maxL (some .float) :: zAll)) := zGoodIn (fun w9 h9 => by
    rcases List.mem_append.mp h9 with h9 | h9
    · simp only [List.mem_cons, List.not_mem_nil, or_false] at h9
      rcases h9 with rfl | rfl | rfl | rfl | rfl
      · exact hl9
      · exact hsm
      · exact hse
      · exact hi
      · exact hc.2.1
    · exact zwords hc w9 h9)
  have hds : (parseMethodDescriptor x.desc).map (fun d => d.parameters.length) = some as.length := by
    have h0 := hc.2.2.2.2
    rw [hyx] at h0
    exact h0
  refine va_callf (va_runU (owner := y.cls) (x := x) (As := as.map (zv ad)) (rest := rest.map (zv ad)) ⟨hx, hb, hml, hown, hts⟩ (hM D cT ad H.size) (va_cwU as.length hts hG rfl rfl rfl hyx ⟨hc.2.2.1, hc.2.2.2.1, hds⟩ hR) ⟨zpre_blind, va_recv w.2.1 w.2.2.1 hci (zw_get X hL), fun U hU hW => zpre_of (.ref b :: as) w hU hW⟩ rfl (by simp) hl.1 (by simp [zv]) (lv_room (by rw [zcats]; exact hcat)) d hk) w.2.2.2.2 (fun q _ h => zfree w q h) (zfree w) (fun r σ1 t H1 locs1 ht hvm hw hB hz1 hk1 hS => ?_)
  exact kk r σ1 hw p e s m args below meth c H1 locs1 la CC (zjoin w ht hB hk1 hS) hl

theorem wm_callVv  {post : Sg → Prop} {C : String} {T : u_T} {N : Nat} {fs : List (Option Nat)} (q : Nat) (hq : pc + 3 = q) (d : decode cc pc = .ok (.invokevirtual index, 3)) (hM : cMv l y bytes maxL h L (.ref b :: as) σ post) (hc : zCal y bytes maxL none as.length) (hv : zCaV C y) (hC : y.cls = C) (hl9 : Cond.methodLink own index y ∈ zAll) (hL : L[b]? = some (.inr (.inr (ci, fs)))) (hci : vwCl[ci]? = some (C, T, N)) (hR : h + 1 ≤ R.frames ∧ 8 + (maxL + 11) + 36 * h ≤ R.locals) (hcat : (rest.map fun v => v.category).sum ≤ 8) (hk : k ≤ R.cells ∧ n ≤ R.slots) (kk : ∀ (σ1 : Sg), post σ1 → Wm TB l R own cc nL ret D cT ad L A Z X q ls (rest) σ1 k n) : Wm TB l R own cc nL ret D cT ad L A Z X pc ls (as.reverse ++ .ref b :: rest) σ k n := by
  subst hq
  intro p e s m args below meth c H locs la CC w hl
  obtain ⟨hx, hb, hml, hown, hts, hr, hlk, hTB⟩ := id CC
  have hG : GoodIn zAll (wsV own index C y (Cond.code y bytes maxL none :: zAll)) := zGoodIn (fun w9 h9 => by
    rcases List.mem_append.mp h9 with h9 | h9
    · simp only [List.mem_cons, List.not_mem_nil, or_false] at h9
      rcases h9 with rfl | rfl | rfl | rfl
      · exact hl9
      · exact hv.1
      · exact hv.2
      · rw [← hC]; exact hc.2.1
    · exact zwords hc w9 h9)
  refine va_callv (va_runV (As := as.map (zv ad)) (rest := rest.map (zv ad)) ⟨hx, hb, hml, hown, hts⟩ (hM D cT ad H.size) (cwV as.length hts hG rfl rfl rfl ⟨hC, hc.2.2.1, hc.2.2.2.1, hc.2.2.2.2⟩ hR) ⟨zpre_blind, va_recv w.2.1 w.2.2.1 hci (zw_get X hL), fun U hU hW => zpre_of (.ref b :: as) w hU hW⟩ rfl (by simp) hl.1 (by simp [zv]) (lv_room (by rw [zcats]; exact hcat)) d hk) w.2.2.2.2 (fun q _ h => zfree w q h) (zfree w) (fun σ1 t H1 locs1 ht hvm hw hB hz1 hk1 hS => ?_)
  exact kk σ1 hw p e s m args below meth c H1 locs1 la CC (zjoin w ht hB hk1 hS) hl

theorem wm_callSv  {post : Sg → Prop} (q : Nat) (hq : pc + 3 = q) (d : decode cc pc = .ok (.invokestatic index, 3)) (hM : cMv l y bytes maxL h L as σ post) (hc : zCal y bytes maxL none as.length) (hs : Cond.static y ∈ zAll) (hl9 : Cond.methodLink own index y ∈ zAll) (hR : h + 1 ≤ R.frames ∧ 8 + (maxL + 11) + 36 * h ≤ R.locals) (hcat : (rest.map fun v => v.category).sum ≤ 8) (hk : k ≤ R.cells ∧ n ≤ R.slots) (kk : ∀ (σ1 : Sg), post σ1 → Wm TB l R own cc nL ret D cT ad L A Z X q ls (rest) σ1 k n) : Wm TB l R own cc nL ret D cT ad L A Z X pc ls (as.reverse ++ rest) σ k n := by
  subst hq
  intro p e s m args below meth c H locs la CC w hl
  obtain ⟨hx, hb, hml, hown, hts, hr, hlk, hTB⟩ := id CC
  have hG : GoodIn zAll (va_wsS own index y (Cond.code y bytes maxL none :: zAll)) := zGoodIn (fun w9 h9 => by
    rcases List.mem_append.mp h9 with h9 | h9
    · simp only [List.mem_cons, List.not_mem_nil, or_false] at h9
      rcases h9 with rfl | rfl | rfl
      · exact hl9
      · exact hs
      · exact hc.2.1
    · exact zwords hc w9 h9)
  refine va_callv (va_runS (As := as.map (zv ad)) (rest := rest.map (zv ad)) ⟨hx, hb, hml, hown, hts⟩ (hM D cT ad H.size) (va_cwS as.length hts hG rfl rfl rfl ⟨hc.2.2.1, hc.2.2.2.1, hc.2.2.2.2⟩ hR) ⟨zpre_blind, fun U hU hW => zpre_of as w hU hW⟩ rfl (by simp) hl.1 (by simp) (lv_room (by rw [zcats]; exact hcat)) d hk) w.2.2.2.2 (fun q _ h => zfree w q h) (zfree w) (fun σ1 t H1 locs1 ht hvm hw hB hz1 hk1 hS => ?_)
  exact kk σ1 hw p e s m args below meth c H1 locs1 la CC (zjoin w ht hB hk1 hS) hl

theorem wm_callUv  {post : Sg → Prop} {x : MethodName} {C : String} {T : u_T} {N : Nat} {fs : List (Option Nat)} (q : Nat) (hq : pc + 3 = q) (d : decode cc pc = .ok (.invokevirtual index, 3)) (hM : cMv l y bytes maxL h L (.ref b :: as) σ post) (hc : zCal y bytes maxL none as.length) (hyx : y = ⟨y.cls, x.name, x.desc⟩) (hi : Cond.instanceMethod y ∈ zAll) (hse : Cond.selects C x y ∈ zAll) (hsm : Cond.sameMethod x.cls y.cls x.name x.desc ∈ zAll) (hl9 : Cond.methodLink own index x ∈ zAll) (hL : L[b]? = some (.inr (.inr (ci, fs)))) (hci : vwCl[ci]? = some (C, T, N)) (hR : h + 1 ≤ R.frames ∧ 8 + (maxL + 11) + 36 * h ≤ R.locals) (hcat : (rest.map fun v => v.category).sum ≤ 8) (hk : k ≤ R.cells ∧ n ≤ R.slots) (kk : ∀ (σ1 : Sg), post σ1 → Wm TB l R own cc nL ret D cT ad L A Z X q ls (rest) σ1 k n) : Wm TB l R own cc nL ret D cT ad L A Z X pc ls (as.reverse ++ .ref b :: rest) σ k n := by
  subst hq
  intro p e s m args below meth c H locs la CC w hl
  obtain ⟨hx, hb, hml, hown, hts, hr, hlk, hTB⟩ := id CC
  have hG : GoodIn zAll (va_wsU own index C y.cls x y (Cond.code y bytes maxL none :: zAll)) := zGoodIn (fun w9 h9 => by
    rcases List.mem_append.mp h9 with h9 | h9
    · simp only [List.mem_cons, List.not_mem_nil, or_false] at h9
      rcases h9 with rfl | rfl | rfl | rfl | rfl
      · exact hl9
      · exact hsm
      · exact hse
      · exact hi
      · exact hc.2.1
    · exact zwords hc w9 h9)
  have hds : (parseMethodDescriptor x.desc).map (fun d => d.parameters.length) = some as.length := by
    have h0 := hc.2.2.2.2
    rw [hyx] at h0
    exact h0
  refine va_callv (va_runU (owner := y.cls) (x := x) (As := as.map (zv ad)) (rest := rest.map (zv ad)) ⟨hx, hb, hml, hown, hts⟩ (hM D cT ad H.size) (va_cwU as.length hts hG rfl rfl rfl hyx ⟨hc.2.2.1, hc.2.2.2.1, hds⟩ hR) ⟨zpre_blind, va_recv w.2.1 w.2.2.1 hci (zw_get X hL), fun U hU hW => zpre_of (.ref b :: as) w hU hW⟩ rfl (by simp) hl.1 (by simp [zv]) (lv_room (by rw [zcats]; exact hcat)) d hk) w.2.2.2.2 (fun q _ h => zfree w q h) (zfree w) (fun σ1 t H1 locs1 ht hvm hw hB hz1 hk1 hS => ?_)
  exact kk σ1 hw p e s m args below meth c H1 locs1 la CC (zjoin w ht hB hk1 hS) hl

end CALLS
end
section
/-! THE WORLDS: the class's cells (0..26), the model's (0..58); bits, booleans, counts -/
def Lc : List Dsc := [
  .inr (.inr (3, [some 1, some 15, some 21, some 14, none, none])),
  .inr (.inr (0, [some 2, some 3, some 4, some 5, some 6, some 13, none, none, none, none])),
  .inl (0, 4), .inl (0, 24), .inl (0, 24), .inr (.inl (1, 3, fun i => some (7 + i))), .inr (.inl (1, 3, fun i => some (10 + i))),
  .inl (0, 24), .inl (0, 24), .inl (0, 24), .inl (0, 24), .inl (0, 24), .inl (0, 24), .inl (0, 24), .inl (0, 24),
  .inr (.inr (1, [some 16, some 20])), .inr (.inl (1, 3, fun i => some (17 + i))), .inl (0, 24), .inl (0, 24), .inl (0, 24), .inl (0, 24),
  .inr (.inr (2, [some 22, some 26])), .inr (.inl (1, 3, fun i => some (23 + i))), .inl (0, 24), .inl (0, 24), .inl (0, 24), .inl (0, 24)]
def Lm : List Dsc := [
  .inr (.inr (4, [some 1, none, some 2, some 3, some 4, some 5, some 6, none, some 7, some 8, none, none, none, none, some 9, some 10, none, none])),
  .inl (0, 4), .inl (0, 24), .inl (0, 24), .inr (.inl (1, 24, fun i => some (11 + i))), .inr (.inl (1, 24, fun i => some (35 + i))), .inl (2, 24),
  .inl (0, 12), .inl (0, 12), .inl (0, 24), .inl (0, 24)] ++ List.replicate 48 (.inl (0, 3))
theorem Lm_row {j : Nat} (h1 : 11 ≤ j) (h2 : j < 59) : Lm[j]? = some (.inl (0, 3)) := by
  have e : j = 11 + (j - 11) := by omega
  rw [e]
  unfold Lm
  rw [List.getElem?_append_right (by simp), List.getElem?_replicate]
  simp
  omega
theorem Lc_key {k : Nat} (h : k < 3) : Lc[7 + k]? = some (.inl (0, 24)) := by
  match k, h with
  | 0, _ => rfl
  | 1, _ => rfl
  | 2, _ => rfl
theorem Lc_fact {k : Nat} (h : k < 3) : Lc[10 + k]? = some (.inl (0, 24)) := by
  match k, h with
  | 0, _ => rfl
  | 1, _ => rfl
  | 2, _ => rfl
theorem Lc_gJ {k : Nat} (h : k < 3) : Lc[17 + k]? = some (.inl (0, 24)) := by
  match k, h with
  | 0, _ => rfl
  | 1, _ => rfl
  | 2, _ => rfl
theorem Lc_gS {k : Nat} (h : k < 3) : Lc[23 + k]? = some (.inl (0, 24)) := by
  match k, h with
  | 0, _ => rfl
  | 1, _ => rfl
  | 2, _ => rfl
/-- a post that knows the answer and the memory -/
abbrev pP {α : Type} (σ : Sg) (v : α) : α → Sg → Prop := fun r σ1 => σ = σ1 ∧ v = r
theorem pP_i {α : Type} {σ : Sg} {v w : α} (h : v = w) : pP σ v w σ := ⟨rfl, h⟩
def zb (b : Bool) : Int32 := if b then 1 else 0
theorem zb_t : zb true = 1 := rfl
theorem zb_f : zb false = 0 := rfl
theorem zb_0 {b : Bool} : zb b = 0 ↔ b = false := by cases b <;> simp [zb]
theorem zb_n {b : Bool} : ¬ zb b = 0 ↔ b = true := by cases b <;> simp [zb]
theorem zb_nar {b : Bool} : narrow .boolean (.int (zb b)) = .int (zb b) := by cases b <;> rfl
theorem nI_inc (n : Nat) : nI n + Int32.ofInt 1 = nI (n + 1) := (nI_succ n).symm
theorem nI_m1 : (-1 : Int32) = Int32.ofInt (-1) := rfl
/-- the bit i -/
def tb (m : Int32) (i : Nat) : Bool := m.toBitVec.getLsbD i
theorem tb_sm : ∀ n, n < 32 → ((nI n &&& 31).toBitVec.smod 32).toNat = n := by decide +kernel
theorem tb_isIn {m : Int32} {i : Nat} (hi : i < 31) : ((m >>> (nI i &&& 31)) &&& 1 = 0) ↔ tb m i = false := by
  have h1 : (m >>> (nI i &&& 31)).toBitVec = m.toBitVec.sshiftRight i := by
    rw [Int32.toBitVec_shiftRight]
    show m.toBitVec.sshiftRight ((nI i &&& 31).toBitVec.smod 32).toNat = _
    rw [tb_sm i (by omega)]
  have h2 : ∀ x : Int32, (x &&& 1 = 0) ↔ x.toBitVec.getLsbD 0 = false := by
    intro x
    constructor
    · intro h
      have h3 : (x &&& 1).toBitVec.getLsbD 0 = false := by rw [h]; rfl
      simpa using h3
    · intro h
      apply Int32.toBitVec_inj.mp
      apply BitVec.eq_of_getLsbD_eq
      intro j hj
      have h4 : (x &&& 1).toBitVec = x.toBitVec &&& 1#32 := rfl
      rw [h4]
      by_cases hj0 : j = 0
      · subst hj0
        rw [BitVec.getLsbD_and, h]
        simp
      · simp [BitVec.getLsbD_and, BitVec.getLsbD_one, hj0]
  rw [h2, h1]
  unfold tb
  rw [BitVec.getLsbD_sshiftRight]
  simp
  intro h9
  omega
theorem tb_one {i : Nat} (hi : i < 32) : ((1 : Int32) <<< (nI i &&& 31)).toBitVec = BitVec.twoPow 32 i := by
  rw [Int32.toBitVec_shiftLeft]
  show (1#32) <<< ((nI i &&& 31).toBitVec.smod 32).toNat = _
  rw [tb_sm i hi]
  rfl
theorem tb_set (m : Int32) {i : Nat} (hi : i < 32) (j : Nat) : tb (m ||| ((1 : Int32) <<< (nI i &&& 31))) j = (tb m j || decide (j = i)) := by
  unfold tb
  rw [Int32.toBitVec_or, BitVec.getLsbD_or, tb_one hi, BitVec.getLsbD_twoPow]
  by_cases h : j = i
  · subst h; simp [hi]
  · have h2 : ¬ i = j := fun e => h e.symm
    simp [h, h2]
theorem tb_clear (m : Int32) {i : Nat} (hi : i < 32) {j : Nat} (hj : j < 32) : tb (m &&& (((1 : Int32) <<< (nI i &&& 31)) ^^^ (-1))) j = (tb m j && !decide (j = i)) := by
  unfold tb
  rw [Int32.toBitVec_and, BitVec.getLsbD_and, Int32.toBitVec_xor, BitVec.getLsbD_xor, tb_one hi, BitVec.getLsbD_twoPow]
  have h1 : (-1 : Int32).toBitVec = BitVec.allOnes 32 := by decide
  rw [h1, BitVec.getLsbD_allOnes]
  by_cases h : j = i
  · subst h; simp [hi]
  · have h2 : ¬ i = j := fun e => h e.symm
    simp [h, h2, hj]
section LOC
variable {TB : Code → Prop} {l : Launch} {R : Room} {own : String} {cc : ByteArray} {nL : Nat} {ret : Option FieldType} {D : va_G} {cT ad : Nat → Nat} {L : List Dsc} {A : Nat → Prop} {Z : List Frame → Array Value → State → State → Prop} {X : va_W} {pc : Nat} {ls : List (Nat × Value)} {st : List Value} {σ : Sg} {k n : Nat}
theorem wm_loc {ls2 : List (Nat × Value)} (ks : List Nat) (h : lv_pick ls ks = ls2) (kk : Wm TB l R own cc nL ret D cT ad L A Z X pc ls2 st σ k n) : Wm TB l R own cc nL ret D cT ad L A Z X pc ls st σ k n := by
  intro p e s m args below meth c H locs la C w hl
  refine kk p e s m args below meth c H locs la C w ⟨hl.1, hl.2.1, fun q hq => ?_⟩
  obtain ⟨q0, hq0, rfl⟩ := List.mem_map.mp hq
  rw [← h] at hq0
  obtain ⟨i, -, hi⟩ := List.mem_filterMap.mp hq0
  exact hl.2.2 _ (List.mem_map.mpr ⟨q0, List.mem_of_getElem? hi, rfl⟩)
theorem wm_eq {pc' : Nat} {ls' : List (Nat × Value)} {st' : List Value} {σ' : Sg} (h1 : ls' = ls) (h2 : st' = st) (h3 : σ' = σ) (h4 : pc' = pc) (kk : Wm TB l R own cc nL ret D cT ad L A Z X pc' ls' st' σ' k n) : Wm TB l R own cc nL ret D cT ad L A Z X pc ls st σ k n := by
  subst h1; subst h2; subst h3; subst h4; exact kk
end LOC
theorem in24 {i n : Nat} (h : i < n) (hn : n ≤ 24) : vp_in (nI i) 24 := vp_in_nI (by omega) (by omega)
theorem cl24 {i : Nat} (h : i < 2 ^ 31) : (nI i).toNatClampNeg = i := nI_clamp h
/-- the answer of a boolean method that decides P -/
noncomputable def dP (P : Prop) : Bool := @decide P (Classical.propDecidable P)
noncomputable def zp (P : Prop) : Int32 := zb (dP P)
theorem dP_t {P : Prop} : dP P = true ↔ P := by unfold dP; exact @decide_eq_true_iff P (Classical.propDecidable P)
theorem zp_t {P : Prop} (h : P) : zp P = 1 := by unfold zp; rw [dP_t.mpr h]; rfl
theorem zp_f {P : Prop} (h : ¬ P) : zp P = 0 := by
  unfold zp
  cases e : dP P with
  | true => exact absurd (dP_t.mp e) h
  | false => rfl
theorem zp_0 {P : Prop} : zp P = 0 ↔ ¬ P := by
  constructor
  · intro h hp
    rw [zp_t hp] at h
    exact absurd h (by decide)
  · exact zp_f
theorem zp_n {P : Prop} : ¬ zp P = 0 ↔ P := by
  constructor
  · intro h
    exact Classical.byContradiction fun hp => h (zp_f hp)
  · intro hp h
    exact zp_0.mp h hp
theorem zp_c {P Q : Prop} (h : P ↔ Q) : zp P = zp Q := by rw [propext h]
theorem le_of_nI {a b : Nat} (h : nI a ≤ nI b) (ha : a < 2 ^ 31) (hb : b < 2 ^ 31) : a ≤ b := (nI_leI ha hb).mp h
theorem lt_of_nnI {a b : Nat} (h : ¬ nI a ≤ nI b) (ha : a < 2 ^ 31) (hb : b < 2 ^ 31) : b < a := Nat.lt_of_not_le fun q => h ((nI_leI ha hb).mpr q)
theorem eq_of_nI {a b : Nat} (h : nI a = nI b) (ha : a < 2 ^ 31) (hb : b < 2 ^ 31) : a = b := (nI_eq ha hb).mp h
theorem ne_of_nnI {a b : Nat} (h : ¬ nI a = nI b) : a ≠ b := fun e => h (by rw [e])
/-- the class's numbers: n records, all within the room -/
def cI (σ : Sg) (n : Nat) : Prop := σ 1 8 = nI n ∧ n ≤ 24
def hd (σ : Sg) (n i : Nat) : Prop := i < n ∧ tb (σ 1 6) i = true
def hdR (σ : Sg) (n : Nat) (r : Int32) : Prop := ∃ i, r = nI i ∧ hd σ n i
theorem hdR_n {σ : Sg} {n i : Nat} (hn : n ≤ 24) (hi : i < 2 ^ 31) : hdR σ n (nI i) ↔ hd σ n i := by
  constructor
  · rintro ⟨j, e, h⟩
    have hj := h.1
    have := eq_of_nI e hi (by omega)
    rw [this]; exact h
  · intro h; exact ⟨i, rfl, h⟩
/-- two records have the same key of a kind -/
def smK (σ : Sg) (n k a b : Nat) : Prop := hd σ n a ∧ hd σ n b ∧ σ (7 + k) a ≠ -1 ∧ σ (7 + k) a = σ (7 + k) b
theorem fa_nle {a b : Int32} (h : a ≤ b) (h2 : b < a) : False := by
  have h1 : a.toInt ≤ b.toInt := Int32.le_iff_toInt_le.mp h
  have h3 : b.toInt < a.toInt := Int32.lt_iff_toInt_lt.mp h2
  omega
theorem fa_nlt {a b : Int32} (h : ¬ a ≤ b) : b < a := by
  have h1 : ¬ a.toInt ≤ b.toInt := fun q => h (Int32.le_iff_toInt_le.mpr q)
  apply Int32.lt_iff_toInt_lt.mpr
  omega
theorem zp_nar {P : Prop} : narrow .boolean (.int (zp P)) = .int (zp P) := zb_nar
end
section
theorem gf_X1_36_0 : zGF RX1 36 0 8 := ⟨RX1, TX1, 10, "Assetmerge$Inventory", rfl, zin_X1, by decide, aw_6_18, Or.inl rfl⟩
theorem gf_X1_43_0 : zGF RX1 43 0 6 := ⟨RX1, TX1, 10, "Assetmerge$Inventory", rfl, zin_X1, by decide, aw_6_23, Or.inl rfl⟩
theorem ca_X1_isIn : zCal yX1_isIn cX1_isIn 2 (some .boolean) 2 := ⟨aw_8_2, aw_1_16, by decide +kernel, by decide +kernel, by decide +kernel⟩
theorem ca_X1_holds : zCal yX1_holds cX1_holds 2 (some .boolean) 1 := ⟨aw_7_23, aw_1_16, by decide +kernel, by decide +kernel, by decide +kernel⟩
theorem cv_X1_holds : zCaV RX1 yX1_holds := ⟨aw_7_21, aw_7_22⟩
theorem gf_X1_23_0 : zGF RX1 23 0 3 := ⟨RX1, TX1, 10, "Assetmerge$Inventory", rfl, zin_X1, by decide, aw_2_12, Or.inl rfl⟩
theorem ca_X1_haveSameKey : zCal yX1_haveSameKey cX1_haveSameKey 4 (some .boolean) 3 := ⟨aw_16_12, aw_1_16, by decide +kernel, by decide +kernel, by decide +kernel⟩
theorem cv_X1_haveSameKey : zCaV RX1 yX1_haveSameKey := ⟨aw_16_10, aw_16_11⟩
theorem gf_X1_32_0 : zGF RX1 32 0 7 := ⟨RX1, TX1, 10, "Assetmerge$Inventory", rfl, zin_X1, by decide, aw_4_19, Or.inl rfl⟩
theorem gf_X1_9_0 : zGF RX1 9 0 0 := ⟨RX1, TX1, 10, "Assetmerge$Inventory", rfl, zin_X1, by decide, aw_2_8, Or.inl rfl⟩
theorem pf_X1_32_0 : zPF RX1 32 0 7 := ⟨RX1, TX1, 10, "Assetmerge$Inventory", tyX1, rfl, zin_X1, by decide, aw_4_19, rfl, tyX1_ok, nmX1, rfl, by decide +kernel⟩
theorem pf_X1_43_0 : zPF RX1 43 0 6 := ⟨RX1, TX1, 10, "Assetmerge$Inventory", tyX1, rfl, zin_X1, by decide, aw_6_23, rfl, tyX1_ok, nmX1, rfl, by decide +kernel⟩
theorem pf_X1_36_0 : zPF RX1 36 0 8 := ⟨RX1, TX1, 10, "Assetmerge$Inventory", tyX1, rfl, zin_X1, by decide, aw_6_18, rfl, tyX1_ok, nmX1, rfl, by decide +kernel⟩
theorem ca_X1_unhide : zCal yX1_unhide cX1_unhide 2 none 1 := ⟨aw_6_22, aw_1_16, by decide +kernel, by decide +kernel, by decide +kernel⟩
theorem cv_X1_unhide : zCaV RX1 yX1_unhide := ⟨aw_6_20, aw_6_21⟩
theorem gf_X1_26_0 : zGF RX1 26 0 4 := ⟨RX1, TX1, 10, "Assetmerge$Inventory", rfl, zin_X1, by decide, aw_2_13, Or.inl rfl⟩
theorem gf_X1_15_0 : zGF RX1 15 0 1 := ⟨RX1, TX1, 10, "Assetmerge$Inventory", rfl, zin_X1, by decide, aw_2_9, Or.inl rfl⟩
theorem gf_X1_18_0 : zGF RX1 18 0 2 := ⟨RX1, TX1, 10, "Assetmerge$Inventory", rfl, zin_X1, by decide, aw_2_10, Or.inl rfl⟩
theorem gf_X1_29_0 : zGF RX1 29 0 5 := ⟨RX1, TX1, 10, "Assetmerge$Inventory", rfl, zin_X1, by decide, aw_2_14, Or.inl rfl⟩
theorem ca_X1_haveForbiddenPair : zCal yX1_haveForbiddenPair cX1_haveForbiddenPair 3 (some .boolean) 1 := ⟨aw_18_17, aw_1_16, by decide +kernel, by decide +kernel, by decide +kernel⟩
theorem cv_X1_haveForbiddenPair : zCaV RX1 yX1_haveForbiddenPair := ⟨aw_18_15, aw_18_16⟩
theorem ca_X1_haveTwoKeys : zCal yX1_haveTwoKeys cX1_haveTwoKeys 6 (some .boolean) 2 := ⟨aw_18_13, aw_1_16, by decide +kernel, by decide +kernel, by decide +kernel⟩
theorem cv_X1_haveTwoKeys : zCaV RX1 yX1_haveTwoKeys := ⟨aw_18_11, aw_18_12⟩
theorem ca_X1_weigh : zCal yX1_weigh cX1_weigh 3 (some .int) 2 := ⟨aw_27_2, aw_1_16, by decide +kernel, by decide +kernel, by decide +kernel⟩
theorem cv_X1_weigh : zCaV RX1 yX1_weigh := ⟨aw_27_0, aw_27_1⟩
theorem k_X1_isIn (l : Launch) {σ : Sg} (m : Int32) {i : Nat} (hi : i < 31) : cMi l yX1_isIn cX1_isIn 2 .boolean 0 Lc [.int (nI i), .int m] σ (pP σ (zp (tb m i = true))) := by
  refine zMet_of (by decide +kernel) (Nat.le_of_ble_eq_true rfl) (fun D cT ad sz => ?_)
  show Wm (fun _ => True) l (rmh 0) RX1 cX1_isIn 2 (some .boolean) D cT ad Lc (zA ad Lc.length sz) (zZ (fun D cT ad L sz => zQi D cT ad L sz (pP σ (zp (tb m i = true)))) D cT ad Lc sz) [] 0 (lv_args 0 [.int (nI i), .int m]) [] σ 0 0
  refine wm_iload_n 1 rfl dX1_isIn_0 rfl rfl ?_
  refine wm_iload_n 2 rfl dX1_isIn_1 rfl rfl ?_
  refine wm_ishr 3 rfl dX1_isIn_2 ?_
  refine wm_iconst (v := 1) 4 rfl dX1_isIn_3 (by decide) ?_
  refine wm_iand 5 rfl dX1_isIn_4 ?_
  refine wm_if_eq 12 8 rfl (by decide) dX1_isIn_5 (fun c5 => ?_) (fun c5 => ?_)
  · refine wm_iconst (v := 0) 13 rfl dX1_isIn_12 (by decide) ?_
    exact wm_iret dX1_isIn_13 (by first | rfl | exact zp_nar) (pP_i (zp_f (by rw [(tb_isIn hi).mp c5]; decide)))
  · refine wm_iconst (v := 1) 9 rfl dX1_isIn_8 (by decide) ?_
    refine wm_goto 13 (by decide) dX1_isIn_9 ?_
    exact wm_iret dX1_isIn_13 (by first | rfl | exact zp_nar) (pP_i (zp_t (by have h := mt (tb_isIn hi).mpr c5; simpa using h)))
theorem k_X1_holds (l : Launch) {σ : Sg} {n : Nat} (hI : cI σ n) (r : Int32) : cMi l yX1_holds cX1_holds 2 .boolean 1 Lc [.ref 1, .int r] σ (pP σ (zp (hdR σ n r))) := by
  refine zMet_of (by decide +kernel) (Nat.le_of_ble_eq_true rfl) (fun D cT ad sz => ?_)
  show Wm (fun _ => True) l (rmh 1) RX1 cX1_holds 2 (some .boolean) D cT ad Lc (zA ad Lc.length sz) (zZ (fun D cT ad L sz => zQi D cT ad L sz (pP σ (zp (hdR σ n r)))) D cT ad Lc sz) [] 0 (lv_args 0 [.ref 1, .int r]) [] σ 0 0
  refine wm_iload_n 1 rfl dX1_holds_0 rfl rfl ?_
  refine wm_if_lt 27 4 rfl (by decide) dX1_holds_1 (fun c1 => ?_) (fun c1 => ?_)
  · refine wm_iconst (v := 0) 28 rfl dX1_holds_27 (by decide) ?_
    exact wm_iret dX1_holds_28 (by first | rfl | exact zp_nar) (pP_i (zp_f (fun h => by obtain ⟨i, e, h1, h2⟩ := h; have := hI.2; rw [e] at c1; exact nI_pos (by omega) c1)))
  · refine wm_iload_n 5 rfl dX1_holds_4 rfl rfl ?_
    refine wm_aload_n 6 rfl dX1_holds_5 rfl rfl ?_
    refine wm_getI 9 rfl dX1_holds_6 gf_X1_36_0 rfl rfl ?_
    refine wm_icmp_ge 27 12 rfl (by decide) dX1_holds_9 (fun c9 => ?_) (fun c9 => ?_)
    · rw [hI.1] at c9
      refine wm_iconst (v := 0) 28 rfl dX1_holds_27 (by decide) ?_
      exact wm_iret dX1_holds_28 (by first | rfl | exact zp_nar) (pP_i (zp_f (fun h => by obtain ⟨i, e, h1, h2⟩ := h; have := hI.2; rw [e] at c9; exact absurd (le_of_nI c9 (by omega) (by omega)) (by omega))))
    · rw [hI.1] at c9
      obtain ⟨i, hi, rfl⟩ : ∃ i : Nat, i < n ∧ r = nI i := by
        rcases pk_ix r (n := n) (by have := hI.2; omega) with h | h | ⟨j, hj, e⟩
        · exact absurd h c1
        · exact absurd h c9
        · exact ⟨j, hj, e⟩
      refine wm_iload_n 13 rfl dX1_holds_12 rfl rfl ?_
      refine wm_aload_n 14 rfl dX1_holds_13 rfl rfl ?_
      refine wm_getI 17 rfl dX1_holds_14 gf_X1_43_0 rfl rfl ?_
      refine wm_callSi (ty := .boolean) 20 rfl dX1_holds_17 (k_X1_isIn l (σ 1 6) (i := i) (by have := hI.2; omega)) ca_X1_isIn aw_8_1 aw_8_0 ⟨Nat.le_of_ble_eq_true rfl, Nat.le_of_ble_eq_true rfl⟩ (Nat.le_of_ble_eq_true rfl) ⟨Nat.zero_le _, Nat.zero_le _⟩ ?_
      rintro r9 σ9 ⟨rfl, rfl⟩
      refine wm_if_eq 27 23 rfl (by decide) dX1_holds_20 (fun c20 => ?_) (fun c20 => ?_)
      · refine wm_iconst (v := 0) 28 rfl dX1_holds_27 (by decide) ?_
        exact wm_iret dX1_holds_28 (by first | rfl | exact zp_nar) (pP_i (zp_f (fun h => (zp_0.mp c20) ((hdR_n hI.2 (by have := hI.2; omega)).mp h).2)))
      · refine wm_iconst (v := 1) 24 rfl dX1_holds_23 (by decide) ?_
        refine wm_goto 28 (by decide) dX1_holds_24 ?_
        exact wm_iret dX1_holds_28 (by first | rfl | exact zp_nar) (pP_i (zp_t ((hdR_n hI.2 (by have := hI.2; omega)).mpr ⟨hi, zp_n.mp c20⟩)))
theorem k_holds (l : Launch) {σ : Sg} {n : Nat} (hI : cI σ n) (i : Nat) (hi : i < 2 ^ 31) : cMi l yX1_holds cX1_holds 2 .boolean 1 Lc [.ref 1, .int (nI i)] σ (pP σ (zp (hd σ n i))) := by
  rw [← zp_c (hdR_n hI.2 hi)]
  exact k_X1_holds l hI (nI i)
theorem k_X1_haveSameKey (l : Launch) {σ : Sg} {n : Nat} (hI : cI σ n) (a b k : Nat) (ha : a < n) (hb : b < n) (hk : k < 3) : cMi l yX1_haveSameKey cX1_haveSameKey 4 .boolean 2 Lc [.ref 1, .int (nI a), .int (nI b), .int (nI k)] σ (pP σ (zp (smK σ n k a b))) := by
  have h24 := hI.2
  refine zMet_of (by decide +kernel) (Nat.le_of_ble_eq_true rfl) (fun D cT ad sz => ?_)
  show Wm (fun _ => True) l (rmh 2) RX1 cX1_haveSameKey 4 (some .boolean) D cT ad Lc (zA ad Lc.length sz) (zZ (fun D cT ad L sz => zQi D cT ad L sz (pP σ (zp (smK σ n k a b)))) D cT ad Lc sz) [] 0 (lv_args 0 [.ref 1, .int (nI a), .int (nI b), .int (nI k)]) [] σ 0 0
  refine wm_aload_n 1 rfl dX1_haveSameKey_0 rfl rfl ?_
  refine wm_iload_n 2 rfl dX1_haveSameKey_1 rfl rfl ?_
  refine wm_callVi (ty := .boolean) 5 rfl dX1_haveSameKey_2 (k_holds l hI a (by omega)) ca_X1_holds cv_X1_holds rfl aw_12_2 rfl rfl ⟨Nat.le_of_ble_eq_true rfl, Nat.le_of_ble_eq_true rfl⟩ (Nat.le_of_ble_eq_true rfl) ⟨Nat.zero_le _, Nat.zero_le _⟩ ?_
  rintro r9 σ9 ⟨rfl, rfl⟩
  refine wm_if_eq 51 8 rfl (by decide) dX1_haveSameKey_5 (fun c5 => ?_) (fun c5 => ?_)
  · refine wm_iconst (v := 0) 52 rfl dX1_haveSameKey_51 (by decide) ?_
    exact wm_iret dX1_haveSameKey_52 (by first | rfl | exact zp_nar) (pP_i (zp_f (fun h => (zp_0.mp c5) h.1)))
  · refine wm_aload_n 9 rfl dX1_haveSameKey_8 rfl rfl ?_
    refine wm_iload_n 10 rfl dX1_haveSameKey_9 rfl rfl ?_
    refine wm_callVi (ty := .boolean) 13 rfl dX1_haveSameKey_10 (k_holds l hI b (by omega)) ca_X1_holds cv_X1_holds rfl aw_12_2 rfl rfl ⟨Nat.le_of_ble_eq_true rfl, Nat.le_of_ble_eq_true rfl⟩ (Nat.le_of_ble_eq_true rfl) ⟨Nat.zero_le _, Nat.zero_le _⟩ ?_
    rintro r9 σ9 ⟨rfl, rfl⟩
    refine wm_if_eq 51 16 rfl (by decide) dX1_haveSameKey_13 (fun c13 => ?_) (fun c13 => ?_)
    · refine wm_iconst (v := 0) 52 rfl dX1_haveSameKey_51 (by decide) ?_
      exact wm_iret dX1_haveSameKey_52 (by first | rfl | exact zp_nar) (pP_i (zp_f (fun h => (zp_0.mp c13) h.2.1)))
    · refine wm_aload_n 17 rfl dX1_haveSameKey_16 rfl rfl ?_
      refine wm_getR 20 rfl dX1_haveSameKey_17 gf_X1_23_0 rfl rfl ?_
      refine wm_iload_n 21 rfl dX1_haveSameKey_20 rfl rfl ?_
      refine wm_aaload (r := 7 + k) 22 rfl dX1_haveSameKey_21 rfl (vp_in_nI hk (by omega)) (by rw [nI_clamp (by omega)]) ?_
      refine wm_iload_n 23 rfl dX1_haveSameKey_22 rfl rfl ?_
      refine wm_iaload 24 rfl dX1_haveSameKey_23 (Lc_key hk) (in24 (by omega) h24) ?_
      refine wm_iconst (v := (-1)) 25 rfl dX1_haveSameKey_24 (by decide) ?_
      refine wm_icmp_eq 51 28 rfl (by decide) dX1_haveSameKey_25 (fun c25 => ?_) (fun c25 => ?_)
      · rw [nI_clamp (by omega)] at c25
        refine wm_iconst (v := 0) 52 rfl dX1_haveSameKey_51 (by decide) ?_
        exact wm_iret dX1_haveSameKey_52 (by first | rfl | exact zp_nar) (pP_i (zp_f (fun h => h.2.2.1 c25)))
      · rw [nI_clamp (by omega)] at c25
        refine wm_aload_n 29 rfl dX1_haveSameKey_28 rfl rfl ?_
        refine wm_getR 32 rfl dX1_haveSameKey_29 gf_X1_23_0 rfl rfl ?_
        refine wm_iload_n 33 rfl dX1_haveSameKey_32 rfl rfl ?_
        refine wm_aaload (r := 7 + k) 34 rfl dX1_haveSameKey_33 rfl (vp_in_nI hk (by omega)) (by rw [nI_clamp (by omega)]) ?_
        refine wm_iload_n 35 rfl dX1_haveSameKey_34 rfl rfl ?_
        refine wm_iaload 36 rfl dX1_haveSameKey_35 (Lc_key hk) (in24 (by omega) h24) ?_
        refine wm_aload_n 37 rfl dX1_haveSameKey_36 rfl rfl ?_
        refine wm_getR 40 rfl dX1_haveSameKey_37 gf_X1_23_0 rfl rfl ?_
        refine wm_iload_n 41 rfl dX1_haveSameKey_40 rfl rfl ?_
        refine wm_aaload (r := 7 + k) 42 rfl dX1_haveSameKey_41 rfl (vp_in_nI hk (by omega)) (by rw [nI_clamp (by omega)]) ?_
        refine wm_iload_n 43 rfl dX1_haveSameKey_42 rfl rfl ?_
        refine wm_iaload 44 rfl dX1_haveSameKey_43 (Lc_key hk) (in24 (by omega) h24) ?_
        refine wm_icmp_ne 51 47 rfl (by decide) dX1_haveSameKey_44 (fun c44 => ?_) (fun c44 => ?_)
        · rw [nI_clamp (by omega), nI_clamp (by omega)] at c44
          refine wm_iconst (v := 0) 52 rfl dX1_haveSameKey_51 (by decide) ?_
          exact wm_iret dX1_haveSameKey_52 (by first | rfl | exact zp_nar) (pP_i (zp_f (fun h => c44 h.2.2.2)))
        · rw [nI_clamp (by omega), nI_clamp (by omega)] at c44
          refine wm_iconst (v := 1) 48 rfl dX1_haveSameKey_47 (by decide) ?_
          refine wm_goto 52 (by decide) dX1_haveSameKey_48 ?_
          exact wm_iret dX1_haveSameKey_52 (by first | rfl | exact zp_nar) (pP_i (zp_t ⟨zp_n.mp c5, zp_n.mp c13, c25, c44⟩))
theorem k_X1_isFirstWithKey (l : Launch) {σ : Sg} {n : Nat} (hI : cI σ n) (a k : Nat) (ha : a < n) (hk : k < 3) : cMi l yX1_isFirstWithKey cX1_isFirstWithKey 4 .boolean 3 Lc [.ref 1, .int (nI a), .int (nI k)] σ (pP σ (zp (∀ j, j < a → ¬ smK σ n k a j))) := by
  have h24 := hI.2
  refine zMet_of (by decide +kernel) (Nat.le_of_ble_eq_true rfl) (fun D cT ad sz => ?_)
  show Wm (fun _ => True) l (rmh 3) RX1 cX1_isFirstWithKey 4 (some .boolean) D cT ad Lc (zA ad Lc.length sz) (zZ (fun D cT ad L sz => zQi D cT ad L sz (pP σ (zp (∀ j, j < a → ¬ smK σ n k a j)))) D cT ad Lc sz) [] 0 (lv_args 0 [.ref 1, .int (nI a), .int (nI k)]) [] σ 0 0
  have lp : ∀ (q9 j : Nat), a - j = q9 → j ≤ a → (∀ i, i < j → ¬ smK σ n k a i) → Wm (fun _ => True) l (rmh 3) RX1 cX1_isFirstWithKey 4 (some .boolean) D cT ad Lc (zA ad Lc.length sz) (zZ (fun D cT ad L sz => zQi D cT ad L sz (pP σ (zp (∀ j, j < a → ¬ smK σ n k a j)))) D cT ad Lc sz) [] 2 [(0, .ref 1), (1, .int (nI a)), (2, .int (nI k)), (3, .int (nI j))] [] σ 0 0 := by
    intro q9
    induction q9 using Nat.strongRecOn with
    | ind q9 ih =>
      intro j  hm hj hinv
      refine wm_iload_n 3 rfl dX1_isFirstWithKey_2 rfl rfl ?_
      refine wm_iload_n 4 rfl dX1_isFirstWithKey_3 rfl rfl ?_
      refine wm_icmp_ge 25 7 rfl (by decide) dX1_isFirstWithKey_4 (fun c4 => ?_) (fun c4 => ?_)
      · have g : j = a := by have := le_of_nI c4 (by omega) (by omega); omega
        refine wm_iconst (v := 1) 26 rfl dX1_isFirstWithKey_25 (by decide) ?_
        exact wm_iret dX1_isFirstWithKey_26 (by first | rfl | exact zp_nar) (pP_i (zp_t (by subst g; exact hinv)))
      · have g : j < a := lt_of_nnI c4 (by omega) (by omega)
        refine wm_aload_n 8 rfl dX1_isFirstWithKey_7 rfl rfl ?_
        refine wm_iload_n 9 rfl dX1_isFirstWithKey_8 rfl rfl ?_
        refine wm_iload_n 10 rfl dX1_isFirstWithKey_9 rfl rfl ?_
        refine wm_iload_n 11 rfl dX1_isFirstWithKey_10 rfl rfl ?_
        refine wm_callVi (ty := .boolean) 14 rfl dX1_isFirstWithKey_11 (k_X1_haveSameKey l hI a j k ha (by omega) hk) ca_X1_haveSameKey cv_X1_haveSameKey rfl aw_24_15 rfl rfl ⟨Nat.le_of_ble_eq_true rfl, Nat.le_of_ble_eq_true rfl⟩ (Nat.le_of_ble_eq_true rfl) ⟨Nat.zero_le _, Nat.zero_le _⟩ ?_
        rintro r9 σ9 ⟨rfl, rfl⟩
        refine wm_if_eq 19 17 rfl (by decide) dX1_isFirstWithKey_14 (fun c14 => ?_) (fun c14 => ?_)
        · refine wm_iinc (ls' := [(3, _), (0, _), (1, _), (2, _)]) 22 rfl dX1_isFirstWithKey_19 rfl (nI_inc _) (by decide) rfl ?_
          refine wm_goto 2 (by decide) dX1_isFirstWithKey_22 ?_
          refine wm_loc (ls2 := [(0, _), (1, _), (2, _), (3, _)]) [1, 2, 3, 0] rfl ?_
          exact ih (a - (j + 1)) (by omega) (j + 1) rfl (by omega) (lt_s hinv (zp_0.mp c14))
        · refine wm_iconst (v := 0) 18 rfl dX1_isFirstWithKey_17 (by decide) ?_
          exact wm_iret dX1_isFirstWithKey_18 (by first | rfl | exact zp_nar) (pP_i (zp_f (fun h => h j g (zp_n.mp c14))))
  refine wm_iconst (v := 0) 1 rfl dX1_isFirstWithKey_0 (by decide) ?_
  refine wm_istore_n (ls' := [(3, _), (0, _), (1, _), (2, _)]) 2 rfl dX1_isFirstWithKey_1 rfl (by decide) rfl ?_
  refine wm_loc (ls2 := [(0, _), (1, _), (2, _), (3, _)]) [1, 2, 3, 0] rfl ?_
  exact lp a 0 rfl (Nat.zero_le _) (fun i hi => absurd hi (Nat.not_lt_zero i))
theorem k_X1_putSource (l : Launch) {σ : Sg} {m : Nat} (hs : σ 1 7 = nI m) (hm : m < 4) (t : Int32) : cMi l yX1_putSource cX1_putSource 3 .int 0 Lc [.ref 1, .int t] σ (pP (zu (zu σ 2 m t) 1 7 (nI (m + 1))) (nI m)) := by
  refine zMet_of (by decide +kernel) (Nat.le_of_ble_eq_true rfl) (fun D cT ad sz => ?_)
  show Wm (fun _ => True) l (rmh 0) RX1 cX1_putSource 3 (some .int) D cT ad Lc (zA ad Lc.length sz) (zZ (fun D cT ad L sz => zQi D cT ad L sz (pP (zu (zu σ 2 m t) 1 7 (nI (m + 1))) (nI m))) D cT ad Lc sz) [] 0 (lv_args 0 [.ref 1, .int t]) [] σ 0 0
  refine wm_aload_n 1 rfl dX1_putSource_0 rfl rfl ?_
  refine wm_getI 4 rfl dX1_putSource_1 gf_X1_32_0 rfl rfl ?_
  rw [hs]
  refine wm_istore_n (ls' := [(2, _), (0, _), (1, _)]) 5 rfl dX1_putSource_4 rfl (by decide) rfl ?_
  refine wm_aload_n 6 rfl dX1_putSource_5 rfl rfl ?_
  refine wm_getR 9 rfl dX1_putSource_6 gf_X1_9_0 rfl rfl ?_
  refine wm_iload_n 10 rfl dX1_putSource_9 rfl rfl ?_
  refine wm_iload_n 11 rfl dX1_putSource_10 rfl rfl ?_
  refine wm_iastore 12 rfl dX1_putSource_11 rfl (vp_in_nI hm (by omega)) ?_
  rw [nI_clamp (by omega)]
  refine wm_aload_n 13 rfl dX1_putSource_12 rfl rfl ?_
  refine wm_dup 14 rfl rfl dX1_putSource_13 ?_
  refine wm_getI 17 rfl dX1_putSource_14 gf_X1_32_0 rfl rfl ?_
  refine wm_iconst (v := 1) 18 rfl dX1_putSource_17 (by decide) ?_
  refine wm_iadd 19 rfl dX1_putSource_18 ?_
  refine wm_putI 22 rfl dX1_putSource_19 pf_X1_32_0 rfl rfl ?_
  refine wm_iload_n 23 rfl dX1_putSource_22 rfl rfl ?_
  exact wm_iret dX1_putSource_23 (by first | rfl | exact zp_nar) ⟨by rw [zu_ne _ _ _ (by decide), hs, nI_succ], rfl⟩
def prM (σ : Sg) (n : Nat) (s d : Int32) : Nat → Sg
  | 0 => zu (zu σ 3 n s) 4 n d
  | j + 1 => zu (prM σ n s d j) (10 + j) n (-1)
theorem prM_1 (σ : Sg) (n : Nat) (s d : Int32) : ∀ j, prM σ n s d j 1 = σ 1
  | 0 => by rw [prM, zu_ne _ _ _ (by decide), zu_ne _ _ _ (by decide)]
  | j + 1 => by rw [prM, zu_ne _ _ _ (by omega), prM_1 σ n s d j]
theorem k_X1_hide (l : Launch) {σ : Sg} (i : Nat) : cMv l yX1_hide cX1_hide 2 0 Lc [.ref 1, .int (nI i)] σ (fun σ1 => zu σ 1 6 (σ 1 6 &&& (((1 : Int32) <<< (nI i &&& 31)) ^^^ (-1))) = σ1) := by
  refine zMet_of (by decide +kernel) (Nat.le_of_ble_eq_true rfl) (fun D cT ad sz => ?_)
  show Wm (fun _ => True) l (rmh 0) RX1 cX1_hide 2 none D cT ad Lc (zA ad Lc.length sz) (zZ (fun D cT ad L sz => zQv D cT ad L sz (fun σ1 => zu σ 1 6 (σ 1 6 &&& (((1 : Int32) <<< (nI i &&& 31)) ^^^ (-1))) = σ1)) D cT ad Lc sz) [] 0 (lv_args 0 [.ref 1, .int (nI i)]) [] σ 0 0
  refine wm_aload_n 1 rfl dX1_hide_0 rfl rfl ?_
  refine wm_dup 2 rfl rfl dX1_hide_1 ?_
  refine wm_getI 5 rfl dX1_hide_2 gf_X1_43_0 rfl rfl ?_
  refine wm_iconst (v := 1) 6 rfl dX1_hide_5 (by decide) ?_
  refine wm_iload_n 7 rfl dX1_hide_6 rfl rfl ?_
  refine wm_ishl 8 rfl dX1_hide_7 ?_
  refine wm_iconst (v := (-1)) 9 rfl dX1_hide_8 (by decide) ?_
  refine wm_ixor 10 rfl dX1_hide_9 ?_
  refine wm_iand 11 rfl dX1_hide_10 ?_
  refine wm_putI 14 rfl dX1_hide_11 pf_X1_43_0 rfl rfl ?_
  exact wm_vret dX1_hide_14 rfl
theorem k_X1_unhide (l : Launch) {σ : Sg} (i : Nat) : cMv l yX1_unhide cX1_unhide 2 0 Lc [.ref 1, .int (nI i)] σ (fun σ1 => zu σ 1 6 (σ 1 6 ||| ((1 : Int32) <<< (nI i &&& 31))) = σ1) := by
  refine zMet_of (by decide +kernel) (Nat.le_of_ble_eq_true rfl) (fun D cT ad sz => ?_)
  show Wm (fun _ => True) l (rmh 0) RX1 cX1_unhide 2 none D cT ad Lc (zA ad Lc.length sz) (zZ (fun D cT ad L sz => zQv D cT ad L sz (fun σ1 => zu σ 1 6 (σ 1 6 ||| ((1 : Int32) <<< (nI i &&& 31))) = σ1)) D cT ad Lc sz) [] 0 (lv_args 0 [.ref 1, .int (nI i)]) [] σ 0 0
  refine wm_aload_n 1 rfl dX1_unhide_0 rfl rfl ?_
  refine wm_dup 2 rfl rfl dX1_unhide_1 ?_
  refine wm_getI 5 rfl dX1_unhide_2 gf_X1_43_0 rfl rfl ?_
  refine wm_iconst (v := 1) 6 rfl dX1_unhide_5 (by decide) ?_
  refine wm_iload_n 7 rfl dX1_unhide_6 rfl rfl ?_
  refine wm_ishl 8 rfl dX1_unhide_7 ?_
  refine wm_ior 9 rfl dX1_unhide_8 ?_
  refine wm_putI 12 rfl dX1_unhide_9 pf_X1_43_0 rfl rfl ?_
  exact wm_vret dX1_unhide_12 rfl
theorem k_X1_putRecord (l : Launch) {σ : Sg} {n : Nat} (hn : σ 1 8 = nI n) (h24 : n < 24) (s d : Int32) : cMi l yX1_putRecord cX1_putRecord 5 .int 1 Lc [.ref 1, .int s, .int d] σ (pP (zu (zu (prM σ n s d 3) 1 8 (nI (n + 1))) 1 6 (σ 1 6 ||| ((1 : Int32) <<< (nI n &&& 31)))) (nI n)) := by
  refine zMet_of (by decide +kernel) (Nat.le_of_ble_eq_true rfl) (fun D cT ad sz => ?_)
  show Wm (fun _ => True) l (rmh 1) RX1 cX1_putRecord 5 (some .int) D cT ad Lc (zA ad Lc.length sz) (zZ (fun D cT ad L sz => zQi D cT ad L sz (pP (zu (zu (prM σ n s d 3) 1 8 (nI (n + 1))) 1 6 (σ 1 6 ||| ((1 : Int32) <<< (nI n &&& 31)))) (nI n))) D cT ad Lc sz) [] 0 (lv_args 0 [.ref 1, .int s, .int d]) [] σ 0 0
  have lp : ∀ (q9 j : Nat), 3 - j = q9 → j ≤ 3 → True → Wm (fun _ => True) l (rmh 1) RX1 cX1_putRecord 5 (some .int) D cT ad Lc (zA ad Lc.length sz) (zZ (fun D cT ad L sz => zQi D cT ad L sz (pP (zu (zu (prM σ n s d 3) 1 8 (nI (n + 1))) 1 6 (σ 1 6 ||| ((1 : Int32) <<< (nI n &&& 31)))) (nI n))) D cT ad Lc sz) [] 22 [(0, .ref 1), (1, .int s), (2, .int d), (3, .int (nI n)), (4, .int (nI j))] [] (prM σ n s d j) 0 0 := by
    intro q9
    induction q9 using Nat.strongRecOn with
    | ind q9 ih =>
      intro j  hm hj hinv
      refine wm_iload 24 rfl dX1_putRecord_22 rfl ?_
      refine wm_iconst (v := 3) 25 rfl dX1_putRecord_24 (by decide) ?_
      refine wm_icmp_ge 44 28 rfl (by decide) dX1_putRecord_25 (fun c25 => ?_) (fun c25 => ?_)
      · have g : j = 3 := by have := le_of_nI (a := 3) c25 (by omega) (by omega); omega
        subst g
        refine wm_aload_n 45 rfl dX1_putRecord_44 rfl rfl ?_
        refine wm_dup 46 rfl rfl dX1_putRecord_45 ?_
        refine wm_getI 49 rfl dX1_putRecord_46 gf_X1_36_0 rfl rfl ?_
        refine wm_iconst (v := 1) 50 rfl dX1_putRecord_49 (by decide) ?_
        refine wm_iadd 51 rfl dX1_putRecord_50 ?_
        refine wm_putI 54 rfl dX1_putRecord_51 pf_X1_36_0 rfl rfl ?_
        refine wm_aload_n 55 rfl dX1_putRecord_54 rfl rfl ?_
        refine wm_iload_n 56 rfl dX1_putRecord_55 rfl rfl ?_
        refine wm_callVv 59 rfl dX1_putRecord_56 (k_X1_unhide l n) ca_X1_unhide cv_X1_unhide rfl aw_6_19 rfl rfl ⟨Nat.le_of_ble_eq_true rfl, Nat.le_of_ble_eq_true rfl⟩ (Nat.le_of_ble_eq_true rfl) ⟨Nat.zero_le _, Nat.zero_le _⟩ ?_
        intro σ9 h9
        subst h9
        refine wm_iload_n 60 rfl dX1_putRecord_59 rfl rfl ?_
        exact wm_iret dX1_putRecord_60 (by first | rfl | exact zp_nar) ⟨by simp only [zu_at, zu_ne, prM_1]; rw [hn, nI_succ]; simp [upd, prM_1], rfl⟩
      · have g : j < 3 := lt_of_nnI (a := 3) c25 (by omega) (by omega)
        refine wm_aload_n 29 rfl dX1_putRecord_28 rfl rfl ?_
        refine wm_getR 32 rfl dX1_putRecord_29 gf_X1_26_0 rfl rfl ?_
        refine wm_iload 34 rfl dX1_putRecord_32 rfl ?_
        refine wm_aaload (r := 10 + j) 35 rfl dX1_putRecord_34 rfl (vp_in_nI g (by omega)) (by rw [nI_clamp (by omega)]) ?_
        refine wm_iload_n 36 rfl dX1_putRecord_35 rfl rfl ?_
        refine wm_iconst (v := (-1)) 37 rfl dX1_putRecord_36 (by decide) ?_
        refine wm_iastore 38 rfl dX1_putRecord_37 (Lc_fact g) (vp_in_nI h24 (by omega)) ?_
        rw [nI_clamp (by omega)]
        refine wm_iinc (ls' := [(4, _), (0, _), (1, _), (2, _), (3, _)]) 41 rfl dX1_putRecord_38 rfl (nI_inc _) (by decide) rfl ?_
        refine wm_goto 22 (by decide) dX1_putRecord_41 ?_
        refine wm_loc (ls2 := [(0, _), (1, _), (2, _), (3, _), (4, _)]) [1, 2, 3, 4, 0] rfl ?_
        exact ih (3 - (j + 1)) (by omega) (j + 1) rfl (by omega) trivial
  refine wm_aload_n 1 rfl dX1_putRecord_0 rfl rfl ?_
  refine wm_getI 4 rfl dX1_putRecord_1 gf_X1_36_0 rfl rfl ?_
  rw [hn]
  refine wm_istore_n (ls' := [(3, _), (0, _), (1, _), (2, _)]) 5 rfl dX1_putRecord_4 rfl (by decide) rfl ?_
  refine wm_aload_n 6 rfl dX1_putRecord_5 rfl rfl ?_
  refine wm_getR 9 rfl dX1_putRecord_6 gf_X1_15_0 rfl rfl ?_
  refine wm_iload_n 10 rfl dX1_putRecord_9 rfl rfl ?_
  refine wm_iload_n 11 rfl dX1_putRecord_10 rfl rfl ?_
  refine wm_iastore 12 rfl dX1_putRecord_11 rfl (vp_in_nI h24 (by omega)) ?_
  refine wm_aload_n 13 rfl dX1_putRecord_12 rfl rfl ?_
  refine wm_getR 16 rfl dX1_putRecord_13 gf_X1_18_0 rfl rfl ?_
  refine wm_iload_n 17 rfl dX1_putRecord_16 rfl rfl ?_
  refine wm_iload_n 18 rfl dX1_putRecord_17 rfl rfl ?_
  refine wm_iastore 19 rfl dX1_putRecord_18 rfl (vp_in_nI h24 (by omega)) ?_
  rw [nI_clamp (by omega)]
  refine wm_iconst (v := 0) 20 rfl dX1_putRecord_19 (by decide) ?_
  refine wm_istore (ls' := [(4, _), (3, _), (0, _), (1, _), (2, _)]) 22 rfl dX1_putRecord_20 (by decide) rfl ?_
  refine wm_loc (ls2 := [(0, _), (1, _), (2, _), (3, _), (4, _)]) [2, 3, 4, 1, 0] rfl ?_
  exact lp 3 0 rfl (Nat.zero_le _) trivial
theorem k_X1_isForbidden (l : Launch) {σ : Sg} {a b : Nat} (ha : a < 24) (hb : b < 24) : cMi l yX1_isForbidden cX1_isForbidden 3 .boolean 1 Lc [.ref 1, .int (nI a), .int (nI b)] σ (pP σ (zp (tb (σ 13 a) b = true))) := by
  refine zMet_of (by decide +kernel) (Nat.le_of_ble_eq_true rfl) (fun D cT ad sz => ?_)
  show Wm (fun _ => True) l (rmh 1) RX1 cX1_isForbidden 3 (some .boolean) D cT ad Lc (zA ad Lc.length sz) (zZ (fun D cT ad L sz => zQi D cT ad L sz (pP σ (zp (tb (σ 13 a) b = true)))) D cT ad Lc sz) [] 0 (lv_args 0 [.ref 1, .int (nI a), .int (nI b)]) [] σ 0 0
  refine wm_iload_n 1 rfl dX1_isForbidden_0 rfl rfl ?_
  refine wm_aload_n 2 rfl dX1_isForbidden_1 rfl rfl ?_
  refine wm_getR 5 rfl dX1_isForbidden_2 gf_X1_29_0 rfl rfl ?_
  refine wm_iload_n 6 rfl dX1_isForbidden_5 rfl rfl ?_
  refine wm_iaload 7 rfl dX1_isForbidden_6 rfl (in24 ha (Nat.le_refl _)) ?_
  rw [nI_clamp (by omega)]
  refine wm_callSi (ty := .boolean) 10 rfl dX1_isForbidden_7 (k_X1_isIn l (σ 13 a) (i := b) (by omega)) ca_X1_isIn aw_8_1 aw_8_0 ⟨Nat.le_of_ble_eq_true rfl, Nat.le_of_ble_eq_true rfl⟩ (Nat.le_of_ble_eq_true rfl) ⟨Nat.zero_le _, Nat.zero_le _⟩ ?_
  rintro r9 σ9 ⟨rfl, rfl⟩
  exact wm_iret dX1_isForbidden_10 (by first | rfl | exact zp_nar) ⟨rfl, rfl⟩
def ptM (σ : Sg) (a b : Nat) : Sg := zu (zu σ 13 a (σ 13 a ||| ((1 : Int32) <<< (nI b &&& 31)))) 13 b ((zu σ 13 a (σ 13 a ||| ((1 : Int32) <<< (nI b &&& 31)))) 13 b ||| ((1 : Int32) <<< (nI a &&& 31)))
def upM (σ : Sg) (a b : Nat) : Sg := zu (zu σ 13 a (σ 13 a &&& (((1 : Int32) <<< (nI b &&& 31)) ^^^ (-1)))) 13 b ((zu σ 13 a (σ 13 a &&& (((1 : Int32) <<< (nI b &&& 31)) ^^^ (-1)))) 13 b &&& (((1 : Int32) <<< (nI a &&& 31)) ^^^ (-1)))
theorem k_X1_part (l : Launch) {σ : Sg} {a b : Nat} (ha : a < 24) (hb : b < 24) : cMv l yX1_part cX1_part 3 0 Lc [.ref 1, .int (nI a), .int (nI b)] σ (fun σ1 => ptM σ a b = σ1) := by
  refine zMet_of (by decide +kernel) (Nat.le_of_ble_eq_true rfl) (fun D cT ad sz => ?_)
  show Wm (fun _ => True) l (rmh 0) RX1 cX1_part 3 none D cT ad Lc (zA ad Lc.length sz) (zZ (fun D cT ad L sz => zQv D cT ad L sz (fun σ1 => ptM σ a b = σ1)) D cT ad Lc sz) [] 0 (lv_args 0 [.ref 1, .int (nI a), .int (nI b)]) [] σ 0 0
  refine wm_aload_n 1 rfl dX1_part_0 rfl rfl ?_
  refine wm_getR 4 rfl dX1_part_1 gf_X1_29_0 rfl rfl ?_
  refine wm_iload_n 5 rfl dX1_part_4 rfl rfl ?_
  refine wm_dup2 6 rfl rfl rfl dX1_part_5 ?_
  refine wm_iaload 7 rfl dX1_part_6 rfl (in24 ha (Nat.le_refl _)) ?_
  refine wm_iconst (v := 1) 8 rfl dX1_part_7 (by decide) ?_
  refine wm_iload_n 9 rfl dX1_part_8 rfl rfl ?_
  refine wm_ishl 10 rfl dX1_part_9 ?_
  refine wm_ior 11 rfl dX1_part_10 ?_
  refine wm_iastore 12 rfl dX1_part_11 rfl (in24 ha (Nat.le_refl _)) ?_
  refine wm_aload_n 13 rfl dX1_part_12 rfl rfl ?_
  refine wm_getR 16 rfl dX1_part_13 gf_X1_29_0 rfl rfl ?_
  refine wm_iload_n 17 rfl dX1_part_16 rfl rfl ?_
  refine wm_dup2 18 rfl rfl rfl dX1_part_17 ?_
  refine wm_iaload 19 rfl dX1_part_18 rfl (in24 hb (Nat.le_refl _)) ?_
  refine wm_iconst (v := 1) 20 rfl dX1_part_19 (by decide) ?_
  refine wm_iload_n 21 rfl dX1_part_20 rfl rfl ?_
  refine wm_ishl 22 rfl dX1_part_21 ?_
  refine wm_ior 23 rfl dX1_part_22 ?_
  refine wm_iastore 24 rfl dX1_part_23 rfl (in24 hb (Nat.le_refl _)) ?_
  exact wm_vret dX1_part_24 (by unfold ptM; rw [nI_clamp (by omega), nI_clamp (by omega)])
theorem k_X1_unpart (l : Launch) {σ : Sg} {a b : Nat} (ha : a < 24) (hb : b < 24) : cMv l yX1_unpart cX1_unpart 3 0 Lc [.ref 1, .int (nI a), .int (nI b)] σ (fun σ1 => upM σ a b = σ1) := by
  refine zMet_of (by decide +kernel) (Nat.le_of_ble_eq_true rfl) (fun D cT ad sz => ?_)
  show Wm (fun _ => True) l (rmh 0) RX1 cX1_unpart 3 none D cT ad Lc (zA ad Lc.length sz) (zZ (fun D cT ad L sz => zQv D cT ad L sz (fun σ1 => upM σ a b = σ1)) D cT ad Lc sz) [] 0 (lv_args 0 [.ref 1, .int (nI a), .int (nI b)]) [] σ 0 0
  refine wm_aload_n 1 rfl dX1_unpart_0 rfl rfl ?_
  refine wm_getR 4 rfl dX1_unpart_1 gf_X1_29_0 rfl rfl ?_
  refine wm_iload_n 5 rfl dX1_unpart_4 rfl rfl ?_
  refine wm_dup2 6 rfl rfl rfl dX1_unpart_5 ?_
  refine wm_iaload 7 rfl dX1_unpart_6 rfl (in24 ha (Nat.le_refl _)) ?_
  refine wm_iconst (v := 1) 8 rfl dX1_unpart_7 (by decide) ?_
  refine wm_iload_n 9 rfl dX1_unpart_8 rfl rfl ?_
  refine wm_ishl 10 rfl dX1_unpart_9 ?_
  refine wm_iconst (v := (-1)) 11 rfl dX1_unpart_10 (by decide) ?_
  refine wm_ixor 12 rfl dX1_unpart_11 ?_
  refine wm_iand 13 rfl dX1_unpart_12 ?_
  refine wm_iastore 14 rfl dX1_unpart_13 rfl (in24 ha (Nat.le_refl _)) ?_
  refine wm_aload_n 15 rfl dX1_unpart_14 rfl rfl ?_
  refine wm_getR 18 rfl dX1_unpart_15 gf_X1_29_0 rfl rfl ?_
  refine wm_iload_n 19 rfl dX1_unpart_18 rfl rfl ?_
  refine wm_dup2 20 rfl rfl rfl dX1_unpart_19 ?_
  refine wm_iaload 21 rfl dX1_unpart_20 rfl (in24 hb (Nat.le_refl _)) ?_
  refine wm_iconst (v := 1) 22 rfl dX1_unpart_21 (by decide) ?_
  refine wm_iload_n 23 rfl dX1_unpart_22 rfl rfl ?_
  refine wm_ishl 24 rfl dX1_unpart_23 ?_
  refine wm_iconst (v := (-1)) 25 rfl dX1_unpart_24 (by decide) ?_
  refine wm_ixor 26 rfl dX1_unpart_25 ?_
  refine wm_iand 27 rfl dX1_unpart_26 ?_
  refine wm_iastore 28 rfl dX1_unpart_27 rfl (in24 hb (Nat.le_refl _)) ?_
  exact wm_vret dX1_unpart_28 (by unfold upM; rw [nI_clamp (by omega), nI_clamp (by omega)])
def twoK (σ : Sg) (n : Nat) (m : Int32) (k : Nat) : Prop := ∃ a b, a < n ∧ b < n ∧ tb m a = true ∧ tb m b = true ∧ σ (7 + k) a ≠ -1 ∧ σ (7 + k) b ≠ -1 ∧ σ (7 + k) a ≠ σ (7 + k) b
def twI (σ : Sg) (m : Int32) (k j : Nat) (f : Int32) : Prop := (f = -1 ∧ ∀ i, i < j → tb m i = true → σ (7 + k) i = -1) ∨ (f ≠ -1 ∧ (∃ i, i < j ∧ tb m i = true ∧ σ (7 + k) i = f) ∧ ∀ i, i < j → tb m i = true → σ (7 + k) i ≠ -1 → σ (7 + k) i = f)
theorem twI_end {σ : Sg} {m : Int32} {k n : Nat} {f : Int32} (h : twI σ m k n f) : ¬ twoK σ n m k := by
  rintro ⟨a, b, ha, hb, ta, tb9, ka, kb, hne⟩
  rcases h with ⟨-, h⟩ | ⟨-, -, h⟩
  · exact ka (h a ha ta)
  · exact hne ((h a ha ta ka).trans (h b hb tb9 kb).symm)
theorem twI_skip {σ : Sg} {m : Int32} {k j : Nat} {f : Int32} (h : twI σ m k j f) (hj : tb m j = true → σ (7 + k) j = -1) : twI σ m k (j + 1) f := by
  rcases h with ⟨h1, h2⟩ | ⟨h1, ⟨i, h3, h4, h5⟩, h2⟩
  · exact Or.inl ⟨h1, lt_s h2 hj⟩
  · exact Or.inr ⟨h1, ⟨i, by omega, h4, h5⟩, lt_s h2 (fun t q => absurd (hj t) q)⟩
theorem twI_first {σ : Sg} {m : Int32} {k j : Nat} (h : twI σ m k j (-1)) (t : tb m j = true) (q : σ (7 + k) j ≠ -1) : twI σ m k (j + 1) (σ (7 + k) j) := by
  rcases h with ⟨-, h2⟩ | ⟨h1, -⟩
  · refine Or.inr ⟨q, ⟨j, by omega, t, rfl⟩, lt_s (fun i hi ti ki => absurd (h2 i hi ti) ki) (fun _ _ => rfl)⟩
  · exact absurd rfl h1
theorem twI_same {σ : Sg} {m : Int32} {k j : Nat} {f : Int32} (h : twI σ m k j f) (hf : f ≠ -1) (t : tb m j = true) (q : σ (7 + k) j = f) : twI σ m k (j + 1) f := by
  rcases h with ⟨h1, -⟩ | ⟨h1, ⟨i, h3, h4, h5⟩, h2⟩
  · exact absurd h1 hf
  · exact Or.inr ⟨h1, ⟨i, by omega, h4, h5⟩, lt_s h2 (fun _ _ => q)⟩
theorem twI_two {σ : Sg} {m : Int32} {k j n : Nat} {f : Int32} (h : twI σ m k j f) (hj : j < n) (hf : f ≠ -1) (t : tb m j = true) (q : σ (7 + k) j ≠ -1) (e : σ (7 + k) j ≠ f) : twoK σ n m k := by
  rcases h with ⟨h1, -⟩ | ⟨h1, ⟨i, h3, h4, h5⟩, h2⟩
  · exact absurd h1 hf
  · exact ⟨j, i, hj, by omega, t, h4, q, by rw [h5]; exact h1, by rw [h5]; exact e⟩
def fbP (σ : Sg) (n : Nat) (m : Int32) : Prop := ∃ a, a < n ∧ tb m a = true ∧ ¬ (σ 13 a &&& m = 0)
def mjP (σ : Sg) (n : Nat) (m : Int32) (k : Nat) : Prop := (∀ s, s < k → ¬ twoK σ n m s) ∧ ¬ fbP σ n m
theorem k_X1_haveTwoKeys (l : Launch) {σ : Sg} {n : Nat} (hI : cI σ n) (m : Int32) {k : Nat} (hk : k < 3) : cMi l yX1_haveTwoKeys cX1_haveTwoKeys 6 .boolean 1 Lc [.ref 1, .int m, .int (nI k)] σ (pP σ (zp (twoK σ n m k))) := by
  have h24 := hI.2
  refine zMet_of (by decide +kernel) (Nat.le_of_ble_eq_true rfl) (fun D cT ad sz => ?_)
  show Wm (fun _ => True) l (rmh 1) RX1 cX1_haveTwoKeys 6 (some .boolean) D cT ad Lc (zA ad Lc.length sz) (zZ (fun D cT ad L sz => zQi D cT ad L sz (pP σ (zp (twoK σ n m k)))) D cT ad Lc sz) [] 0 (lv_args 0 [.ref 1, .int m, .int (nI k)]) [] σ 0 0
  have lp : ∀ (q9 j : Nat) (f : Int32), n - j = q9 → j ≤ n → twI σ m k j f → Wm (fun _ => True) l (rmh 1) RX1 cX1_haveTwoKeys 6 (some .boolean) D cT ad Lc (zA ad Lc.length sz) (zZ (fun D cT ad L sz => zQi D cT ad L sz (pP σ (zp (twoK σ n m k)))) D cT ad Lc sz) [] 5 [(0, .ref 1), (1, .int m), (2, .int (nI k)), (3, .int f), (4, .int (nI j))] [] σ 0 0 := by
    intro q9
    induction q9 using Nat.strongRecOn with
    | ind q9 ih =>
      intro j f hm hj hinv
      refine wm_iload 7 rfl dX1_haveTwoKeys_5 rfl ?_
      refine wm_aload_n 8 rfl dX1_haveTwoKeys_7 rfl rfl ?_
      refine wm_getI 11 rfl dX1_haveTwoKeys_8 gf_X1_36_0 rfl rfl ?_
      refine wm_icmp_ge 76 14 rfl (by decide) dX1_haveTwoKeys_11 (fun c11 => ?_) (fun c11 => ?_)
      · rw [hI.1] at c11
        have g : j = n := by have := le_of_nI c11 (by omega) (by omega); omega
        refine wm_iconst (v := 0) 77 rfl dX1_haveTwoKeys_76 (by decide) ?_
        exact wm_iret dX1_haveTwoKeys_77 (by first | rfl | exact zp_nar) (pP_i (zp_f (by subst g; exact twI_end hinv)))
      · rw [hI.1] at c11
        have g : j < n := lt_of_nnI c11 (by omega) (by omega)
        refine wm_iload 16 rfl dX1_haveTwoKeys_14 rfl ?_
        refine wm_iload_n 17 rfl dX1_haveTwoKeys_16 rfl rfl ?_
        refine wm_callSi (ty := .boolean) 20 rfl dX1_haveTwoKeys_17 (k_X1_isIn l m (i := j) (by omega)) ca_X1_isIn aw_8_1 aw_8_0 ⟨Nat.le_of_ble_eq_true rfl, Nat.le_of_ble_eq_true rfl⟩ (Nat.le_of_ble_eq_true rfl) ⟨Nat.zero_le _, Nat.zero_le _⟩ ?_
        rintro r9 σ9 ⟨rfl, rfl⟩
        refine wm_if_eq 35 23 rfl (by decide) dX1_haveTwoKeys_20 (fun c20 => ?_) (fun c20 => ?_)
        · refine wm_iconst (v := (-1)) 36 rfl dX1_haveTwoKeys_35 (by decide) ?_
          refine wm_istore (ls' := [(5, _), (0, _), (1, _), (2, _), (3, _), (4, _)]) 38 rfl dX1_haveTwoKeys_36 (by decide) rfl ?_
          refine wm_iload 40 rfl dX1_haveTwoKeys_38 rfl ?_
          refine wm_iconst (v := (-1)) 41 rfl dX1_haveTwoKeys_40 (by decide) ?_
          refine wm_icmp_eq 57 44 rfl (by decide) dX1_haveTwoKeys_41 (fun c41 => ?_) (fun c41 => ?_)
          · refine wm_iload 59 rfl dX1_haveTwoKeys_57 rfl ?_
            refine wm_iconst (v := (-1)) 60 rfl dX1_haveTwoKeys_59 (by decide) ?_
            refine wm_icmp_ne 67 63 rfl (by decide) dX1_haveTwoKeys_60 (fun c60 => ?_) (fun c60 => ?_)
            · refine wm_iload 69 rfl dX1_haveTwoKeys_67 rfl ?_
              refine wm_istore_n (ls' := [(3, _), (5, _), (0, _), (1, _), (2, _), (4, _)]) 70 rfl dX1_haveTwoKeys_69 rfl (by decide) rfl ?_
              refine wm_iinc (ls' := [(4, _), (3, _), (5, _), (0, _), (1, _), (2, _)]) 73 rfl dX1_haveTwoKeys_70 rfl (nI_inc _) (by decide) rfl ?_
              refine wm_goto 5 (by decide) dX1_haveTwoKeys_73 ?_
              refine wm_loc (ls2 := [(0, _), (1, _), (2, _), (3, _), (4, _)]) [3, 4, 5, 1, 0] rfl ?_
              refine ih (n - (j + 1)) (by omega) (j + 1) _ rfl (by omega) ?_
              first
                | exact twI_skip hinv (fun h => absurd h (zp_0.mp c20))
                | exact twI_skip hinv (fun _ => c41)
                | exact twI_same hinv c46 (zp_n.mp c20) c52
                | exact (by rw [c52]; exact twI_same hinv c46 (zp_n.mp c20) c52)
                | exact twI_first (c46 ▸ hinv) (zp_n.mp c20) c41
                | exact absurd rfl c60
                | exact absurd rfl c41
                | exact absurd c60 (by assumption)
                | exact absurd (by assumption) c60
            · refine wm_iload_n 64 rfl dX1_haveTwoKeys_63 rfl rfl ?_
              refine wm_goto 69 (by decide) dX1_haveTwoKeys_64 ?_
              refine wm_istore_n (ls' := [(3, _), (5, _), (0, _), (1, _), (2, _), (4, _)]) 70 rfl dX1_haveTwoKeys_69 rfl (by decide) rfl ?_
              refine wm_iinc (ls' := [(4, _), (3, _), (5, _), (0, _), (1, _), (2, _)]) 73 rfl dX1_haveTwoKeys_70 rfl (nI_inc _) (by decide) rfl ?_
              refine wm_goto 5 (by decide) dX1_haveTwoKeys_73 ?_
              refine wm_loc (ls2 := [(0, _), (1, _), (2, _), (3, _), (4, _)]) [3, 4, 5, 1, 0] rfl ?_
              refine ih (n - (j + 1)) (by omega) (j + 1) _ rfl (by omega) ?_
              first
                | exact twI_skip hinv (fun h => absurd h (zp_0.mp c20))
                | exact twI_skip hinv (fun _ => c41)
                | exact twI_same hinv c46 (zp_n.mp c20) c52
                | exact (by rw [c52]; exact twI_same hinv c46 (zp_n.mp c20) c52)
                | exact twI_first (c46 ▸ hinv) (zp_n.mp c20) c41
                | exact absurd rfl c60
                | exact absurd rfl c41
                | exact absurd c60 (by assumption)
                | exact absurd (by assumption) c60
          · refine wm_iload_n 45 rfl dX1_haveTwoKeys_44 rfl rfl ?_
            refine wm_iconst (v := (-1)) 46 rfl dX1_haveTwoKeys_45 (by decide) ?_
            refine wm_icmp_eq 57 49 rfl (by decide) dX1_haveTwoKeys_46 (fun c46 => ?_) (fun c46 => ?_)
            · refine wm_iload 59 rfl dX1_haveTwoKeys_57 rfl ?_
              refine wm_iconst (v := (-1)) 60 rfl dX1_haveTwoKeys_59 (by decide) ?_
              refine wm_icmp_ne 67 63 rfl (by decide) dX1_haveTwoKeys_60 (fun c60 => ?_) (fun c60 => ?_)
              · refine wm_iload 69 rfl dX1_haveTwoKeys_67 rfl ?_
                refine wm_istore_n (ls' := [(3, _), (5, _), (0, _), (1, _), (2, _), (4, _)]) 70 rfl dX1_haveTwoKeys_69 rfl (by decide) rfl ?_
                refine wm_iinc (ls' := [(4, _), (3, _), (5, _), (0, _), (1, _), (2, _)]) 73 rfl dX1_haveTwoKeys_70 rfl (nI_inc _) (by decide) rfl ?_
                refine wm_goto 5 (by decide) dX1_haveTwoKeys_73 ?_
                refine wm_loc (ls2 := [(0, _), (1, _), (2, _), (3, _), (4, _)]) [3, 4, 5, 1, 0] rfl ?_
                refine ih (n - (j + 1)) (by omega) (j + 1) _ rfl (by omega) ?_
                first
                  | exact twI_skip hinv (fun h => absurd h (zp_0.mp c20))
                  | exact twI_skip hinv (fun _ => c41)
                  | exact twI_same hinv c46 (zp_n.mp c20) c52
                  | exact (by rw [c52]; exact twI_same hinv c46 (zp_n.mp c20) c52)
                  | exact twI_first (c46 ▸ hinv) (zp_n.mp c20) c41
                  | exact absurd rfl c60
                  | exact absurd rfl c41
                  | exact absurd c60 (by assumption)
                  | exact absurd (by assumption) c60
              · refine wm_iload_n 64 rfl dX1_haveTwoKeys_63 rfl rfl ?_
                refine wm_goto 69 (by decide) dX1_haveTwoKeys_64 ?_
                refine wm_istore_n (ls' := [(3, _), (5, _), (0, _), (1, _), (2, _), (4, _)]) 70 rfl dX1_haveTwoKeys_69 rfl (by decide) rfl ?_
                refine wm_iinc (ls' := [(4, _), (3, _), (5, _), (0, _), (1, _), (2, _)]) 73 rfl dX1_haveTwoKeys_70 rfl (nI_inc _) (by decide) rfl ?_
                refine wm_goto 5 (by decide) dX1_haveTwoKeys_73 ?_
                refine wm_loc (ls2 := [(0, _), (1, _), (2, _), (3, _), (4, _)]) [3, 4, 5, 1, 0] rfl ?_
                refine ih (n - (j + 1)) (by omega) (j + 1) _ rfl (by omega) ?_
                first
                  | exact twI_skip hinv (fun h => absurd h (zp_0.mp c20))
                  | exact twI_skip hinv (fun _ => c41)
                  | exact twI_same hinv c46 (zp_n.mp c20) c52
                  | exact (by rw [c52]; exact twI_same hinv c46 (zp_n.mp c20) c52)
                  | exact twI_first (c46 ▸ hinv) (zp_n.mp c20) c41
                  | exact absurd rfl c60
                  | exact absurd rfl c41
                  | exact absurd c60 (by assumption)
                  | exact absurd (by assumption) c60
            · refine wm_iload 51 rfl dX1_haveTwoKeys_49 rfl ?_
              refine wm_iload_n 52 rfl dX1_haveTwoKeys_51 rfl rfl ?_
              refine wm_icmp_eq 57 55 rfl (by decide) dX1_haveTwoKeys_52 (fun c52 => ?_) (fun c52 => ?_)
              · refine wm_iload 59 rfl dX1_haveTwoKeys_57 rfl ?_
                refine wm_iconst (v := (-1)) 60 rfl dX1_haveTwoKeys_59 (by decide) ?_
                refine wm_icmp_ne 67 63 rfl (by decide) dX1_haveTwoKeys_60 (fun c60 => ?_) (fun c60 => ?_)
                · refine wm_iload 69 rfl dX1_haveTwoKeys_67 rfl ?_
                  refine wm_istore_n (ls' := [(3, _), (5, _), (0, _), (1, _), (2, _), (4, _)]) 70 rfl dX1_haveTwoKeys_69 rfl (by decide) rfl ?_
                  refine wm_iinc (ls' := [(4, _), (3, _), (5, _), (0, _), (1, _), (2, _)]) 73 rfl dX1_haveTwoKeys_70 rfl (nI_inc _) (by decide) rfl ?_
                  refine wm_goto 5 (by decide) dX1_haveTwoKeys_73 ?_
                  refine wm_loc (ls2 := [(0, _), (1, _), (2, _), (3, _), (4, _)]) [3, 4, 5, 1, 0] rfl ?_
                  refine ih (n - (j + 1)) (by omega) (j + 1) _ rfl (by omega) ?_
                  first
                    | exact twI_skip hinv (fun h => absurd h (zp_0.mp c20))
                    | exact twI_skip hinv (fun _ => c41)
                    | exact twI_same hinv c46 (zp_n.mp c20) c52
                    | exact (by rw [c52]; exact twI_same hinv c46 (zp_n.mp c20) c52)
                    | exact twI_first (c46 ▸ hinv) (zp_n.mp c20) c41
                    | exact absurd rfl c60
                    | exact absurd rfl c41
                    | exact absurd c60 (by assumption)
                    | exact absurd (by assumption) c60
                · refine wm_iload_n 64 rfl dX1_haveTwoKeys_63 rfl rfl ?_
                  refine wm_goto 69 (by decide) dX1_haveTwoKeys_64 ?_
                  refine wm_istore_n (ls' := [(3, _), (5, _), (0, _), (1, _), (2, _), (4, _)]) 70 rfl dX1_haveTwoKeys_69 rfl (by decide) rfl ?_
                  refine wm_iinc (ls' := [(4, _), (3, _), (5, _), (0, _), (1, _), (2, _)]) 73 rfl dX1_haveTwoKeys_70 rfl (nI_inc _) (by decide) rfl ?_
                  refine wm_goto 5 (by decide) dX1_haveTwoKeys_73 ?_
                  refine wm_loc (ls2 := [(0, _), (1, _), (2, _), (3, _), (4, _)]) [3, 4, 5, 1, 0] rfl ?_
                  refine ih (n - (j + 1)) (by omega) (j + 1) _ rfl (by omega) ?_
                  first
                    | exact twI_skip hinv (fun h => absurd h (zp_0.mp c20))
                    | exact twI_skip hinv (fun _ => c41)
                    | exact twI_same hinv c46 (zp_n.mp c20) c52
                    | exact (by rw [c52]; exact twI_same hinv c46 (zp_n.mp c20) c52)
                    | exact twI_first (c46 ▸ hinv) (zp_n.mp c20) c41
                    | exact absurd rfl c60
                    | exact absurd rfl c41
                    | exact absurd c60 (by assumption)
                    | exact absurd (by assumption) c60
              · refine wm_iconst (v := 1) 56 rfl dX1_haveTwoKeys_55 (by decide) ?_
                exact wm_iret dX1_haveTwoKeys_56 (by first | rfl | exact zp_nar) (pP_i (zp_t (by first | exact twI_two hinv g c46 (zp_n.mp c20) c41 c52 | exact absurd rfl c41)))
        · refine wm_aload_n 24 rfl dX1_haveTwoKeys_23 rfl rfl ?_
          refine wm_getR 27 rfl dX1_haveTwoKeys_24 gf_X1_23_0 rfl rfl ?_
          refine wm_iload_n 28 rfl dX1_haveTwoKeys_27 rfl rfl ?_
          refine wm_aaload (r := 7 + k) 29 rfl dX1_haveTwoKeys_28 rfl (vp_in_nI hk (by omega)) (by rw [nI_clamp (by omega)]) ?_
          refine wm_iload 31 rfl dX1_haveTwoKeys_29 rfl ?_
          refine wm_iaload 32 rfl dX1_haveTwoKeys_31 (Lc_key hk) (in24 g h24) ?_
          rw [nI_clamp (by omega)]
          refine wm_goto 36 (by decide) dX1_haveTwoKeys_32 ?_
          refine wm_istore (ls' := [(5, _), (0, _), (1, _), (2, _), (3, _), (4, _)]) 38 rfl dX1_haveTwoKeys_36 (by decide) rfl ?_
          refine wm_iload 40 rfl dX1_haveTwoKeys_38 rfl ?_
          refine wm_iconst (v := (-1)) 41 rfl dX1_haveTwoKeys_40 (by decide) ?_
          refine wm_icmp_eq 57 44 rfl (by decide) dX1_haveTwoKeys_41 (fun c41 => ?_) (fun c41 => ?_)
          · refine wm_iload 59 rfl dX1_haveTwoKeys_57 rfl ?_
            refine wm_iconst (v := (-1)) 60 rfl dX1_haveTwoKeys_59 (by decide) ?_
            refine wm_icmp_ne 67 63 rfl (by decide) dX1_haveTwoKeys_60 (fun c60 => ?_) (fun c60 => ?_)
            · refine wm_iload 69 rfl dX1_haveTwoKeys_67 rfl ?_
              refine wm_istore_n (ls' := [(3, _), (5, _), (0, _), (1, _), (2, _), (4, _)]) 70 rfl dX1_haveTwoKeys_69 rfl (by decide) rfl ?_
              refine wm_iinc (ls' := [(4, _), (3, _), (5, _), (0, _), (1, _), (2, _)]) 73 rfl dX1_haveTwoKeys_70 rfl (nI_inc _) (by decide) rfl ?_
              refine wm_goto 5 (by decide) dX1_haveTwoKeys_73 ?_
              refine wm_loc (ls2 := [(0, _), (1, _), (2, _), (3, _), (4, _)]) [3, 4, 5, 1, 0] rfl ?_
              refine ih (n - (j + 1)) (by omega) (j + 1) _ rfl (by omega) ?_
              first
                | exact twI_skip hinv (fun h => absurd h (zp_0.mp c20))
                | exact twI_skip hinv (fun _ => c41)
                | exact twI_same hinv c46 (zp_n.mp c20) c52
                | exact (by rw [c52]; exact twI_same hinv c46 (zp_n.mp c20) c52)
                | exact twI_first (c46 ▸ hinv) (zp_n.mp c20) c41
                | exact absurd rfl c60
                | exact absurd rfl c41
                | exact absurd c60 (by assumption)
                | exact absurd (by assumption) c60
            · refine wm_iload_n 64 rfl dX1_haveTwoKeys_63 rfl rfl ?_
              refine wm_goto 69 (by decide) dX1_haveTwoKeys_64 ?_
              refine wm_istore_n (ls' := [(3, _), (5, _), (0, _), (1, _), (2, _), (4, _)]) 70 rfl dX1_haveTwoKeys_69 rfl (by decide) rfl ?_
              refine wm_iinc (ls' := [(4, _), (3, _), (5, _), (0, _), (1, _), (2, _)]) 73 rfl dX1_haveTwoKeys_70 rfl (nI_inc _) (by decide) rfl ?_
              refine wm_goto 5 (by decide) dX1_haveTwoKeys_73 ?_
              refine wm_loc (ls2 := [(0, _), (1, _), (2, _), (3, _), (4, _)]) [3, 4, 5, 1, 0] rfl ?_
              refine ih (n - (j + 1)) (by omega) (j + 1) _ rfl (by omega) ?_
              first
                | exact twI_skip hinv (fun h => absurd h (zp_0.mp c20))
                | exact twI_skip hinv (fun _ => c41)
                | exact twI_same hinv c46 (zp_n.mp c20) c52
                | exact (by rw [c52]; exact twI_same hinv c46 (zp_n.mp c20) c52)
                | exact twI_first (c46 ▸ hinv) (zp_n.mp c20) c41
                | exact absurd rfl c60
                | exact absurd rfl c41
                | exact absurd c60 (by assumption)
                | exact absurd (by assumption) c60
          · refine wm_iload_n 45 rfl dX1_haveTwoKeys_44 rfl rfl ?_
            refine wm_iconst (v := (-1)) 46 rfl dX1_haveTwoKeys_45 (by decide) ?_
            refine wm_icmp_eq 57 49 rfl (by decide) dX1_haveTwoKeys_46 (fun c46 => ?_) (fun c46 => ?_)
            · refine wm_iload 59 rfl dX1_haveTwoKeys_57 rfl ?_
              refine wm_iconst (v := (-1)) 60 rfl dX1_haveTwoKeys_59 (by decide) ?_
              refine wm_icmp_ne 67 63 rfl (by decide) dX1_haveTwoKeys_60 (fun c60 => ?_) (fun c60 => ?_)
              · refine wm_iload 69 rfl dX1_haveTwoKeys_67 rfl ?_
                refine wm_istore_n (ls' := [(3, _), (5, _), (0, _), (1, _), (2, _), (4, _)]) 70 rfl dX1_haveTwoKeys_69 rfl (by decide) rfl ?_
                refine wm_iinc (ls' := [(4, _), (3, _), (5, _), (0, _), (1, _), (2, _)]) 73 rfl dX1_haveTwoKeys_70 rfl (nI_inc _) (by decide) rfl ?_
                refine wm_goto 5 (by decide) dX1_haveTwoKeys_73 ?_
                refine wm_loc (ls2 := [(0, _), (1, _), (2, _), (3, _), (4, _)]) [3, 4, 5, 1, 0] rfl ?_
                refine ih (n - (j + 1)) (by omega) (j + 1) _ rfl (by omega) ?_
                first
                  | exact twI_skip hinv (fun h => absurd h (zp_0.mp c20))
                  | exact twI_skip hinv (fun _ => c41)
                  | exact twI_same hinv c46 (zp_n.mp c20) c52
                  | exact (by rw [c52]; exact twI_same hinv c46 (zp_n.mp c20) c52)
                  | exact twI_first (c46 ▸ hinv) (zp_n.mp c20) c41
                  | exact absurd rfl c60
                  | exact absurd rfl c41
                  | exact absurd c60 (by assumption)
                  | exact absurd (by assumption) c60
              · refine wm_iload_n 64 rfl dX1_haveTwoKeys_63 rfl rfl ?_
                refine wm_goto 69 (by decide) dX1_haveTwoKeys_64 ?_
                refine wm_istore_n (ls' := [(3, _), (5, _), (0, _), (1, _), (2, _), (4, _)]) 70 rfl dX1_haveTwoKeys_69 rfl (by decide) rfl ?_
                refine wm_iinc (ls' := [(4, _), (3, _), (5, _), (0, _), (1, _), (2, _)]) 73 rfl dX1_haveTwoKeys_70 rfl (nI_inc _) (by decide) rfl ?_
                refine wm_goto 5 (by decide) dX1_haveTwoKeys_73 ?_
                refine wm_loc (ls2 := [(0, _), (1, _), (2, _), (3, _), (4, _)]) [3, 4, 5, 1, 0] rfl ?_
                refine ih (n - (j + 1)) (by omega) (j + 1) _ rfl (by omega) ?_
                first
                  | exact twI_skip hinv (fun h => absurd h (zp_0.mp c20))
                  | exact twI_skip hinv (fun _ => c41)
                  | exact twI_same hinv c46 (zp_n.mp c20) c52
                  | exact (by rw [c52]; exact twI_same hinv c46 (zp_n.mp c20) c52)
                  | exact twI_first (c46 ▸ hinv) (zp_n.mp c20) c41
                  | exact absurd rfl c60
                  | exact absurd rfl c41
                  | exact absurd c60 (by assumption)
                  | exact absurd (by assumption) c60
            · refine wm_iload 51 rfl dX1_haveTwoKeys_49 rfl ?_
              refine wm_iload_n 52 rfl dX1_haveTwoKeys_51 rfl rfl ?_
              refine wm_icmp_eq 57 55 rfl (by decide) dX1_haveTwoKeys_52 (fun c52 => ?_) (fun c52 => ?_)
              · refine wm_iload 59 rfl dX1_haveTwoKeys_57 rfl ?_
                refine wm_iconst (v := (-1)) 60 rfl dX1_haveTwoKeys_59 (by decide) ?_
                refine wm_icmp_ne 67 63 rfl (by decide) dX1_haveTwoKeys_60 (fun c60 => ?_) (fun c60 => ?_)
                · refine wm_iload 69 rfl dX1_haveTwoKeys_67 rfl ?_
                  refine wm_istore_n (ls' := [(3, _), (5, _), (0, _), (1, _), (2, _), (4, _)]) 70 rfl dX1_haveTwoKeys_69 rfl (by decide) rfl ?_
                  refine wm_iinc (ls' := [(4, _), (3, _), (5, _), (0, _), (1, _), (2, _)]) 73 rfl dX1_haveTwoKeys_70 rfl (nI_inc _) (by decide) rfl ?_
                  refine wm_goto 5 (by decide) dX1_haveTwoKeys_73 ?_
                  refine wm_loc (ls2 := [(0, _), (1, _), (2, _), (3, _), (4, _)]) [3, 4, 5, 1, 0] rfl ?_
                  refine ih (n - (j + 1)) (by omega) (j + 1) _ rfl (by omega) ?_
                  first
                    | exact twI_skip hinv (fun h => absurd h (zp_0.mp c20))
                    | exact twI_skip hinv (fun _ => c41)
                    | exact twI_same hinv c46 (zp_n.mp c20) c52
                    | exact (by rw [c52]; exact twI_same hinv c46 (zp_n.mp c20) c52)
                    | exact twI_first (c46 ▸ hinv) (zp_n.mp c20) c41
                    | exact absurd rfl c60
                    | exact absurd rfl c41
                    | exact absurd c60 (by assumption)
                    | exact absurd (by assumption) c60
                · refine wm_iload_n 64 rfl dX1_haveTwoKeys_63 rfl rfl ?_
                  refine wm_goto 69 (by decide) dX1_haveTwoKeys_64 ?_
                  refine wm_istore_n (ls' := [(3, _), (5, _), (0, _), (1, _), (2, _), (4, _)]) 70 rfl dX1_haveTwoKeys_69 rfl (by decide) rfl ?_
                  refine wm_iinc (ls' := [(4, _), (3, _), (5, _), (0, _), (1, _), (2, _)]) 73 rfl dX1_haveTwoKeys_70 rfl (nI_inc _) (by decide) rfl ?_
                  refine wm_goto 5 (by decide) dX1_haveTwoKeys_73 ?_
                  refine wm_loc (ls2 := [(0, _), (1, _), (2, _), (3, _), (4, _)]) [3, 4, 5, 1, 0] rfl ?_
                  refine ih (n - (j + 1)) (by omega) (j + 1) _ rfl (by omega) ?_
                  first
                    | exact twI_skip hinv (fun h => absurd h (zp_0.mp c20))
                    | exact twI_skip hinv (fun _ => c41)
                    | exact twI_same hinv c46 (zp_n.mp c20) c52
                    | exact (by rw [c52]; exact twI_same hinv c46 (zp_n.mp c20) c52)
                    | exact twI_first (c46 ▸ hinv) (zp_n.mp c20) c41
                    | exact absurd rfl c60
                    | exact absurd rfl c41
                    | exact absurd c60 (by assumption)
                    | exact absurd (by assumption) c60
              · refine wm_iconst (v := 1) 56 rfl dX1_haveTwoKeys_55 (by decide) ?_
                exact wm_iret dX1_haveTwoKeys_56 (by first | rfl | exact zp_nar) (pP_i (zp_t (by first | exact twI_two hinv g c46 (zp_n.mp c20) c41 c52 | exact absurd rfl c41)))
  refine wm_iconst (v := (-1)) 1 rfl dX1_haveTwoKeys_0 (by decide) ?_
  refine wm_istore_n (ls' := [(3, _), (0, _), (1, _), (2, _)]) 2 rfl dX1_haveTwoKeys_1 rfl (by decide) rfl ?_
  refine wm_iconst (v := 0) 3 rfl dX1_haveTwoKeys_2 (by decide) ?_
  refine wm_istore (ls' := [(4, _), (3, _), (0, _), (1, _), (2, _)]) 5 rfl dX1_haveTwoKeys_3 (by decide) rfl ?_
  refine wm_loc (ls2 := [(0, _), (1, _), (2, _), (3, _), (4, _)]) [2, 3, 4, 1, 0] rfl ?_
  exact lp n 0 (-1) rfl (Nat.zero_le _) (Or.inl ⟨rfl, fun i hi => absurd hi (Nat.not_lt_zero i)⟩)
theorem k_X1_haveForbiddenPair (l : Launch) {σ : Sg} {n : Nat} (hI : cI σ n) (m : Int32) : cMi l yX1_haveForbiddenPair cX1_haveForbiddenPair 3 .boolean 1 Lc [.ref 1, .int m] σ (pP σ (zp (fbP σ n m))) := by
  have h24 := hI.2
  refine zMet_of (by decide +kernel) (Nat.le_of_ble_eq_true rfl) (fun D cT ad sz => ?_)
  show Wm (fun _ => True) l (rmh 1) RX1 cX1_haveForbiddenPair 3 (some .boolean) D cT ad Lc (zA ad Lc.length sz) (zZ (fun D cT ad L sz => zQi D cT ad L sz (pP σ (zp (fbP σ n m)))) D cT ad Lc sz) [] 0 (lv_args 0 [.ref 1, .int m]) [] σ 0 0
  have lp : ∀ (q9 j : Nat), n - j = q9 → j ≤ n → (∀ i, i < j → ¬ (tb m i = true ∧ ¬ (σ 13 i &&& m = 0))) → Wm (fun _ => True) l (rmh 1) RX1 cX1_haveForbiddenPair 3 (some .boolean) D cT ad Lc (zA ad Lc.length sz) (zZ (fun D cT ad L sz => zQi D cT ad L sz (pP σ (zp (fbP σ n m)))) D cT ad Lc sz) [] 2 [(0, .ref 1), (1, .int m), (2, .int (nI j))] [] σ 0 0 := by
    intro q9
    induction q9 using Nat.strongRecOn with
    | ind q9 ih =>
      intro j  hm hj hinv
      refine wm_iload_n 3 rfl dX1_haveForbiddenPair_2 rfl rfl ?_
      refine wm_aload_n 4 rfl dX1_haveForbiddenPair_3 rfl rfl ?_
      refine wm_getI 7 rfl dX1_haveForbiddenPair_4 gf_X1_36_0 rfl rfl ?_
      refine wm_icmp_ge 37 10 rfl (by decide) dX1_haveForbiddenPair_7 (fun c7 => ?_) (fun c7 => ?_)
      · rw [hI.1] at c7
        have g : j = n := by have := le_of_nI c7 (by omega) (by omega); omega
        refine wm_iconst (v := 0) 38 rfl dX1_haveForbiddenPair_37 (by decide) ?_
        exact wm_iret dX1_haveForbiddenPair_38 (by first | rfl | exact zp_nar) (pP_i (zp_f (by subst g; rintro ⟨a, h1, h2⟩; exact hinv a h1 h2)))
      · rw [hI.1] at c7
        have g : j < n := lt_of_nnI c7 (by omega) (by omega)
        refine wm_iload_n 11 rfl dX1_haveForbiddenPair_10 rfl rfl ?_
        refine wm_iload_n 12 rfl dX1_haveForbiddenPair_11 rfl rfl ?_
        refine wm_callSi (ty := .boolean) 15 rfl dX1_haveForbiddenPair_12 (k_X1_isIn l m (i := j) (by omega)) ca_X1_isIn aw_8_1 aw_8_0 ⟨Nat.le_of_ble_eq_true rfl, Nat.le_of_ble_eq_true rfl⟩ (Nat.le_of_ble_eq_true rfl) ⟨Nat.zero_le _, Nat.zero_le _⟩ ?_
        rintro r9 σ9 ⟨rfl, rfl⟩
        refine wm_if_eq 31 18 rfl (by decide) dX1_haveForbiddenPair_15 (fun c15 => ?_) (fun c15 => ?_)
        · refine wm_iinc (ls' := [(2, _), (0, _), (1, _)]) 34 rfl dX1_haveForbiddenPair_31 rfl (nI_inc _) (by decide) rfl ?_
          refine wm_goto 2 (by decide) dX1_haveForbiddenPair_34 ?_
          refine wm_loc (ls2 := [(0, _), (1, _), (2, _)]) [1, 2, 0] rfl ?_
          refine ih (n - (j + 1)) (by omega) (j + 1) rfl (by omega) (lt_s hinv ?_)
          first
            | exact fun h => zp_0.mp c15 h.1
            | exact fun h => h.2 c26
        · refine wm_aload_n 19 rfl dX1_haveForbiddenPair_18 rfl rfl ?_
          refine wm_getR 22 rfl dX1_haveForbiddenPair_19 gf_X1_29_0 rfl rfl ?_
          refine wm_iload_n 23 rfl dX1_haveForbiddenPair_22 rfl rfl ?_
          refine wm_iaload 24 rfl dX1_haveForbiddenPair_23 rfl (in24 g h24) ?_
          refine wm_iload_n 25 rfl dX1_haveForbiddenPair_24 rfl rfl ?_
          refine wm_iand 26 rfl dX1_haveForbiddenPair_25 ?_
          refine wm_if_eq 31 29 rfl (by decide) dX1_haveForbiddenPair_26 (fun c26 => ?_) (fun c26 => ?_)
          · rw [nI_clamp (by omega)] at c26
            refine wm_iinc (ls' := [(2, _), (0, _), (1, _)]) 34 rfl dX1_haveForbiddenPair_31 rfl (nI_inc _) (by decide) rfl ?_
            refine wm_goto 2 (by decide) dX1_haveForbiddenPair_34 ?_
            refine wm_loc (ls2 := [(0, _), (1, _), (2, _)]) [1, 2, 0] rfl ?_
            refine ih (n - (j + 1)) (by omega) (j + 1) rfl (by omega) (lt_s hinv ?_)
            first
              | exact fun h => zp_0.mp c15 h.1
              | exact fun h => h.2 c26
          · rw [nI_clamp (by omega)] at c26
            refine wm_iconst (v := 1) 30 rfl dX1_haveForbiddenPair_29 (by decide) ?_
            exact wm_iret dX1_haveForbiddenPair_30 (by first | rfl | exact zp_nar) (pP_i (zp_t ⟨j, g, zp_n.mp c15, c26⟩))
  refine wm_iconst (v := 0) 1 rfl dX1_haveForbiddenPair_0 (by decide) ?_
  refine wm_istore_n (ls' := [(2, _), (0, _), (1, _)]) 2 rfl dX1_haveForbiddenPair_1 rfl (by decide) rfl ?_
  refine wm_loc (ls2 := [(0, _), (1, _), (2, _)]) [1, 2, 0] rfl ?_
  exact lp n 0 rfl (Nat.zero_le _) (fun i hi => absurd hi (Nat.not_lt_zero i))
theorem k_X1_mayJoin (l : Launch) {σ : Sg} {n : Nat} (hI : cI σ n) (m : Int32) {k : Nat} (hk : k < 3) : cMi l yX1_mayJoin cX1_mayJoin 4 .boolean 2 Lc [.ref 1, .int m, .int (nI k)] σ (pP σ (zp (mjP σ n m k))) := by
  have h24 := hI.2
  refine zMet_of (by decide +kernel) (Nat.le_of_ble_eq_true rfl) (fun D cT ad sz => ?_)
  show Wm (fun _ => True) l (rmh 2) RX1 cX1_mayJoin 4 (some .boolean) D cT ad Lc (zA ad Lc.length sz) (zZ (fun D cT ad L sz => zQi D cT ad L sz (pP σ (zp (mjP σ n m k)))) D cT ad Lc sz) [] 0 (lv_args 0 [.ref 1, .int m, .int (nI k)]) [] σ 0 0
  have lp : ∀ (q9 j : Nat), k - j = q9 → j ≤ k → (∀ s, s < j → ¬ twoK σ n m s) → Wm (fun _ => True) l (rmh 2) RX1 cX1_mayJoin 4 (some .boolean) D cT ad Lc (zA ad Lc.length sz) (zZ (fun D cT ad L sz => zQi D cT ad L sz (pP σ (zp (mjP σ n m k)))) D cT ad Lc sz) [] 2 [(0, .ref 1), (1, .int m), (2, .int (nI k)), (3, .int (nI j))] [] σ 0 0 := by
    intro q9
    induction q9 using Nat.strongRecOn with
    | ind q9 ih =>
      intro j  hm hj hinv
      refine wm_iload_n 3 rfl dX1_mayJoin_2 rfl rfl ?_
      refine wm_iload_n 4 rfl dX1_mayJoin_3 rfl rfl ?_
      refine wm_icmp_ge 24 7 rfl (by decide) dX1_mayJoin_4 (fun c4 => ?_) (fun c4 => ?_)
      · have g : j = k := by have := le_of_nI c4 (by omega) (by omega); omega
        refine wm_aload_n 25 rfl dX1_mayJoin_24 rfl rfl ?_
        refine wm_iload_n 26 rfl dX1_mayJoin_25 rfl rfl ?_
        refine wm_callVi (ty := .boolean) 29 rfl dX1_mayJoin_26 (k_X1_haveForbiddenPair l hI m) ca_X1_haveForbiddenPair cv_X1_haveForbiddenPair rfl aw_18_14 rfl rfl ⟨Nat.le_of_ble_eq_true rfl, Nat.le_of_ble_eq_true rfl⟩ (Nat.le_of_ble_eq_true rfl) ⟨Nat.zero_le _, Nat.zero_le _⟩ ?_
        rintro r9 σ9 ⟨rfl, rfl⟩
        refine wm_if_ne 36 32 rfl (by decide) dX1_mayJoin_29 (fun c29 => ?_) (fun c29 => ?_)
        · refine wm_iconst (v := 0) 37 rfl dX1_mayJoin_36 (by decide) ?_
          exact wm_iret dX1_mayJoin_37 (by first | rfl | exact zp_nar) (pP_i (zp_f (fun h => h.2 (zp_n.mp c29))))
        · refine wm_iconst (v := 1) 33 rfl dX1_mayJoin_32 (by decide) ?_
          refine wm_goto 37 (by decide) dX1_mayJoin_33 ?_
          exact wm_iret dX1_mayJoin_37 (by first | rfl | exact zp_nar) (pP_i (zp_t ⟨by subst g; exact hinv, zp_0.mp c29⟩))
      · have g : j < k := lt_of_nnI c4 (by omega) (by omega)
        refine wm_aload_n 8 rfl dX1_mayJoin_7 rfl rfl ?_
        refine wm_iload_n 9 rfl dX1_mayJoin_8 rfl rfl ?_
        refine wm_iload_n 10 rfl dX1_mayJoin_9 rfl rfl ?_
        refine wm_callVi (ty := .boolean) 13 rfl dX1_mayJoin_10 (k_X1_haveTwoKeys l hI m (k := j) (by omega)) ca_X1_haveTwoKeys cv_X1_haveTwoKeys rfl aw_18_10 rfl rfl ⟨Nat.le_of_ble_eq_true rfl, Nat.le_of_ble_eq_true rfl⟩ (Nat.le_of_ble_eq_true rfl) ⟨Nat.zero_le _, Nat.zero_le _⟩ ?_
        rintro r9 σ9 ⟨rfl, rfl⟩
        refine wm_if_eq 18 16 rfl (by decide) dX1_mayJoin_13 (fun c13 => ?_) (fun c13 => ?_)
        · refine wm_iinc (ls' := [(3, _), (0, _), (1, _), (2, _)]) 21 rfl dX1_mayJoin_18 rfl (nI_inc _) (by decide) rfl ?_
          refine wm_goto 2 (by decide) dX1_mayJoin_21 ?_
          refine wm_loc (ls2 := [(0, _), (1, _), (2, _), (3, _)]) [1, 2, 3, 0] rfl ?_
          exact ih (k - (j + 1)) (by omega) (j + 1) rfl (by omega) (lt_s hinv (zp_0.mp c13))
        · refine wm_iconst (v := 0) 17 rfl dX1_mayJoin_16 (by decide) ?_
          exact wm_iret dX1_mayJoin_17 (by first | rfl | exact zp_nar) (pP_i (zp_f (fun h => h.1 j g (zp_n.mp c13))))
  refine wm_iconst (v := 0) 1 rfl dX1_mayJoin_0 (by decide) ?_
  refine wm_istore_n (ls' := [(3, _), (0, _), (1, _), (2, _)]) 2 rfl dX1_mayJoin_1 rfl (by decide) rfl ?_
  refine wm_loc (ls2 := [(0, _), (1, _), (2, _), (3, _)]) [1, 2, 3, 0] rfl ?_
  exact lp k 0 rfl (Nat.zero_le _) (fun i hi => absurd hi (Nat.not_lt_zero i))
/-- the weight, and who goes first, in the machine's own numbers -/
def wg (σ : Sg) (a : Nat) (d : Int32) : Int32 := σ 2 (σ 3 a).toNatClampNeg - (d - σ 4 a) / 10
def ahP (w1 w2 s1 s2 : Int32) (a b : Nat) : Prop := (w1 ≠ w2 ∧ w2 < w1) ∨ (w1 = w2 ∧ ((s1 ≠ s2 ∧ s2 < s1) ∨ (s1 = s2 ∧ b < a)))
def cS (σ : Sg) (n : Nat) : Prop := ∀ a, a < n → ∃ s, s < 4 ∧ σ 3 a = nI s
theorem lt_of_nIlt {a b : Nat} (h : nI a < nI b) (ha : a < 2 ^ 31) (hb : b < 2 ^ 31) : a < b := (nI_ltI ha hb).mp h
theorem k_X1_weigh (l : Launch) {σ : Sg} {n : Nat} (h24 : n ≤ 24) (hS : cS σ n) {a : Nat} (ha : a < n) (d : Int32) : cMi l yX1_weigh cX1_weigh 3 .int 0 Lc [.ref 1, .int (nI a), .int d] σ (pP σ (wg σ a d)) := by
  refine zMet_of (by decide +kernel) (Nat.le_of_ble_eq_true rfl) (fun D cT ad sz => ?_)
  show Wm (fun _ => True) l (rmh 0) RX1 cX1_weigh 3 (some .int) D cT ad Lc (zA ad Lc.length sz) (zZ (fun D cT ad L sz => zQi D cT ad L sz (pP σ (wg σ a d))) D cT ad Lc sz) [] 0 (lv_args 0 [.ref 1, .int (nI a), .int d]) [] σ 0 0
  refine wm_aload_n 1 rfl dX1_weigh_0 rfl rfl ?_
  refine wm_getR 4 rfl dX1_weigh_1 gf_X1_9_0 rfl rfl ?_
  refine wm_aload_n 5 rfl dX1_weigh_4 rfl rfl ?_
  refine wm_getR 8 rfl dX1_weigh_5 gf_X1_15_0 rfl rfl ?_
  refine wm_iload_n 9 rfl dX1_weigh_8 rfl rfl ?_
  refine wm_iaload 10 rfl dX1_weigh_9 rfl (in24 ha h24) ?_
  rw [nI_clamp (by omega)]
  obtain ⟨s, hs, es⟩ := hS a ha
  refine wm_iaload 11 rfl dX1_weigh_10 rfl (by rw [es]; exact vp_in_nI hs (by omega)) ?_
  refine wm_iload_n 12 rfl dX1_weigh_11 rfl rfl ?_
  refine wm_aload_n 13 rfl dX1_weigh_12 rfl rfl ?_
  refine wm_getR 16 rfl dX1_weigh_13 gf_X1_18_0 rfl rfl ?_
  refine wm_iload_n 17 rfl dX1_weigh_16 rfl rfl ?_
  refine wm_iaload 18 rfl dX1_weigh_17 rfl (in24 ha h24) ?_
  rw [nI_clamp (by omega)]
  refine wm_isub 19 rfl dX1_weigh_18 ?_
  refine wm_bipush (v := 10) 21 rfl dX1_weigh_19 (by decide) ?_
  refine wm_idiv 22 rfl dX1_weigh_21 (by decide) ?_
  refine wm_isub 23 rfl dX1_weigh_22 ?_
  exact wm_iret dX1_weigh_23 (by first | rfl | exact zp_nar) ⟨rfl, rfl⟩
theorem k_X1_isAhead (l : Launch) {σ : Sg} {n : Nat} (h24 : n ≤ 24) (hS : cS σ n) {a b : Nat} (ha : a < n) (hb : b < n) (d : Int32) : cMi l yX1_isAhead cX1_isAhead 6 .boolean 1 Lc [.ref 1, .int (nI a), .int (nI b), .int d] σ (pP σ (zp (ahP (wg σ a d) (wg σ b d) (σ 4 a) (σ 4 b) a b))) := by
  refine zMet_of (by decide +kernel) (Nat.le_of_ble_eq_true rfl) (fun D cT ad sz => ?_)
  show Wm (fun _ => True) l (rmh 1) RX1 cX1_isAhead 6 (some .boolean) D cT ad Lc (zA ad Lc.length sz) (zZ (fun D cT ad L sz => zQi D cT ad L sz (pP σ (zp (ahP (wg σ a d) (wg σ b d) (σ 4 a) (σ 4 b) a b)))) D cT ad Lc sz) [] 0 (lv_args 0 [.ref 1, .int (nI a), .int (nI b), .int d]) [] σ 0 0
  refine wm_aload_n 1 rfl dX1_isAhead_0 rfl rfl ?_
  refine wm_iload_n 2 rfl dX1_isAhead_1 rfl rfl ?_
  refine wm_iload_n 3 rfl dX1_isAhead_2 rfl rfl ?_
  refine wm_callVi (ty := .int) 6 rfl dX1_isAhead_3 (k_X1_weigh l h24 hS ha d) ca_X1_weigh cv_X1_weigh rfl aw_28_6 rfl rfl ⟨Nat.le_of_ble_eq_true rfl, Nat.le_of_ble_eq_true rfl⟩ (Nat.le_of_ble_eq_true rfl) ⟨Nat.zero_le _, Nat.zero_le _⟩ ?_
  rintro r9 σ9 ⟨rfl, rfl⟩
  refine wm_istore (ls' := [(4, _), (0, _), (1, _), (2, _), (3, _)]) 8 rfl dX1_isAhead_6 (by decide) rfl ?_
  refine wm_aload_n 9 rfl dX1_isAhead_8 rfl rfl ?_
  refine wm_iload_n 10 rfl dX1_isAhead_9 rfl rfl ?_
  refine wm_iload_n 11 rfl dX1_isAhead_10 rfl rfl ?_
  refine wm_callVi (ty := .int) 14 rfl dX1_isAhead_11 (k_X1_weigh l h24 hS hb d) ca_X1_weigh cv_X1_weigh rfl aw_28_6 rfl rfl ⟨Nat.le_of_ble_eq_true rfl, Nat.le_of_ble_eq_true rfl⟩ (Nat.le_of_ble_eq_true rfl) ⟨Nat.zero_le _, Nat.zero_le _⟩ ?_
  rintro r9 σ9 ⟨rfl, rfl⟩
  refine wm_istore (ls' := [(5, _), (4, _), (0, _), (1, _), (2, _), (3, _)]) 16 rfl dX1_isAhead_14 (by decide) rfl ?_
  refine wm_iload 18 rfl dX1_isAhead_16 rfl ?_
  refine wm_iload 20 rfl dX1_isAhead_18 rfl ?_
  refine wm_icmp_eq 36 23 rfl (by decide) dX1_isAhead_20 (fun c20 => ?_) (fun c20 => ?_)
  · refine wm_aload_n 37 rfl dX1_isAhead_36 rfl rfl ?_
    refine wm_getR 40 rfl dX1_isAhead_37 gf_X1_18_0 rfl rfl ?_
    refine wm_iload_n 41 rfl dX1_isAhead_40 rfl rfl ?_
    refine wm_iaload 42 rfl dX1_isAhead_41 rfl (in24 (by omega) h24) ?_
    refine wm_aload_n 43 rfl dX1_isAhead_42 rfl rfl ?_
    refine wm_getR 46 rfl dX1_isAhead_43 gf_X1_18_0 rfl rfl ?_
    refine wm_iload_n 47 rfl dX1_isAhead_46 rfl rfl ?_
    refine wm_iaload 48 rfl dX1_isAhead_47 rfl (in24 (by omega) h24) ?_
    refine wm_icmp_eq 72 51 rfl (by decide) dX1_isAhead_48 (fun c48 => ?_) (fun c48 => ?_)
    · rw [nI_clamp (by omega), nI_clamp (by omega)] at c48
      refine wm_iload_n 73 rfl dX1_isAhead_72 rfl rfl ?_
      refine wm_iload_n 74 rfl dX1_isAhead_73 rfl rfl ?_
      refine wm_icmp_le 81 77 rfl (by decide) dX1_isAhead_74 (fun c74 => ?_) (fun c74 => ?_)
      · refine wm_iconst (v := 0) 82 rfl dX1_isAhead_81 (by decide) ?_
        exact wm_iret dX1_isAhead_82 (by first | rfl | exact zp_nar) (pP_i (zp_f (by have := le_of_nI c74 (by omega) (by omega); rintro (⟨h, -⟩ | ⟨-, ⟨h, -⟩ | ⟨-, h⟩⟩) <;> first | exact h c20 | exact h c48 | omega)))
      · refine wm_iconst (v := 1) 78 rfl dX1_isAhead_77 (by decide) ?_
        refine wm_goto 82 (by decide) dX1_isAhead_78 ?_
        exact wm_iret dX1_isAhead_82 (by first | rfl | exact zp_nar) (pP_i (zp_t (Or.inr ⟨c20, Or.inr ⟨c48, lt_of_nnI c74 (by omega) (by omega)⟩⟩)))
    · rw [nI_clamp (by omega), nI_clamp (by omega)] at c48
      refine wm_aload_n 52 rfl dX1_isAhead_51 rfl rfl ?_
      refine wm_getR 55 rfl dX1_isAhead_52 gf_X1_18_0 rfl rfl ?_
      refine wm_iload_n 56 rfl dX1_isAhead_55 rfl rfl ?_
      refine wm_iaload 57 rfl dX1_isAhead_56 rfl (in24 (by omega) h24) ?_
      refine wm_aload_n 58 rfl dX1_isAhead_57 rfl rfl ?_
      refine wm_getR 61 rfl dX1_isAhead_58 gf_X1_18_0 rfl rfl ?_
      refine wm_iload_n 62 rfl dX1_isAhead_61 rfl rfl ?_
      refine wm_iaload 63 rfl dX1_isAhead_62 rfl (in24 (by omega) h24) ?_
      refine wm_icmp_le 70 66 rfl (by decide) dX1_isAhead_63 (fun c63 => ?_) (fun c63 => ?_)
      · rw [nI_clamp (by omega), nI_clamp (by omega)] at c63
        refine wm_iconst (v := 0) 71 rfl dX1_isAhead_70 (by decide) ?_
        exact wm_iret dX1_isAhead_71 (by first | rfl | exact zp_nar) (pP_i (zp_f (by rintro (⟨h, -⟩ | ⟨-, ⟨-, h⟩ | ⟨h, -⟩⟩) <;> first | exact h c20 | exact fa_nle c63 h | exact c48 h)))
      · rw [nI_clamp (by omega), nI_clamp (by omega)] at c63
        refine wm_iconst (v := 1) 67 rfl dX1_isAhead_66 (by decide) ?_
        refine wm_goto 71 (by decide) dX1_isAhead_67 ?_
        exact wm_iret dX1_isAhead_71 (by first | rfl | exact zp_nar) (pP_i (zp_t (Or.inr ⟨c20, Or.inl ⟨c48, fa_nlt c63⟩⟩)))
  · refine wm_iload 25 rfl dX1_isAhead_23 rfl ?_
    refine wm_iload 27 rfl dX1_isAhead_25 rfl ?_
    refine wm_icmp_le 34 30 rfl (by decide) dX1_isAhead_27 (fun c27 => ?_) (fun c27 => ?_)
    · refine wm_iconst (v := 0) 35 rfl dX1_isAhead_34 (by decide) ?_
      exact wm_iret dX1_isAhead_35 (by first | rfl | exact zp_nar) (pP_i (zp_f (by rintro (⟨-, h⟩ | ⟨h, -⟩) <;> first | exact fa_nle c27 h | exact c20 h)))
    · refine wm_iconst (v := 1) 31 rfl dX1_isAhead_30 (by decide) ?_
      refine wm_goto 35 (by decide) dX1_isAhead_31 ?_
      exact wm_iret dX1_isAhead_35 (by first | rfl | exact zp_nar) (pP_i (zp_t (Or.inl ⟨c20, fa_nlt c27⟩)))
end
