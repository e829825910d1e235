section
-- ===== PART A: goes FIRST, ahead of the names: the tables' words, and 'selects' of the private methods out of them =====
/-- a private method of a class that the tables say can be made, by its rows of tables_1 -/
def lw_okq (q : MethodName × Nat) : Prop := (q.1.cls ≠ "java/lang/invoke/MethodHandle" ∧ q.1.cls ≠ "java/lang/invoke/VarHandle") ∧ Cond.instantiable q.1.cls q.2 ∈ tables_1 ∧ Cond.privateMethod q.1 ∈ tables_1 ∧ Cond.instanceMethod q.1 ∈ tables_1
theorem lw_p0 : lw_okq (⟨"Assetmerge", "countThings", "()I"⟩, 6) := ⟨⟨by decide +kernel, by decide +kernel⟩, List.mem_of_getElem? (i := 17) (by decide +kernel), List.mem_of_getElem? (i := 145) (by decide +kernel), List.mem_of_getElem? (i := 146) (by decide +kernel)⟩
theorem lw_p1 : lw_okq (⟨"Assetmerge$Joining", "joinTwo", "(III)V"⟩, 2) := ⟨⟨by decide +kernel, by decide +kernel⟩, List.mem_of_getElem? (i := 74) (by decide +kernel), List.mem_of_getElem? (i := 178) (by decide +kernel), List.mem_of_getElem? (i := 179) (by decide +kernel)⟩
theorem lw_p2 : lw_okq (⟨"Assetmerge$Spreading", "spreadOnce", "(LAssetmerge$Inventory;I)Z"⟩, 2) := ⟨⟨by decide +kernel, by decide +kernel⟩, List.mem_of_getElem? (i := 99) (by decide +kernel), List.mem_of_getElem? (i := 191) (by decide +kernel), List.mem_of_getElem? (i := 192) (by decide +kernel)⟩
theorem lw_p3 : lw_okq (⟨"Assetmerge$Spreading", "areLinked", "(IILAssetmerge$Inventory;I)Z"⟩, 2) := ⟨⟨by decide +kernel, by decide +kernel⟩, List.mem_of_getElem? (i := 99) (by decide +kernel), List.mem_of_getElem? (i := 195) (by decide +kernel), List.mem_of_getElem? (i := 196) (by decide +kernel)⟩
theorem lw_p4 : lw_okq (⟨"Assetmerge$Inventory", "haveTwoKeys", "(II)Z"⟩, 10) := ⟨⟨by decide +kernel, by decide +kernel⟩, List.mem_of_getElem? (i := 25) (by decide +kernel), List.mem_of_getElem? (i := 217) (by decide +kernel), List.mem_of_getElem? (i := 218) (by decide +kernel)⟩
theorem lw_p5 : lw_okq (⟨"Assetmerge$Inventory", "haveForbiddenPair", "(I)Z"⟩, 10) := ⟨⟨by decide +kernel, by decide +kernel⟩, List.mem_of_getElem? (i := 25) (by decide +kernel), List.mem_of_getElem? (i := 221) (by decide +kernel), List.mem_of_getElem? (i := 222) (by decide +kernel)⟩
theorem lw_p6 : lw_okq (⟨"Assetmerge", "isThing", "(I)Z"⟩, 6) := ⟨⟨by decide +kernel, by decide +kernel⟩, List.mem_of_getElem? (i := 17) (by decide +kernel), List.mem_of_getElem? (i := 225) (by decide +kernel), List.mem_of_getElem? (i := 226) (by decide +kernel)⟩
theorem lw_p7 : lw_okq (⟨"Assetmerge", "isMember", "(II)Z"⟩, 6) := ⟨⟨by decide +kernel, by decide +kernel⟩, List.mem_of_getElem? (i := 17) (by decide +kernel), List.mem_of_getElem? (i := 229) (by decide +kernel), List.mem_of_getElem? (i := 230) (by decide +kernel)⟩
theorem lw_p8 : lw_okq (⟨"Assetmerge", "isGhostOn", "(II)Z"⟩, 6) := ⟨⟨by decide +kernel, by decide +kernel⟩, List.mem_of_getElem? (i := 17) (by decide +kernel), List.mem_of_getElem? (i := 238) (by decide +kernel), List.mem_of_getElem? (i := 239) (by decide +kernel)⟩
theorem lw_p9 : lw_okq (⟨"Assetmerge", "findLastSeen", "(I)I"⟩, 6) := ⟨⟨by decide +kernel, by decide +kernel⟩, List.mem_of_getElem? (i := 17) (by decide +kernel), List.mem_of_getElem? (i := 242) (by decide +kernel), List.mem_of_getElem? (i := 243) (by decide +kernel)⟩
theorem lw_p10 : lw_okq (⟨"Assetmerge", "becomesGhostOn", "(I)Z"⟩, 6) := ⟨⟨by decide +kernel, by decide +kernel⟩, List.mem_of_getElem? (i := 17) (by decide +kernel), List.mem_of_getElem? (i := 256) (by decide +kernel), List.mem_of_getElem? (i := 257) (by decide +kernel)⟩
theorem lw_p11 : lw_okq (⟨"Assetmerge", "countMembers", "(I)I"⟩, 6) := ⟨⟨by decide +kernel, by decide +kernel⟩, List.mem_of_getElem? (i := 17) (by decide +kernel), List.mem_of_getElem? (i := 268) (by decide +kernel), List.mem_of_getElem? (i := 269) (by decide +kernel)⟩
theorem lw_p12 : lw_okq (⟨"Assetmerge", "sumMembers", "(I)I"⟩, 6) := ⟨⟨by decide +kernel, by decide +kernel⟩, List.mem_of_getElem? (i := 17) (by decide +kernel), List.mem_of_getElem? (i := 272) (by decide +kernel), List.mem_of_getElem? (i := 273) (by decide +kernel)⟩
theorem lw_p13 : lw_okq (⟨"java/lang/Throwable", "fillInStackTrace", "(I)Ljava/lang/Throwable;"⟩, 6) := ⟨⟨by decide +kernel, by decide +kernel⟩, List.mem_of_getElem? (i := 327) (by decide +kernel), List.mem_of_getElem? (i := 325) (by decide +kernel), List.mem_of_getElem? (i := 326) (by decide +kernel)⟩
theorem lw_p14 : lw_okq (⟨"Assetmerge", "checkSource", "(I)V"⟩, 6) := ⟨⟨by decide +kernel, by decide +kernel⟩, List.mem_of_getElem? (i := 17) (by decide +kernel), List.mem_of_getElem? (i := 385) (by decide +kernel), List.mem_of_getElem? (i := 386) (by decide +kernel)⟩
theorem lw_p15 : lw_okq (⟨"Assetmerge", "checkRecord", "(I)V"⟩, 6) := ⟨⟨by decide +kernel, by decide +kernel⟩, List.mem_of_getElem? (i := 17) (by decide +kernel), List.mem_of_getElem? (i := 428) (by decide +kernel), List.mem_of_getElem? (i := 429) (by decide +kernel)⟩
def lw_privs_1 : List (MethodName × Nat) := [(⟨"Assetmerge", "countThings", "()I"⟩, 6), (⟨"Assetmerge$Joining", "joinTwo", "(III)V"⟩, 2), (⟨"Assetmerge$Spreading", "spreadOnce", "(LAssetmerge$Inventory;I)Z"⟩, 2), (⟨"Assetmerge$Spreading", "areLinked", "(IILAssetmerge$Inventory;I)Z"⟩, 2), (⟨"Assetmerge$Inventory", "haveTwoKeys", "(II)Z"⟩, 10), (⟨"Assetmerge$Inventory", "haveForbiddenPair", "(I)Z"⟩, 10), (⟨"Assetmerge", "isThing", "(I)Z"⟩, 6), (⟨"Assetmerge", "isMember", "(II)Z"⟩, 6), (⟨"Assetmerge", "isGhostOn", "(II)Z"⟩, 6), (⟨"Assetmerge", "findLastSeen", "(I)I"⟩, 6), (⟨"Assetmerge", "becomesGhostOn", "(I)Z"⟩, 6), (⟨"Assetmerge", "countMembers", "(I)I"⟩, 6), (⟨"Assetmerge", "sumMembers", "(I)I"⟩, 6), (⟨"java/lang/Throwable", "fillInStackTrace", "(I)Ljava/lang/Throwable;"⟩, 6), (⟨"Assetmerge", "checkSource", "(I)V"⟩, 6), (⟨"Assetmerge", "checkRecord", "(I)V"⟩, 6)]
theorem lw_r1 : ∀ q ∈ lw_privs_1, lw_okq q := List.forall_mem_cons.mpr ⟨lw_p0, List.forall_mem_cons.mpr ⟨lw_p1, List.forall_mem_cons.mpr ⟨lw_p2, List.forall_mem_cons.mpr ⟨lw_p3, List.forall_mem_cons.mpr ⟨lw_p4, List.forall_mem_cons.mpr ⟨lw_p5, List.forall_mem_cons.mpr ⟨lw_p6, List.forall_mem_cons.mpr ⟨lw_p7, List.forall_mem_cons.mpr ⟨lw_p8, List.forall_mem_cons.mpr ⟨lw_p9, List.forall_mem_cons.mpr ⟨lw_p10, List.forall_mem_cons.mpr ⟨lw_p11, List.forall_mem_cons.mpr ⟨lw_p12, List.forall_mem_cons.mpr ⟨lw_p13, List.forall_mem_cons.mpr ⟨lw_p14, List.forall_mem_cons.mpr ⟨lw_p15, fun _ h => absurd h List.not_mem_nil⟩⟩⟩⟩⟩⟩⟩⟩⟩⟩⟩⟩⟩⟩⟩⟩
theorem lw_p16 : lw_okq (⟨"Assetmerge", "checkForbidden", "(II)V"⟩, 6) := ⟨⟨by decide +kernel, by decide +kernel⟩, List.mem_of_getElem? (i := 17) (by decide +kernel), List.mem_of_getElem? (i := 499) (by decide +kernel), List.mem_of_getElem? (i := 500) (by decide +kernel)⟩
theorem lw_p17 : lw_okq (⟨"Assetmerge", "findThing", "(I)I"⟩, 6) := ⟨⟨by decide +kernel, by decide +kernel⟩, List.mem_of_getElem? (i := 17) (by decide +kernel), List.mem_of_getElem? (i := 544) (by decide +kernel), List.mem_of_getElem? (i := 545) (by decide +kernel)⟩
theorem lw_p18 : lw_okq (⟨"Assetmerge", "findMember", "(II)I"⟩, 6) := ⟨⟨by decide +kernel, by decide +kernel⟩, List.mem_of_getElem? (i := 17) (by decide +kernel), List.mem_of_getElem? (i := 572) (by decide +kernel), List.mem_of_getElem? (i := 573) (by decide +kernel)⟩
theorem lw_p19 : lw_okq (⟨"Assetmerge", "findStep", "(II)I"⟩, 6) := ⟨⟨by decide +kernel, by decide +kernel⟩, List.mem_of_getElem? (i := 17) (by decide +kernel), List.mem_of_getElem? (i := 591) (by decide +kernel), List.mem_of_getElem? (i := 592) (by decide +kernel)⟩
theorem lw_p20 : lw_okq (⟨"Assetmerge", "isKeyElsewhere", "(II)Z"⟩, 6) := ⟨⟨by decide +kernel, by decide +kernel⟩, List.mem_of_getElem? (i := 17) (by decide +kernel), List.mem_of_getElem? (i := 608) (by decide +kernel), List.mem_of_getElem? (i := 609) (by decide +kernel)⟩
theorem lw_p21 : lw_okq (⟨"Assetmerge", "findFirstByOrder", "(II)I"⟩, 6) := ⟨⟨by decide +kernel, by decide +kernel⟩, List.mem_of_getElem? (i := 17) (by decide +kernel), List.mem_of_getElem? (i := 653) (by decide +kernel), List.mem_of_getElem? (i := 654) (by decide +kernel)⟩
theorem lw_p22 : lw_okq (⟨"Assetmerge", "orderMembers", "(I)I"⟩, 6) := ⟨⟨by decide +kernel, by decide +kernel⟩, List.mem_of_getElem? (i := 17) (by decide +kernel), List.mem_of_getElem? (i := 657) (by decide +kernel), List.mem_of_getElem? (i := 658) (by decide +kernel)⟩
theorem lw_p23 : lw_okq (⟨"Assetmerge", "findFirstByPairs", "(II)I"⟩, 6) := ⟨⟨by decide +kernel, by decide +kernel⟩, List.mem_of_getElem? (i := 17) (by decide +kernel), List.mem_of_getElem? (i := 677) (by decide +kernel), List.mem_of_getElem? (i := 678) (by decide +kernel)⟩
theorem lw_p24 : lw_okq (⟨"Assetmerge", "tellsFact", "(III)Z"⟩, 6) := ⟨⟨by decide +kernel, by decide +kernel⟩, List.mem_of_getElem? (i := 17) (by decide +kernel), List.mem_of_getElem? (i := 681) (by decide +kernel), List.mem_of_getElem? (i := 682) (by decide +kernel)⟩
theorem lw_p25 : lw_okq (⟨"Assetmerge", "isBeaten", "(III)Z"⟩, 6) := ⟨⟨by decide +kernel, by decide +kernel⟩, List.mem_of_getElem? (i := 17) (by decide +kernel), List.mem_of_getElem? (i := 685) (by decide +kernel), List.mem_of_getElem? (i := 686) (by decide +kernel)⟩
theorem lw_p26 : lw_okq (⟨"AssetmergeModel", "isRecord", "(I)Z"⟩, 18) := ⟨⟨by decide +kernel, by decide +kernel⟩, List.mem_of_getElem? (i := 724) (by decide +kernel), List.mem_of_getElem? (i := 813) (by decide +kernel), List.mem_of_getElem? (i := 814) (by decide +kernel)⟩
theorem lw_p27 : lw_okq (⟨"AssetmergeModel", "lacks", "(I)Z"⟩, 18) := ⟨⟨by decide +kernel, by decide +kernel⟩, List.mem_of_getElem? (i := 724) (by decide +kernel), List.mem_of_getElem? (i := 825) (by decide +kernel), List.mem_of_getElem? (i := 826) (by decide +kernel)⟩
theorem lw_p28 : lw_okq (⟨"AssetmergeModel", "left", "()I"⟩, 18) := ⟨⟨by decide +kernel, by decide +kernel⟩, List.mem_of_getElem? (i := 724) (by decide +kernel), List.mem_of_getElem? (i := 833) (by decide +kernel), List.mem_of_getElem? (i := 834) (by decide +kernel)⟩
theorem lw_p29 : lw_okq (⟨"AssetmergeModel", "pair", "(II)I"⟩, 18) := ⟨⟨by decide +kernel, by decide +kernel⟩, List.mem_of_getElem? (i := 724) (by decide +kernel), List.mem_of_getElem? (i := 841) (by decide +kernel), List.mem_of_getElem? (i := 842) (by decide +kernel)⟩
theorem lw_p30 : lw_okq (⟨"AssetmergeModel", "countedPairs", "()I"⟩, 18) := ⟨⟨by decide +kernel, by decide +kernel⟩, List.mem_of_getElem? (i := 724) (by decide +kernel), List.mem_of_getElem? (i := 845) (by decide +kernel), List.mem_of_getElem? (i := 846) (by decide +kernel)⟩
theorem lw_p31 : lw_okq (⟨"AssetmergeModel", "raises", "(I)I"⟩, 18) := ⟨⟨by decide +kernel, by decide +kernel⟩, List.mem_of_getElem? (i := 724) (by decide +kernel), List.mem_of_getElem? (i := 853) (by decide +kernel), List.mem_of_getElem? (i := 854) (by decide +kernel)⟩
def lw_privs_2 : List (MethodName × Nat) := [(⟨"Assetmerge", "checkForbidden", "(II)V"⟩, 6), (⟨"Assetmerge", "findThing", "(I)I"⟩, 6), (⟨"Assetmerge", "findMember", "(II)I"⟩, 6), (⟨"Assetmerge", "findStep", "(II)I"⟩, 6), (⟨"Assetmerge", "isKeyElsewhere", "(II)Z"⟩, 6), (⟨"Assetmerge", "findFirstByOrder", "(II)I"⟩, 6), (⟨"Assetmerge", "orderMembers", "(I)I"⟩, 6), (⟨"Assetmerge", "findFirstByPairs", "(II)I"⟩, 6), (⟨"Assetmerge", "tellsFact", "(III)Z"⟩, 6), (⟨"Assetmerge", "isBeaten", "(III)Z"⟩, 6), (⟨"AssetmergeModel", "isRecord", "(I)Z"⟩, 18), (⟨"AssetmergeModel", "lacks", "(I)Z"⟩, 18), (⟨"AssetmergeModel", "left", "()I"⟩, 18), (⟨"AssetmergeModel", "pair", "(II)I"⟩, 18), (⟨"AssetmergeModel", "countedPairs", "()I"⟩, 18), (⟨"AssetmergeModel", "raises", "(I)I"⟩, 18)]
theorem lw_r2 : ∀ q ∈ lw_privs_2, lw_okq q := List.forall_mem_cons.mpr ⟨lw_p16, List.forall_mem_cons.mpr ⟨lw_p17, List.forall_mem_cons.mpr ⟨lw_p18, List.forall_mem_cons.mpr ⟨lw_p19, List.forall_mem_cons.mpr ⟨lw_p20, List.forall_mem_cons.mpr ⟨lw_p21, List.forall_mem_cons.mpr ⟨lw_p22, List.forall_mem_cons.mpr ⟨lw_p23, List.forall_mem_cons.mpr ⟨lw_p24, List.forall_mem_cons.mpr ⟨lw_p25, List.forall_mem_cons.mpr ⟨lw_p26, List.forall_mem_cons.mpr ⟨lw_p27, List.forall_mem_cons.mpr ⟨lw_p28, List.forall_mem_cons.mpr ⟨lw_p29, List.forall_mem_cons.mpr ⟨lw_p30, List.forall_mem_cons.mpr ⟨lw_p31, fun _ h => absurd h List.not_mem_nil⟩⟩⟩⟩⟩⟩⟩⟩⟩⟩⟩⟩⟩⟩⟩⟩
theorem lw_p32 : lw_okq (⟨"AssetmergeModel", "finds", "(I)V"⟩, 18) := ⟨⟨by decide +kernel, by decide +kernel⟩, List.mem_of_getElem? (i := 724) (by decide +kernel), List.mem_of_getElem? (i := 873) (by decide +kernel), List.mem_of_getElem? (i := 874) (by decide +kernel)⟩
theorem lw_p33 : lw_okq (⟨"AssetmergeModel", "joins", "(I)V"⟩, 18) := ⟨⟨by decide +kernel, by decide +kernel⟩, List.mem_of_getElem? (i := 724) (by decide +kernel), List.mem_of_getElem? (i := 877) (by decide +kernel), List.mem_of_getElem? (i := 878) (by decide +kernel)⟩
theorem lw_p34 : lw_okq (⟨"AssetmergeModel", "clusters", "(I)V"⟩, 18) := ⟨⟨by decide +kernel, by decide +kernel⟩, List.mem_of_getElem? (i := 724) (by decide +kernel), List.mem_of_getElem? (i := 881) (by decide +kernel), List.mem_of_getElem? (i := 882) (by decide +kernel)⟩
theorem lw_p35 : lw_okq (⟨"AssetmergeModel", "counts", "(I)Z"⟩, 18) := ⟨⟨by decide +kernel, by decide +kernel⟩, List.mem_of_getElem? (i := 724) (by decide +kernel), List.mem_of_getElem? (i := 885) (by decide +kernel), List.mem_of_getElem? (i := 886) (by decide +kernel)⟩
theorem lw_p36 : lw_okq (⟨"AssetmergeModel", "areLinked", "(III)Z"⟩, 18) := ⟨⟨by decide +kernel, by decide +kernel⟩, List.mem_of_getElem? (i := 724) (by decide +kernel), List.mem_of_getElem? (i := 889) (by decide +kernel), List.mem_of_getElem? (i := 890) (by decide +kernel)⟩
theorem lw_p37 : lw_okq (⟨"AssetmergeModel", "mayJoin", "(II)Z"⟩, 18) := ⟨⟨by decide +kernel, by decide +kernel⟩, List.mem_of_getElem? (i := 724) (by decide +kernel), List.mem_of_getElem? (i := 893) (by decide +kernel), List.mem_of_getElem? (i := 894) (by decide +kernel)⟩
theorem lw_p38 : lw_okq (⟨"AssetmergeModel", "thingMany", "()I"⟩, 18) := ⟨⟨by decide +kernel, by decide +kernel⟩, List.mem_of_getElem? (i := 724) (by decide +kernel), List.mem_of_getElem? (i := 906) (by decide +kernel), List.mem_of_getElem? (i := 907) (by decide +kernel)⟩
theorem lw_p39 : lw_okq (⟨"AssetmergeModel", "isOf", "(II)Z"⟩, 18) := ⟨⟨by decide +kernel, by decide +kernel⟩, List.mem_of_getElem? (i := 724) (by decide +kernel), List.mem_of_getElem? (i := 914) (by decide +kernel), List.mem_of_getElem? (i := 915) (by decide +kernel)⟩
theorem lw_p40 : lw_okq (⟨"AssetmergeModel", "isShared", "(II)Z"⟩, 18) := ⟨⟨by decide +kernel, by decide +kernel⟩, List.mem_of_getElem? (i := 724) (by decide +kernel), List.mem_of_getElem? (i := 934) (by decide +kernel), List.mem_of_getElem? (i := 935) (by decide +kernel)⟩
theorem lw_p41 : lw_okq (⟨"AssetmergeModel", "weightOf", "(I)I"⟩, 18) := ⟨⟨by decide +kernel, by decide +kernel⟩, List.mem_of_getElem? (i := 724) (by decide +kernel), List.mem_of_getElem? (i := 955) (by decide +kernel), List.mem_of_getElem? (i := 956) (by decide +kernel)⟩
theorem lw_p42 : lw_okq (⟨"AssetmergeModel", "teller", "(II)I"⟩, 18) := ⟨⟨by decide +kernel, by decide +kernel⟩, List.mem_of_getElem? (i := 724) (by decide +kernel), List.mem_of_getElem? (i := 963) (by decide +kernel), List.mem_of_getElem? (i := 964) (by decide +kernel)⟩
theorem lw_p43 : lw_okq (⟨"AssetmergeModel", "isAhead", "(II)Z"⟩, 18) := ⟨⟨by decide +kernel, by decide +kernel⟩, List.mem_of_getElem? (i := 724) (by decide +kernel), List.mem_of_getElem? (i := 967) (by decide +kernel), List.mem_of_getElem? (i := 968) (by decide +kernel)⟩
theorem lw_p44 : lw_okq (⟨"AssetmergeModel", "lastOf", "(I)I"⟩, 18) := ⟨⟨by decide +kernel, by decide +kernel⟩, List.mem_of_getElem? (i := 724) (by decide +kernel), List.mem_of_getElem? (i := 992) (by decide +kernel), List.mem_of_getElem? (i := 993) (by decide +kernel)⟩
def lw_privs_3 : List (MethodName × Nat) := [(⟨"AssetmergeModel", "finds", "(I)V"⟩, 18), (⟨"AssetmergeModel", "joins", "(I)V"⟩, 18), (⟨"AssetmergeModel", "clusters", "(I)V"⟩, 18), (⟨"AssetmergeModel", "counts", "(I)Z"⟩, 18), (⟨"AssetmergeModel", "areLinked", "(III)Z"⟩, 18), (⟨"AssetmergeModel", "mayJoin", "(II)Z"⟩, 18), (⟨"AssetmergeModel", "thingMany", "()I"⟩, 18), (⟨"AssetmergeModel", "isOf", "(II)Z"⟩, 18), (⟨"AssetmergeModel", "isShared", "(II)Z"⟩, 18), (⟨"AssetmergeModel", "weightOf", "(I)I"⟩, 18), (⟨"AssetmergeModel", "teller", "(II)I"⟩, 18), (⟨"AssetmergeModel", "isAhead", "(II)Z"⟩, 18), (⟨"AssetmergeModel", "lastOf", "(I)I"⟩, 18)]
theorem lw_r3 : ∀ q ∈ lw_privs_3, lw_okq q := List.forall_mem_cons.mpr ⟨lw_p32, List.forall_mem_cons.mpr ⟨lw_p33, List.forall_mem_cons.mpr ⟨lw_p34, List.forall_mem_cons.mpr ⟨lw_p35, List.forall_mem_cons.mpr ⟨lw_p36, List.forall_mem_cons.mpr ⟨lw_p37, List.forall_mem_cons.mpr ⟨lw_p38, List.forall_mem_cons.mpr ⟨lw_p39, List.forall_mem_cons.mpr ⟨lw_p40, List.forall_mem_cons.mpr ⟨lw_p41, List.forall_mem_cons.mpr ⟨lw_p42, List.forall_mem_cons.mpr ⟨lw_p43, List.forall_mem_cons.mpr ⟨lw_p44, fun _ h => absurd h List.not_mem_nil⟩⟩⟩⟩⟩⟩⟩⟩⟩⟩⟩⟩⟩
def lw_privs : List (MethodName × Nat) := lw_privs_1 ++ (lw_privs_2 ++ (lw_privs_3))
def lw_tbl : List Cond := k2_sels lw_privs ++ tables_1
theorem lw_privs_ok : ∀ q ∈ lw_privs, lw_okq q := by
  show ∀ q ∈ lw_privs_1 ++ (lw_privs_2 ++ (lw_privs_3)), lw_okq q
  exact List.forall_mem_append.mpr ⟨lw_r1, List.forall_mem_append.mpr ⟨lw_r2, lw_r3⟩⟩
/-- the streams that the claim lets the run draw from -/
abbrev lw_cs : List Choice := [Jvm.Choice.named "NaN.bits"]
theorem lw_bits : nanBits ∈ lw_cs := by first | decide | exact List.mem_cons_self | simp [lw_cs, nanBits]
end
section
/-! ===== BEGIN words of one list among another's, by their places ===== -/
theorem goodIn_r {big : List Cond} (ws : List Cond) (ps : List Nat) (hp : ws = ps.filterMap (fun i => big[i]?)) (h : ws.all goodWord = true) : GoodIn big ws := by
  intro w hw
  have h1 := List.all_eq_true.mp h w hw
  rw [hp] at hw
  obtain ⟨i, -, hi⟩ := List.mem_filterMap.mp hw
  have hm : w ∈ big := by first | exact List.mem_of_getElem? hi | exact List.getElem?_mem hi
  exact ⟨hm, good_of_word h1⟩
theorem goodIn_app {big a b : List Cond} (ha : GoodIn big a) (hb : GoodIn big b) : GoodIn big (a ++ b) := fun w h => (List.mem_append.mp h).elim (ha w) (hb w)
theorem goodIn_ca {big a b : List Cond} {c : Cond} (ha : GoodIn big (c :: a)) (hb : GoodIn big b) : GoodIn big (c :: (a ++ b)) := fun w h => (List.mem_cons.mp h).elim (fun e => ha w (List.mem_cons.mpr (Or.inl e))) (fun h => (List.mem_append.mp h).elim (fun h => ha w (List.mem_cons.mpr (Or.inr h))) (hb w))
theorem goodIn_sub {big ws : List Cond} (hm : ∀ w ∈ ws, w ∈ big) (h : ws.all goodWord = true) : GoodIn big ws := fun w hw => ⟨hm w hw, good_of_word (List.all_eq_true.mp h w hw)⟩
/-! ===== END ===== -/

/-! ===== BEGIN new T[n][m]: the outer array a place, the inner ones among the pooled ===== -/
/-- f, but v at every address of l -/
def vr_up {α : Type} (f : Nat → α) (l : List Nat) (v : α) : Nat → α := fun a => if a ∈ l then v else f a
theorem vr_up_in {α : Type} {f : Nat → α} {l : List Nat} {v : α} {a : Nat} (h : a ∈ l) : vr_up f l v a = v := if_pos h
theorem vr_up_ne {α : Type} {f : Nat → α} {l : List Nat} {v : α} {a : Nat} (h : a ∉ l) : vr_up f l v a = f a := if_neg h
theorem vr_rows {L l : List Nat} {f : Nat → va_E} {e : va_E} (h : ∀ a, a ∈ l → a ∉ L) : va_pl L f ++ l.map (fun a => (a, e)) = va_pl (L ++ l) (vr_up f l e) := by
  unfold va_pl
  rw [List.map_append]
  congr 1
  · apply List.map_congr_left
    intro a ha
    rw [vr_up_ne (fun q => h a q ha)]
  · apply List.map_congr_left
    intro a ha
    rw [vr_up_in ha]
theorem vr_lay {X rows : va_W} {x : Nat × va_E} {pl : va_W} {D : va_G} {cl : List vw_C} {H : Heap} (hP : va_P D cl (((X ++ pl) ++ [x]) ++ rows) H) : va_P D cl ((X ++ [x]) ++ (pl ++ rows)) H := by
  rw [List.append_assoc (X ++ pl)] at hP
  have h := va_P.swap hP
  rw [← List.append_assoc X] at h
  have h2 := va_P.swap h
  rw [List.append_assoc (X ++ [x])] at h2
  exact h2
theorem vr_layD {X rows : va_W} {x : Nat × va_E} {pl : va_W} {A : Nat → Prop} (hD : va_D A (((X ++ pl) ++ [x]) ++ rows)) : va_D A ((X ++ [x]) ++ (pl ++ rows)) := by
  rw [List.append_assoc (X ++ pl)] at hD
  have h := va_D.swap hD
  rw [← List.append_assoc X] at h
  have h2 := va_D.swap h
  rw [List.append_assoc (X ++ [x])] at h2
  exact h2
theorem vr_outer (c : ClassId) (N h0 : Nat) : ∀ i : Nat, Jvm.Free.Multi.outerC c N h0 i = arrV c N (fun j => va_rf (if j < i then some (h0 + 1 + j) else none))
  | 0 => by
    show ({ cls := c, slots := Array.replicate N .null, vm := .none } : Cell) = _
    rw [arrV_new]
    refine congrArg (arrV c N) (funext fun j => ?_)
    simp [va_rf]
  | i + 1 => by
    show (Jvm.Free.Multi.outerC c N h0 i).setSlot i (.ref (h0 + 1 + i)) = _
    rw [vr_outer c N h0 i, arrV_store]
    refine congrArg (arrV c N) (funext fun j => ?_)
    by_cases e : j = i
    · subst e
      simp [updV, va_rf]
    · by_cases h : j < i
      · simp [updV, e, h, Nat.lt_succ_of_lt h]
      · simp [updV, e, h, show ¬ j < i + 1 by omega]
def va_AOA (ty : FieldType) (U : State) : Prop := (Cond.arrayOver (.array ty)).before #[] U = true
theorem va_AOA.use {ty : FieldType} {A : Array Value} {U : State} (h : va_AOA ty U) : (Cond.arrayOver (.array ty)).before A U = true := h
section VGM
variable {p : Program} {l : Launch} {e : Env} {R : Room} {s : State} {m : MethodId} {args : Array Value} {below : List Frame} {meth : Method} {c : Code} {H : Heap} {locs : List Loc} {cells slots : Nat} {Q : State → Prop}
variable {cc : ByteArray} {pc : Nat} {ls : Array Slot} {rest : List Value} {D : va_G} {cl : List vw_C} {A : Nat → Prop} {a : Nat} {tys : List (ClassId × FieldType)} {ws : va_W} {H0 : Heap}
theorem va_mna {X : va_W} {L : List Nat} {f : Nat → va_E} {cc : ByteArray} (hexec : p.tables.exec = Jvm.exec) (hb : c.code = cc) {own : String} {index : Nat} {ty : FieldType} {cy : ClassId} (hown : s.vm.findClass own = some m.cls) (hclink : (Cond.classLink own index ("[" ++ (FieldType.array ty).toString)).before args s = true) (hover : va_AOA ty s) (harr : (Cond.arrayClass ty).before args s = true) (hcy : s.vm.findClass (FieldType.array ty).toString = some cy)
    (hK : va_K D cl tys s) (hP : va_P D cl (X ++ va_pl L f) H) (hD : va_D A (X ++ va_pl L f)) (hS : va_S A H0 H locs) (hA : ∀ q, H0.size ≤ q → A q) {n k : Int32} {N' K' : Nat} {z : vp_A} (hn : ¬ n < 0) (hk : ¬ k < 0) (hN : n.toNatClampNeg = N') (hM : k.toNatClampNeg = K')
    (hb1 : N' * 4 ≤ 536870912) (hb2 : K' * componentBytes ty ≤ 536870912) (hb3 : K' ≤ 536870912) (hdf : fits ty (defaultValue ty) = true) (hdd : (defaultValue ty).isDefault = true) (hcells : cells + (1 + N') ≤ R.cells) (hslots : slots + (N' + N' * K') ≤ R.slots) (hz : ∀ c : ClassId, Jvm.Free.Multi.innerC c K' (defaultValue ty) = vp_cell c z) (hdg : decode cc pc = .ok (.multianewarray index 2, 4))
    (kk : ∀ (q : Nat) (r : Nat → Nat) (cA : ClassId) (H1 : Heap), (∀ i j : Nat, i < N' → j < N' → r i = r j → i = j) → (∀ i : Nat, i < N' → r i ∉ L) → va_K D cl (tys ++ [(cA, .array ty)]) s →
      va_P D cl ((X ++ [(q, .inl (cA, N', .inr (.inr (.inr (.inr (fun i => if i < N' then some (r i) else none))))))]) ++ va_pl (L ++ (List.range N').map r) (vr_up f ((List.range N').map r) (.inl (cy, z)))) H1 → va_D A ((X ++ [(q, .inl (cA, N', .inr (.inr (.inr (.inr (fun i => if i < N' then some (r i) else none))))))]) ++ va_pl (L ++ (List.range N').map r) (vr_up f ((List.range N').map r) (.inl (cy, z)))) → va_S A H0 H1 locs →
      W p l e R s m args below meth c H1 locs (cells + 1 + N') (slots + N' + N' * K') Q (F0 m (pc + 4) ls (.ref q :: rest))) : W p l e R s m args below meth c H locs cells slots Q (F0 m pc ls (.int k :: .int n :: rest)) := by
  subst hN
  subst hM
  intro T hT Xs
  obtain ⟨vm₁, cA, comp, -, fA, fC, hO, -, X', step⟩ := Xs.multianewarray2F hexec hown hclink (va_AOA.use hover) harr (g := F0 m pc ls (.int k :: .int n :: rest)) rfl (by rw [hb]; exact hdg) rfl hn hk hb1 hb2 hb3 hdf hdd hcells hslots
  have ec : some cy = some comp := hcy.symm.trans fC
  cases ec
  generalize hF : Jvm.Free.Multi.fill (T.setVm vm₁) cA cy n.toNatClampNeg k.toNatClampNeg (defaultValue ty) n.toNatClampNeg = F at X' step
  have hTh : (T.setVm vm₁).heap = H := hT
  obtain ⟨f1, f2, -, -⟩ := Jvm.Free.Multi.fill_facts (T.setVm vm₁) cA cy n.toNatClampNeg k.toNatClampNeg (defaultValue ty) n.toNatClampNeg
  rw [hF, hTh] at f1 f2
  have hold : ∀ x : Nat, x < H.size → F.heap[x]? = H[x]? := fun x hx => by
    have := Jvm.Free.Multi.fill_old (T.setVm vm₁) cA cy n.toNatClampNeg k.toNatClampNeg (defaultValue ty) (a := x) (by rw [hTh]; exact hx) n.toNatClampNeg
    rw [hF, hTh] at this
    exact this
  have hrow : ∀ j : Nat, j < n.toNatClampNeg → F.heap[H.size + 1 + j]? = some (vp_cell cy z) := fun j hj => by
    have := Jvm.Free.Multi.fill_inner (T.setVm vm₁) cA cy n.toNatClampNeg k.toNatClampNeg (defaultValue ty) n.toNatClampNeg j hj
    rw [hF, hTh, hz] at this
    exact this
  have hout : Jvm.Free.Multi.outerC cA n.toNatClampNeg H.size n.toNatClampNeg = vp_cell cA (n.toNatClampNeg, .inr (.inr (.inr (.inr (fun i => if i < n.toNatClampNeg then some (H.size + 1 + i) else none))))) := by
    rw [vp_cell_q]
    exact vr_outer cA n.toNatClampNeg H.size n.toNatClampNeg
  rw [hout] at f2
  have hlt : ∀ a, a ∈ L → a < H.size := fun a ha => by
    obtain ⟨k9, hk9⟩ := va_pl_get (X := X) (f := f) ha
    exact (hP k9 _ hk9).lt
  have hnl : ∀ i : Nat, i < n.toNatClampNeg → H.size + 1 + i ∉ L := fun i _ h => by
    have := hlt _ h
    omega
  have hnm : ∀ a, a ∈ (List.range n.toNatClampNeg).map (fun i => H.size + 1 + i) → a ∉ L := fun a ha h => by
    obtain ⟨i, -, rfl⟩ := List.mem_map.mp ha
    have := hlt _ h
    omega
  have hP0 : va_P D cl (X ++ va_pl L f) F.heap := hP.kept (fun k9 x hx => hold x.1 ((hP k9 x hx).lt))
  have hP1 : va_P D cl ((X ++ va_pl L f) ++ [(H.size, .inl (cA, n.toNatClampNeg, .inr (.inr (.inr (.inr (fun i => if i < n.toNatClampNeg then some (H.size + 1 + i) else none))))))]) F.heap := hP0.app (fun k9 x hx => by
    have h0 : k9 < 1 := (List.getElem?_eq_some_iff.mp hx).1
    rw [show k9 = 0 by omega] at hx
    cases hx
    exact f2)
  have hP2 : va_P D cl (((X ++ va_pl L f) ++ [(H.size, .inl (cA, n.toNatClampNeg, .inr (.inr (.inr (.inr (fun i => if i < n.toNatClampNeg then some (H.size + 1 + i) else none))))))]) ++ ((List.range n.toNatClampNeg).map (fun i => H.size + 1 + i)).map (fun a => (a, .inl (cy, z)))) F.heap := hP1.app (fun k9 x hx => by
    obtain ⟨a, ha, rfl⟩ := List.mem_map.mp (List.mem_of_getElem? hx)
    obtain ⟨i, hi, rfl⟩ := List.mem_map.mp ha
    exact hrow i (List.mem_range.mp hi))
  have hD2 : va_D A (((X ++ va_pl L f) ++ [(H.size, .inl (cA, n.toNatClampNeg, .inr (.inr (.inr (.inr (fun i => if i < n.toNatClampNeg then some (H.size + 1 + i) else none))))))]) ++ ((List.range n.toNatClampNeg).map (fun i => H.size + 1 + i)).map (fun a => (a, .inl (cy, z)))) := by
    have hD1 := hD.push (e := .inl (cA, n.toNatClampNeg, .inr (.inr (.inr (.inr (fun i => if i < n.toNatClampNeg then some (H.size + 1 + i) else none)))))) hP rfl (hA _ hS.1)
    generalize hW1 : (X ++ va_pl L f) ++ [(H.size, .inl (cA, n.toNatClampNeg, .inr (.inr (.inr (.inr (fun i => if i < n.toNatClampNeg then some (H.size + 1 + i) else none))))))] = W1 at hD1 hP1 ⊢
    have hle : ∀ (k9 : Nat) (x : Nat × va_E), W1[k9]? = some x → x.1 ≤ H.size := fun k9 x hx => by
      rw [← hW1] at hx
      by_cases hl : k9 < (X ++ va_pl L f).length
      · rw [List.getElem?_append_left hl] at hx
        exact Nat.le_of_lt ((hP k9 x hx).lt)
      · rw [List.getElem?_append_right (by omega)] at hx
        have h0 : k9 - (X ++ va_pl L f).length < 1 := (List.getElem?_eq_some_iff.mp hx).1
        rw [show k9 - (X ++ va_pl L f).length = 0 by omega] at hx
        cases hx
        exact Nat.le_refl _
    have hr : ∀ (k9 : Nat) (x : Nat × va_E), (((List.range n.toNatClampNeg).map (fun i => H.size + 1 + i)).map (fun a => ((a, .inl (cy, z)) : Nat × va_E)))[k9]? = some x → x.1 = H.size + 1 + k9 := fun k9 x hx => by
      rw [List.getElem?_map, List.getElem?_map] at hx
      by_cases h9 : k9 < n.toNatClampNeg
      · rw [List.getElem?_range h9] at hx
        cases hx
        rfl
      · have hn0 : (List.range n.toNatClampNeg)[k9]? = none := List.getElem?_eq_none (by rw [List.length_range]; omega)
        rw [hn0] at hx
        cases hx
    refine ⟨fun i j x y hi hj hxy => ?_, fun k9 x hx => ?_⟩
    · by_cases h1 : i < W1.length <;> by_cases h2 : j < W1.length
      · rw [List.getElem?_append_left h1] at hi
        rw [List.getElem?_append_left h2] at hj
        exact hD1.1 i j x y hi hj hxy
      · rw [List.getElem?_append_left h1] at hi
        rw [List.getElem?_append_right (by omega)] at hj
        have := hle _ _ hi
        have := hr _ _ hj
        omega
      · rw [List.getElem?_append_right (by omega)] at hi
        rw [List.getElem?_append_left h2] at hj
        have := hle _ _ hj
        have := hr _ _ hi
        omega
      · rw [List.getElem?_append_right (by omega)] at hi hj
        have := hr _ _ hi
        have := hr _ _ hj
        omega
    · by_cases h1 : k9 < W1.length
      · rw [List.getElem?_append_left h1] at hx
        exact hD1.2 k9 x hx
      · rw [List.getElem?_append_right (by omega)] at hx
        have := hr _ _ hx
        exact hA _ (by have := hS.1; omega)
  have hAr : ArrOfT s cA (.array ty) := fun N9 z9 => by
    obtain ⟨-, k9, hk9, cm9, hkk9⟩ := (hO 0 0 0).1
    exact ⟨(fun q hq => by cases hq), k9, hk9, cm9, hkk9⟩
  have hK2 : va_K D cl (tys ++ [(cA, .array ty)]) s := ⟨hK.1, fun k9 x hx => by
    by_cases hl : k9 < tys.length
    · rw [List.getElem?_append_left hl] at hx
      exact hK.2 k9 x hx
    · rw [List.getElem?_append_right (by omega)] at hx
      have h0 : k9 - tys.length < 1 := (List.getElem?_eq_some_iff.mp hx).1
      rw [show k9 - tys.length = 0 by omega] at hx
      cases hx
      exact ⟨hAr, fA⟩⟩
  obtain ⟨t, a1, b1⟩ := kk H.size (fun i => H.size + 1 + i) cA F.heap (fun i j _ _ h => by have h9 : H.size + 1 + i = H.size + 1 + j := h; omega) hnl hK2 (by rw [← vr_rows hnm]; exact vr_lay hP2) (by rw [← vr_rows hnm]; exact vr_layD hD2) ⟨by rw [f1]; have := hS.1; omega, fun x h1 h2 => (hold x (Nat.lt_of_lt_of_le h1 hS.1)).trans (hS.2.1 x h1 h2), hS.2.2⟩ F rfl X'
  refine ⟨t, step t ?_, b1⟩
  have e : T.heap.size = H.size := by rw [hT]
  rw [e]
  exact a1
end VGM
/-! ===== END ===== -/

/-! ===== BEGIN exceptions that leave a method, and their catching by the caller (launches without stack traces) ===== -/
section VXA
/-! The laws vx_back, vx_callV, vx_callS, vx_callSW, vx_throw0, vx_throwS follow proofs of the library, with one case more: JvmDerived/Free/Laws.lean (Back.of_free), Shelf42/LK1.lean (callV, callS), Shelf/KitTraced.lean (throwNew0V, throwNewS). -/
/-- where a method has thrown q: the class by its name, the cell, what was written, the world -/
def vx_T (XC : String → State → State → Prop) (st : State) (q : Addr) (t : State) (mc ms : Nat) (free : Addr → Prop) : Prop :=
  ∃ (E : String) (ce : Cell) (L : List Loc), XC E st t ∧ t.heap[q]? = some ce ∧ ce.vm = .none ∧ st.vm.findClass E = some ce.cls ∧ st.WarmedH t.vm ∧ st.sameButNew ({ t with vm := st.vm } : State) L mc ms ∧ ∀ z ∈ L, free z.base
def vx_Q (Qc : Array Value → State → Outcome → State → Prop) (XC : String → State → State → Prop) (mc ms : Nat) (free : Addr → Prop) : Array Value → State → Outcome → State → Prop := fun a st o t =>
  (Qc a st o t ∧ ∃ L, FrameEnd st o t L mc ms ∧ ∀ q ∈ L, free q.base) ∨ ∃ q, o = .threw q ∧ vx_T XC st q t mc ms free
/-- a callee that returns or throws -/
def vx_Met (l : Launch) (y : MethodName) (ws : List Cond) (rm : Room) (Pc : Array Value → State → Prop) (Qc : Array Value → State → Outcome → State → Prop) (XC : String → State → State → Prop) (mc ms : Nat) (free : Addr → Prop) : Prop :=
  MetFree l y (headSpec ws rm) Pc (fun _ _ _ _ _ => True) (vx_Q Qc XC mc ms free)
def vx_Post (XC : String → State → State → Prop) (mc ms : Nat) (free : Addr → Prop) : Pt → Array Value → Addr → Pt → Prop := fun A a q B =>
  ∃ (g : JFrame) (mk : MethodId) (t : State) (L : List Loc) (E : String) (ce : Cell), B.U.heap = t.heap ∧ B.U.vm = t.vm ∧ XC E (A.U.calling g mk a) t ∧ t.heap[q]? = some ce ∧ ce.vm = .none ∧ A.U.vm.findClass E = some ce.cls ∧ B.locs = A.locs ++ L ∧ (∀ z ∈ L, free z.base) ∧ B.cells = A.cells + mc ∧ B.slots = A.slots + ms
def vx_Back (l : Launch) (R : Room) (p : Program) (e : Env) (below : List Frame) (s : State) (sargs : Array Value) (y : MethodName) (len W9 : Nat)
    (Pre : Pt → Array Value → Prop) (Post : Pt → Array Value → Option Value → Pt → Prop) (PostX : Pt → Array Value → Addr → Pt → Prop) : Prop :=
  ∀ (m : MethodId) (meth : Method) (c : Code) (A : Pt) (g : JFrame) (ig : Instr) (mk : MethodId) (a : Array Value),
    Stand p l e R s m sargs below meth c A.U A.locs A.cells A.slots → g.method = m → g.locals.size = c.maxLocals → decode c.code g.pc = .ok (ig, len) →
    2 * g.monitorRoom + (g.stack.map fun v => v.category).sum ≤ W9 → A.U.methodNamed? y = some mk → Pre A a →
    (∃ (v : Option Value) (B : Pt), Stand p l e R s m sargs below meth c B.U B.locs B.cells B.slots ∧ Post A a v B ∧
      Steps p.tables e below (doInvoke e (A.U.setTop g) [] mk a).1 (B.U.setTop { g with pc := g.pc + len, stack := v.toList ++ g.stack })) ∨
    (∃ (q : Addr) (B : Pt), Stand p l e R s m sargs below meth c B.U B.locs B.cells B.slots ∧ PostX A a q B ∧
      Steps p.tables e below (doInvoke e (A.U.setTop g) [] mk a).1 ((B.U.setTop g).pushFrame (.throwing q)))
section Payer
variable {l : Launch} {R : Room} {p : Program} {e : Env} {below : List Frame} {s : State} {sargs : Array Value} {y : MethodName} {len W9 : Nat}
theorem vx_back {ws : List Cond} {rm : Room} {Pc : Array Value → State → Prop} {Qc : Array Value → State → Outcome → State → Prop} {XC : String → State → State → Prop} {mc ms : Nat} {free : Addr → Prop} {bytes : ByteArray} {maxL : Nat} {ret : Option FieldType}
    (hM : vx_Met l y ws rm Pc Qc XC mc ms free) (hblind : FrameBlind Pc) (hrc : rm.cells = mc) (hrs : rm.slots = ms)
    (hframes : rm.frames + 1 ≤ R.frames) (hlocals : W9 + (maxL + 11) + rm.locals ≤ R.locals)
    (hws : ∀ w ∈ ws, ∀ a' U, s.WarmedH U.vm → w.before a' U = true) (hcode : Cond.code y bytes maxL ret ∈ ws) (hinit : ∀ a' U, s.WarmedH U.vm → (Cond.initialized y.cls).before a' U = true) :
    vx_Back l R p e below s sargs y len W9 (PreOf R mc ms Pc) (PostOf Qc mc ms free) (vx_Post XC mc ms free) := by
  intro m meth c A g ig mk a X hg hsize hdg hW hn hp
  have h1 : (headSpec ws rm).pre.before a A.U = true := atoms_intro fun w hw => hws w hw _ _ X.warmed
  have h2 : (Cond.code y bytes maxL ret).before a A.U = true := hws _ hcode _ _ X.warmed
  have h3 : (Cond.initialized y.cls).before a A.U = true := hinit _ _ X.warmed
  have h4 : A.cells + (headSpec ws rm).room.cells ≤ R.cells := by rw [show (headSpec ws rm).room.cells = mc from hrc]; exact hp.1
  have h5 : A.slots + (headSpec ws rm).room.slots ≤ R.slots := by rw [show (headSpec ws rm).room.slots = ms from hrs]; exact hp.2.1
  have hPc : Pc a (A.U.calling g mk a) := hblind _ _ _ _ hp.2.2
  obtain ⟨U, Ls, c0, s0⟩ := A
  dsimp only [Pt.U, Pt.locs, Pt.cells, Pt.slots] at h1 h2 h3 h4 h5 X hn hPc ⊢
  obtain ⟨methY, cY, hmY, hcY, -, hlY, -, -, -, -⟩ := Cond.code_spec hn h2
  obtain ⟨kY, hkY, -⟩ := className_of_methodNamed hn
  have hinitY : kY.init = .initialized := Cond.initialized_spec (findClass_of_methodNamed hn) hkY h3
  have h : At U g.method c below := by rw [hg]; exact X.here
  have hlocals9 : W9 + (maxL + 11) + (headSpec ws rm).room.locals ≤ R.locals := hlocals
  have happ : (headSpec ws rm).appliesLoose y e.platform (U.calling g mk a) = true :=
    Spec.appliesLoose_calling (g := g) h hdg hn hkY hinitY
      (X.room_calling (g := g) (R' := (headSpec ws rm).room) hsize hmY hcY hframes (by rw [hlY]; omega) h4 h5) h1
  obtain ⟨mid, hmid⟩ := h.above
  have hfr : (U.setTop g).frames = (.java g :: mid) ++ below := by rw [State.frames_setTop' g h.top, hmid]; rfl
  obtain ⟨o, s₂, hsteps, -, hend, hq⟩ := Steps.callFree hM p X.admits X.cas X.clock (acts := []) hfr happ hPc trivial
  have hq' : vx_Q Qc XC mc ms free a (U.calling g mk a) o s₂ := hq
  rw [State.frames_setTop' g h.top] at hend
  obtain ⟨g₀, hg0⟩ := Option.isSome_iff_exists.mp h.top
  obtain ⟨r, hr⟩ := State.topJava?_eq_some.mp hg0
  have hr' : (({ U with heap := s₂.heap, slotsUsed := s₂.slotsUsed } : State).setVm s₂.vm).frames = .java g₀ :: r := hr
  rcases hq' with ⟨hqc, L, hfe, hL⟩ | ⟨q, rfl, E, ce, L, hx, hce, hcv, hcl, hW₂, hsm, hL⟩
  · obtain ⟨⟨v, rfl⟩, hW₂, e2, q2, q3, q4, q5, q6⟩ := id hfe
    have e3 : s₂ = ({ (U.calling g mk a).setFrames s₂.frames with heap := s₂.heap, slotsUsed := s₂.slotsUsed } : State).setVm s₂.vm := by
      have : s₂ = ({ s₂ with vm := (U.calling g mk a).vm } : State).setVm s₂.vm := rfl
      rw [e2] at this
      exact this
    obtain ⟨c₂, i₂, len₂, hc₂, hd₂, hf₂⟩ := hend
    have hW' : U.WarmedH s₂.vm := hW₂
    have hcc : c₂ = c := by
      have h1 : s₂.code? g.method = U.code? g.method := by
        rw [State.code?_eq, State.code?_eq, hW'.alike.method?]
      exact Option.some.inj (hc₂.symm.trans (h1.trans h.code))
    subst hcc
    have hlen : len₂ = len := by rw [hdg] at hd₂; cases hd₂; rfl
    subst hlen
    have hs₂ : s₂ = (({ U with heap := s₂.heap, slotsUsed := s₂.slotsUsed } : State).setVm s₂.vm).setTop { g with pc := g.pc + len₂, stack := v.toList ++ g.stack } := by
      refine e3.trans ?_
      rw [hf₂, State.calling_eq h.top, State.setFrames_setFrames, State.setTop_of_frames _ hr', hr]
      rfl
    have hsame : U.sameButNew ({ U with heap := s₂.heap, slotsUsed := s₂.slotsUsed } : State) L mc ms := by
      refine ⟨?_, q2, q3, q4, q5, q6⟩
      obtain ⟨t, ht, -⟩ := State.frames_cons hr
      show ({ U with heap := s₂.heap, slotsUsed := s₂.slotsUsed } : State) = { U.setFrames U.frames with heap := s₂.heap, slotsUsed := s₂.slotsUsed }
      rw [State.setFrames_self ht]
    subst hg
    refine Or.inl ⟨v, ⟨(({ U with heap := s₂.heap, slotsUsed := s₂.slotsUsed } : State).setVm s₂.vm), Ls ++ L, c0 + mc, s0 + ms⟩,
      ⟨X.admits, X.cas, X.clock, X.frames, X.room, X.hears, X.method, X.code, (X.here.setHeapUsed s₂.heap s₂.slotsUsed).setVm hW'.alike, X.tail, State.WarmedH.trans X.warmed hW', X.limits, X.bytes, X.same.trans (hsame.setVm s.vm)⟩,
      ⟨g, mk, s₂, L, rfl, rfl, hqc, rfl, hL, rfl, rfl⟩, ?_⟩
    show Steps p.tables e below _ ((({ U with heap := s₂.heap, slotsUsed := s₂.slotsUsed } : State).setVm s₂.vm).setTop { g with pc := g.pc + len₂, stack := v.toList ++ g.stack })
    rw [← hs₂]
    exact hsteps
  · obtain ⟨e2, q2, q3, q4, q5, q6⟩ := id hsm
    have e3 : s₂ = ({ (U.calling g mk a).setFrames s₂.frames with heap := s₂.heap, slotsUsed := s₂.slotsUsed } : State).setVm s₂.vm := by
      have : s₂ = ({ s₂ with vm := (U.calling g mk a).vm } : State).setVm s₂.vm := rfl
      rw [e2] at this
      exact this
    have hf₂ : s₂.frames = .throwing q :: .java g :: U.frames.tail := hend
    have hW' : U.WarmedH s₂.vm := hW₂
    have hs₂ : s₂ = ((({ U with heap := s₂.heap, slotsUsed := s₂.slotsUsed } : State).setVm s₂.vm).setTop g).pushFrame (.throwing q) := by
      refine e3.trans ?_
      rw [hf₂, State.calling_eq h.top, State.setFrames_setFrames, State.pushFrame, State.frames_setTop _ hr', State.setTop_of_frames _ hr', State.setFrames_setFrames, hr]
      rfl
    have hsame : U.sameButNew ({ U with heap := s₂.heap, slotsUsed := s₂.slotsUsed } : State) L mc ms := by
      refine ⟨?_, q2, q3, q4, q5, q6⟩
      obtain ⟨t, ht, -⟩ := State.frames_cons hr
      show ({ U with heap := s₂.heap, slotsUsed := s₂.slotsUsed } : State) = { U.setFrames U.frames with heap := s₂.heap, slotsUsed := s₂.slotsUsed }
      rw [State.setFrames_self ht]
    subst hg
    refine Or.inr ⟨q, ⟨(({ U with heap := s₂.heap, slotsUsed := s₂.slotsUsed } : State).setVm s₂.vm), Ls ++ L, c0 + mc, s0 + ms⟩,
      ⟨X.admits, X.cas, X.clock, X.frames, X.room, X.hears, X.method, X.code, (X.here.setHeapUsed s₂.heap s₂.slotsUsed).setVm hW'.alike, X.tail, State.WarmedH.trans X.warmed hW', X.limits, X.bytes, X.same.trans (hsame.setVm s.vm)⟩,
      ⟨g, mk, s₂, L, E, ce, rfl, rfl, hx, hce, hcv, hcl, rfl, hL, rfl, rfl⟩, ?_⟩
    show Steps p.tables e below _ (((({ U with heap := s₂.heap, slotsUsed := s₂.slotsUsed } : State).setVm s₂.vm).setTop g).pushFrame (.throwing q))
    rw [← hs₂]
    exact hsteps
end Payer
section Calls
variable {p : Program} {l : Launch} {e : Env} {R : Room} {s : State} {m : MethodId} {args : Array Value} {below : List Frame} {meth : Method} {c : Code} {T : State} {locs : List Loc} {cells slots : Nat}
theorem vx_callV (X : Stand p l e R s m args below meth c T locs cells slots) (hexec : p.tables.exec = Jvm.exec) {own C : String} {index : Nat} {y : MethodName} {bytes : ByteArray} {maxL : Nat} {ret : Option FieldType}
    (hown : s.vm.findClass own = some m.cls) (hlink : (Cond.methodLink own index y).before args s = true) (hinst : (Cond.instanceMethod y).before args s = true) (hsel : (Cond.selects C y y).before args s = true)
    (hcode : (Cond.code y bytes maxL ret).before args s = true) (hy : y.cls ≠ "java/lang/invoke/MethodHandle" ∧ y.cls ≠ "java/lang/invoke/VarHandle")
    {W9 : Nat} {Pre : Pt → Array Value → Prop} {Post : Pt → Array Value → Option Value → Pt → Prop} {PostX : Pt → Array Value → Addr → Pt → Prop} (hK : vx_Back l R p e below s args y 3 W9 Pre Post PostX)
    {b : Addr} {cellB : Cell} (hcell : T.heap[b]? = some cellB) (hobj : cellB.vm.isStatics = false) (hcls : s.vm.findClass C = some cellB.cls)
    {g : JFrame} (hg : g.method = m) (hsize : g.locals.size = c.maxLocals) {argsL rest : List Value} (hlen : ∀ sig, parseMethodDescriptor y.desc = some sig → argsL.length = sig.parameters.length)
    (hstack : g.stack = argsL.reverse ++ .ref b :: rest) (hW : 2 * g.monitorRoom + (rest.map fun v => v.category).sum ≤ W9) (hdg : decode c.code g.pc = .ok (.invokevirtual index, 3))
    (hpre : ∀ vm₁, s.WarmedH vm₁ → Pre ⟨T.setVm vm₁, locs, cells, slots⟩ (Value.ref b :: argsL).toArray) :
    (∃ (v : Option Value) (vm₁ : Vm) (B : Pt), s.WarmedH vm₁ ∧ Stand p l e R s m args below meth c B.U B.locs B.cells B.slots ∧ Post ⟨T.setVm vm₁, locs, cells, slots⟩ (Value.ref b :: argsL).toArray v B ∧
      ∀ target, Steps p.tables e below (B.U.setTop { g with pc := g.pc + 3, stack := v.toList ++ rest }) target → Steps p.tables e below (T.setTop g) target) ∨
    (∃ (q : Addr) (vm₁ : Vm) (B : Pt), s.WarmedH vm₁ ∧ Stand p l e R s m args below meth c B.U B.locs B.cells B.slots ∧ PostX ⟨T.setVm vm₁, locs, cells, slots⟩ (Value.ref b :: argsL).toArray q B ∧
      Steps p.tables e below (T.setTop g) ((B.U.setTop { g with stack := rest }).pushFrame (.throwing q))) := by
  obtain ⟨mk, methM, hnamed, hmethM, hstM, habM⟩ := Cond.instanceMethod_spec hinst
  obtain ⟨methM', cM, hmethM', -, -, -, -, -, -, hsigM⟩ := Cond.code_spec hnamed hcode
  cases hmethM.symm.trans hmethM'
  obtain ⟨c2, r2, m2, q1, q2, q3, q4, kP, hkP, hkPi⟩ := Cond.selects_spec hsel
  cases hcls.symm.trans q1
  cases (State.methodFound?_of_named hnamed hy).symm.trans q2
  cases hnamed.symm.trans q3
  have hselP : selectMethod e.platform s.vm cellB.cls mk = .method mk := by rw [Launch.admits_selectMethod X.admits]; exact q4
  obtain ⟨vm₁, X₁, hstep₁⟩ := X.invokevirtual hexec hown hlink hnamed hmethM hstM hkP hkPi hy (a := b) (cell := cellB) hcell
    (fun z h => by rw [h] at hobj; cases hobj) hselP hmethM habM hkP hkPi (g := g) hg (argsL := argsL) (rest := rest) (hlen _ hsigM) hstack hdg
  rcases hK m meth c ⟨T.setVm vm₁, locs, cells, slots⟩ { g with stack := rest } (.invokevirtual index) mk (Value.ref b :: argsL).toArray X₁ hg hsize hdg hW (X₁.named hnamed) (hpre vm₁ X₁.warmed) with ⟨v, B, X', hpost, hsteps⟩ | ⟨q, B, X', hpost, hsteps⟩
  · exact Or.inl ⟨v, vm₁, B, X₁.warmed, X', hpost, fun target h => hstep₁ _ fun acts => by rw [doInvoke_state]; exact hsteps.trans h⟩
  · exact Or.inr ⟨q, vm₁, B, X₁.warmed, X', hpost, hstep₁ _ fun acts => by rw [doInvoke_state]; exact hsteps⟩
theorem vx_callS (X : Stand p l e R s m args below meth c T locs cells slots) (hexec : p.tables.exec = Jvm.exec) {own : String} {index : Nat} {y : MethodName} {bytes : ByteArray} {maxL : Nat} {ret : Option FieldType}
    (hown : s.vm.findClass own = some m.cls) (hlink : (Cond.methodLink own index y).before args s = true) (hstat : (Cond.static y).before args s = true) (hinit : (Cond.initialized y.cls).before args s = true)
    (hcode : (Cond.code y bytes maxL ret).before args s = true) (hy : y.cls ≠ "java/lang/invoke/MethodHandle" ∧ y.cls ≠ "java/lang/invoke/VarHandle")
    {W9 : Nat} {Pre : Pt → Array Value → Prop} {Post : Pt → Array Value → Option Value → Pt → Prop} {PostX : Pt → Array Value → Addr → Pt → Prop} (hK : vx_Back l R p e below s args y 3 W9 Pre Post PostX)
    {g : JFrame} (hg : g.method = m) (hsize : g.locals.size = c.maxLocals) {argsL rest : List Value} (hlen : ∀ sig, parseMethodDescriptor y.desc = some sig → argsL.length = sig.parameters.length)
    (hstack : g.stack = argsL.reverse ++ rest) (hW : 2 * g.monitorRoom + (rest.map fun v => v.category).sum ≤ W9) (hdg : decode c.code g.pc = .ok (.invokestatic index, 3))
    (hpre : ∀ vm₁, s.WarmedH vm₁ → Pre ⟨T.setVm vm₁, locs, cells, slots⟩ argsL.toArray) :
    (∃ (v : Option Value) (vm₁ : Vm) (B : Pt), s.WarmedH vm₁ ∧ Stand p l e R s m args below meth c B.U B.locs B.cells B.slots ∧ Post ⟨T.setVm vm₁, locs, cells, slots⟩ argsL.toArray v B ∧
      ∀ target, Steps p.tables e below (B.U.setTop { g with pc := g.pc + 3, stack := v.toList ++ rest }) target → Steps p.tables e below (T.setTop g) target) ∨
    (∃ (q : Addr) (vm₁ : Vm) (B : Pt), s.WarmedH vm₁ ∧ Stand p l e R s m args below meth c B.U B.locs B.cells B.slots ∧ PostX ⟨T.setVm vm₁, locs, cells, slots⟩ argsL.toArray q B ∧
      Steps p.tables e below (T.setTop g) ((B.U.setTop { g with stack := rest }).pushFrame (.throwing q))) := by
  obtain ⟨mk, hnamed⟩ := Cond.code_named hcode
  obtain ⟨methM, cM, hmethM, -, -, -, -, -, -, hsigM⟩ := Cond.code_spec hnamed hcode
  have hstatic : methM.isStatic = true := Cond.static_spec hnamed hmethM hstat
  obtain ⟨kP, hkP, -⟩ := className_of_methodNamed hnamed
  have hinitP : kP.init = .initialized := Cond.initialized_spec (findClass_of_methodNamed hnamed) hkP hinit
  obtain ⟨vm₁, X₁, hstep₁⟩ := X.invokestatic hexec hown hlink hnamed hmethM hstatic hkP hinitP hy (g := g) hg (argsL := argsL) (rest := rest) (hlen _ hsigM) hstack hdg
  rcases hK m meth c ⟨T.setVm vm₁, locs, cells, slots⟩ { g with stack := rest } (.invokestatic index) mk argsL.toArray X₁ hg hsize hdg hW (X₁.named hnamed) (hpre vm₁ X₁.warmed) with ⟨v, B, X', hpost, hsteps⟩ | ⟨q, B, X', hpost, hsteps⟩
  · exact Or.inl ⟨v, vm₁, B, X₁.warmed, X', hpost, fun target h => hstep₁ _ fun acts => by rw [doInvoke_state]; exact hsteps.trans h⟩
  · exact Or.inr ⟨q, vm₁, B, X₁.warmed, X', hpost, hstep₁ _ fun acts => by rw [doInvoke_state]; exact hsteps⟩
end Calls
theorem vx_cls {s : State} {T : State} {vm₁ : Vm} {E : String} {k : ClassId} (hW : s.WarmedH vm₁) (h : (T.setVm vm₁).vm.findClass E = some k) : s.vm.findClass E = some k := by
  have h1 : vm₁.findClass E = some k := h
  rw [hW.alike.findClass] at h1
  exact h1
/-- the method's frame g, with q thrown over it -/
def vx_W (p : Program) (l : Launch) (e : Env) (R : Room) (s : State) (m : MethodId) (args : Array Value) (below : List Frame) (meth : Method) (c : Code) (H : Heap) (locs : List Loc) (cells slots : Nat) (Q : State → Prop) (g : JFrame) (q : Addr) : Prop :=
  ∀ T : State, T.heap = H → Stand p l e R s m args below meth c T locs cells slots → ∃ t, Steps p.tables e below ((T.setTop g).pushFrame (.throwing q)) t ∧ Q t
def vx_Run (p : Program) (l : Launch) (e : Env) (R : Room) (s : State) (m : MethodId) (args : Array Value) (below : List Frame) (meth : Method) (c : Code) (H : Heap) (locs : List Loc) (cells slots mc ms : Nat) (g : JFrame) (rest : List Value) (Qa : State → Outcome → State → Prop) (XC : String → State → State → Prop) (free : Addr → Prop) : Prop :=
  ∀ T : State, T.heap = H → Stand p l e R s m args below meth c T locs cells slots →
    (∃ (v : Option Value) (st₀ t T' : State) (L : List Loc), st₀.heap = H ∧ Stand p l e R s m args below meth c T' (locs ++ L) (cells + mc) (slots + ms) ∧ (∀ q ∈ L, free q.base) ∧ T'.heap = t.heap ∧ T'.vm = t.vm ∧ Qa st₀ (.returned v) t ∧
      Goes p e below T g T' { g with pc := g.pc + 3, stack := v.toList ++ rest }) ∨
    (∃ (q : Addr) (st₀ t T' : State) (L : List Loc) (E : String) (ce : Cell), st₀.heap = H ∧ Stand p l e R s m args below meth c T' (locs ++ L) (cells + mc) (slots + ms) ∧ (∀ z ∈ L, free z.base) ∧ T'.heap = t.heap ∧ T'.vm = t.vm ∧ XC E st₀ t ∧ t.heap[q]? = some ce ∧ ce.vm = .none ∧ s.vm.findClass E = some ce.cls ∧
      Steps p.tables e below (T.setTop g) ((T'.setTop { g with stack := rest }).pushFrame (.throwing q)))
def vx_X {S : Type} (px : S → Prop) (B : String → S → State → Prop) (A : Nat → Prop) : String → State → State → Prop := fun E st t => ∃ u : S, px u ∧ B E u t ∧ va_F A st t
section Runs
variable {p : Program} {l : Launch} {e : Env} {R : Room} {s : State} {m : MethodId} {args : Array Value} {below : List Frame} {meth : Method} {c : Code} {H : Heap} {locs : List Loc} {cells slots : Nat}
variable {y : MethodName} {bytes cc : ByteArray} {maxL nL mc ms n index : Nat} {ret : Option FieldType} {ws : List Cond} {rm : Room} {Pc : Array Value → State → Prop} {Qc : Array Value → State → Outcome → State → Prop} {XC : String → State → State → Prop} {free : Addr → Prop} {Ts : List Cond} {own C : String} {b : Addr} {As rest : List Value} {g : JFrame}
theorem vx_callBack (cb : CallB R s args own index y bytes maxL ret ws rm mc ms n) (hM : vx_Met l y ws rm Pc Qc XC mc ms free) (hbl : FrameBlind Pc) : vx_Back l R p e below s args y 3 8 (PreOf R mc ms Pc) (PostOf Qc mc ms free) (vx_Post XC mc ms free) := by
  obtain ⟨hrc, hrs, hfr, hlo, hws, hcw, -, hini, -⟩ := cb
  exact vx_back (bytes := bytes) (maxL := maxL) (ret := ret) hM hbl hrc hrs hfr hlo hws hcw (fun a' U hW => word_at hW (Or.inl (by first | rfl | simp [Cond.onTables, Cond.keeps, Cond.steady])) hini)
theorem vx_runV (S : CallFix p m c cc nL s args Ts own) (hM : vx_Met l y ws rm Pc Qc XC mc ms free) (cw : CallW R s args own C index y bytes maxL ret ws rm mc ms n) (hp : PreV s H C b Pc As)
    (hg : g.method = m) (hn : As.length = n) (hsize : g.locals.size = nL) (hstack : g.stack = As.reverse ++ .ref b :: rest) (hW : 2 * g.monitorRoom + (rest.map fun v => v.category).sum ≤ 8) (hdg : decode cc g.pc = .ok (.invokevirtual index, 3)) (hf : cells + mc ≤ R.cells ∧ slots + ms ≤ R.slots) :
    vx_Run p l e R s m args below meth c H locs cells slots mc ms g rest (Qc (Value.ref b :: As).toArray) XC free := by
  have hK : vx_Back l R p e below s args y 3 8 (PreOf R mc ms Pc) (PostOf Qc mc ms free) (vx_Post XC mc ms free) := vx_callBack cw.1 hM hp.1
  obtain ⟨⟨-, -, -, -, -, -, hcode, -, hy, hlen, hl⟩, hin, hse⟩ := cw
  obtain ⟨hx, hb, hml, ho, -⟩ := S
  obtain ⟨-, ⟨cellB, hcB, hoB, hclB⟩, hPc⟩ := hp
  intro T hT X
  rcases vx_callV X hx (C := C) (bytes := bytes) (maxL := maxL) (ret := ret) ho hl hin hse hcode hy hK (by rw [hT]; exact hcB) hoB hclB hg (hsize.trans hml.symm) (argsL := As) (rest := rest) (fun sig h => hn.trans (hlen sig h)) hstack hW (by rw [hb]; exact hdg)
    (fun vm₁ hW₁ => ⟨hf.1, hf.2, hPc (T.setVm vm₁) hT hW₁⟩) with ⟨v, vm₁, ⟨U', l2, c2, s2⟩, hW₁, X', ⟨g', mk, t, L, e1, e2, hq, h1, hL, h2, h3⟩, st⟩ | ⟨q, vm₁, ⟨U', l2, c2, s2⟩, hW₁, X', ⟨g', mk, t, L, E, ce, e1, e2, hq, hce, hcv, hcl, h1, hL, h2, h3⟩, st⟩
  · dsimp only [Pt.U, Pt.locs, Pt.cells, Pt.slots] at X' e1 e2 h1 h2 h3 st
    subst h1; subst h2; subst h3
    exact Or.inl ⟨v, (T.setVm vm₁).calling g' mk (Value.ref b :: As).toArray, t, U', L, hT, X', hL, e1, e2, hq, st⟩
  · dsimp only [Pt.U, Pt.locs, Pt.cells, Pt.slots] at X' e1 e2 h1 h2 h3 st hcl
    subst h1; subst h2; subst h3
    exact Or.inr ⟨q, (T.setVm vm₁).calling g' mk (Value.ref b :: As).toArray, t, U', L, E, ce, hT, X', hL, e1, e2, hq, hce, hcv, vx_cls hW₁ hcl, st⟩
theorem vx_runS (S : CallFix p m c cc nL s args Ts own) (hM : vx_Met l y ws rm Pc Qc XC mc ms free) (cw : CallB R s args own index y bytes maxL ret ws rm mc ms n ∧ (Cond.static y).before args s = true) (hp : PreS s H Pc As)
    (hg : g.method = m) (hn : As.length = n) (hsize : g.locals.size = nL) (hstack : g.stack = As.reverse ++ rest) (hW : 2 * g.monitorRoom + (rest.map fun v => v.category).sum ≤ 8) (hdg : decode cc g.pc = .ok (.invokestatic index, 3)) (hf : cells + mc ≤ R.cells ∧ slots + ms ≤ R.slots) :
    vx_Run p l e R s m args below meth c H locs cells slots mc ms g rest (Qc As.toArray) XC free := by
  have hK : vx_Back l R p e below s args y 3 8 (PreOf R mc ms Pc) (PostOf Qc mc ms free) (vx_Post XC mc ms free) := vx_callBack cw.1 hM hp.1
  obtain ⟨⟨-, -, -, -, -, -, hcode, hini, hy, hlen, hl⟩, hstt⟩ := cw
  obtain ⟨hx, hb, hml, ho, -⟩ := S
  intro T hT X
  rcases vx_callS X hx (bytes := bytes) (maxL := maxL) (ret := ret) ho hl hstt hini hcode hy hK hg (hsize.trans hml.symm) (argsL := As) (rest := rest) (fun sig h => hn.trans (hlen sig h)) hstack hW (by rw [hb]; exact hdg)
    (fun vm₁ hW₁ => ⟨hf.1, hf.2, hp.2 (T.setVm vm₁) hT hW₁⟩) with ⟨v, vm₁, ⟨U', l2, c2, s2⟩, hW₁, X', ⟨g', mk, t, L, e1, e2, hq, h1, hL, h2, h3⟩, st⟩ | ⟨q, vm₁, ⟨U', l2, c2, s2⟩, hW₁, X', ⟨g', mk, t, L, E, ce, e1, e2, hq, hce, hcv, hcl, h1, hL, h2, h3⟩, st⟩
  · dsimp only [Pt.U, Pt.locs, Pt.cells, Pt.slots] at X' e1 e2 h1 h2 h3 st
    subst h1; subst h2; subst h3
    exact Or.inl ⟨v, (T.setVm vm₁).calling g' mk As.toArray, t, U', L, hT, X', hL, e1, e2, hq, st⟩
  · dsimp only [Pt.U, Pt.locs, Pt.cells, Pt.slots] at X' e1 e2 h1 h2 h3 st hcl
    subst h1; subst h2; subst h3
    exact Or.inr ⟨q, (T.setVm vm₁).calling g' mk As.toArray, t, U', L, E, ce, hT, X', hL, e1, e2, hq, hce, hcv, vx_cls hW₁ hcl, st⟩
end Runs
section Rows
variable {p : Program} {l : Launch} {e : Env} {R : Room} {s : State} {m : MethodId} {args : Array Value} {below : List Frame} {meth : Method} {c : Code} {H : Heap} {locs : List Loc} {cells slots : Nat} {Q : State → Prop}
variable {mc ms : Nat} {free : Addr → Prop} {A0 A1 : Nat → Prop} {H0 : Heap} {a : Array Value} {pc : Nat} {ls : Array Slot} {st0 rest : List Value}
theorem vx_keep {st₀ t T' : State} {L : List Loc} (h0 : st₀.heap = H) (e1 : T'.heap = t.heap) (hS : va_S A0 H0 H locs) (hA : ∀ q, q < H.size → A1 q → A0 q) (hf : ∀ q, free q → A0 q) (hL : ∀ q ∈ L, free q.base) (hF : va_F A1 st₀ t) :
    H.size ≤ T'.heap.size ∧ (∀ q : Nat, q < H.size → ¬ A1 q → T'.heap[q]? = H[q]?) ∧ va_S A0 H0 T'.heap (locs ++ L) := by
  obtain ⟨hz, hk⟩ := hF
  rw [h0] at hz hk
  exact ⟨by rw [e1]; exact hz, fun q h1 h2 => by rw [e1]; exact hk q h1 h2,
    ⟨Nat.le_trans hS.1 (by rw [e1]; exact hz), fun q h1 h2 => by rw [e1, hk q (Nat.lt_of_lt_of_le h1 hS.1) (fun z => h2 (hA q (Nat.lt_of_lt_of_le h1 hS.1) z))]; exact hS.2.1 q h1 h2, fun q hq => by
      rcases List.mem_append.mp hq with h | h
      · exact hS.2.2 q h
      · exact hf _ (hL q h)⟩⟩
theorem vx_calli {S SX : Type} {post : Int32 → S → Prop} {px : SX → Prop} {B : S → State → Prop} {BX : String → SX → State → Prop} {AX : Nat → Prop} (hr : vx_Run p l e R s m args below meth c H locs cells slots mc ms (F0 m pc ls st0) rest (va_Qi post B A1 a) (vx_X px BX AX) free) (hS : va_S A0 H0 H locs) (hA : ∀ q, q < H.size → A1 q → A0 q) (hf : ∀ q, free q → A0 q) (hAX : ∀ q, q < H.size → AX q → A0 q)
    (kx : ∀ (E : String) (ce : Cell) (q9 : Addr) (u : SX) (t : State) (H1 : Heap) (locs1 : List Loc), t.heap = H1 → s.vm.Alike t.vm → px u → BX E u t → H.size ≤ H1.size → (∀ q : Nat, q < H.size → ¬ AX q → H1[q]? = H[q]?) → va_S A0 H0 H1 locs1 → H1[q9]? = some ce → ce.vm = .none → s.vm.findClass E = some ce.cls → vx_W p l e R s m args below meth c H1 locs1 (cells + mc) (slots + ms) Q (F0 m pc ls rest) q9)
    (kk : ∀ (r : Int32) (u : S) (t : State) (H1 : Heap) (locs1 : List Loc), t.heap = H1 → s.vm.Alike t.vm → post r u → B u t → H.size ≤ H1.size → (∀ q : Nat, q < H.size → ¬ A1 q → H1[q]? = H[q]?) → va_S A0 H0 H1 locs1 → W p l e R s m args below meth c H1 locs1 (cells + mc) (slots + ms) Q (F0 m (pc + 3) ls (.int r :: rest))) : W p l e R s m args below meth c H locs cells slots Q (F0 m pc ls st0) := by
  intro T hT X
  rcases hr T hT X with ⟨v, st₀, t, T', L, h0, X', hL, e1, e2, ⟨⟨r, u, hv, hp, hb⟩, hF⟩, st⟩ | ⟨q, st₀, t, T', L, E, ce, h0, X', hL, e1, e2, ⟨u, hp, hb, hF⟩, hce, hcv, hcl, st⟩
  · cases hv
    obtain ⟨k1, k2, k3⟩ := vx_keep h0 e1 hS hA hf hL hF
    obtain ⟨t2, a1, b1⟩ := kk r u t T'.heap (locs ++ L) e1.symm (by rw [← e2]; exact X'.warmed.alike) hp hb k1 k2 k3 T' rfl X'
    exact ⟨t2, st t2 a1, b1⟩
  · obtain ⟨k1, k2, k3⟩ := vx_keep h0 e1 hS hAX hf hL hF
    obtain ⟨t2, a1, b1⟩ := kx E ce q u t T'.heap (locs ++ L) e1.symm (by rw [← e2]; exact X'.warmed.alike) hp hb k1 k2 k3 (by rw [e1]; exact hce) hcv hcl T' rfl X'
    exact ⟨t2, st.trans a1, b1⟩
theorem vx_calll {S SX : Type} {post : Int64 → S → Prop} {px : SX → Prop} {B : S → State → Prop} {BX : String → SX → State → Prop} {AX : Nat → Prop} (hr : vx_Run p l e R s m args below meth c H locs cells slots mc ms (F0 m pc ls st0) rest (va_Ql post B A1 a) (vx_X px BX AX) free) (hS : va_S A0 H0 H locs) (hA : ∀ q, q < H.size → A1 q → A0 q) (hf : ∀ q, free q → A0 q) (hAX : ∀ q, q < H.size → AX q → A0 q)
    (kx : ∀ (E : String) (ce : Cell) (q9 : Addr) (u : SX) (t : State) (H1 : Heap) (locs1 : List Loc), t.heap = H1 → s.vm.Alike t.vm → px u → BX E u t → H.size ≤ H1.size → (∀ q : Nat, q < H.size → ¬ AX q → H1[q]? = H[q]?) → va_S A0 H0 H1 locs1 → H1[q9]? = some ce → ce.vm = .none → s.vm.findClass E = some ce.cls → vx_W p l e R s m args below meth c H1 locs1 (cells + mc) (slots + ms) Q (F0 m pc ls rest) q9)
    (kk : ∀ (r : Int64) (u : S) (t : State) (H1 : Heap) (locs1 : List Loc), t.heap = H1 → s.vm.Alike t.vm → post r u → B u t → H.size ≤ H1.size → (∀ q : Nat, q < H.size → ¬ A1 q → H1[q]? = H[q]?) → va_S A0 H0 H1 locs1 → W p l e R s m args below meth c H1 locs1 (cells + mc) (slots + ms) Q (F0 m (pc + 3) ls (.long r :: rest))) : W p l e R s m args below meth c H locs cells slots Q (F0 m pc ls st0) := by
  intro T hT X
  rcases hr T hT X with ⟨v, st₀, t, T', L, h0, X', hL, e1, e2, ⟨⟨r, u, hv, hp, hb⟩, hF⟩, st⟩ | ⟨q, st₀, t, T', L, E, ce, h0, X', hL, e1, e2, ⟨u, hp, hb, hF⟩, hce, hcv, hcl, st⟩
  · cases hv
    obtain ⟨k1, k2, k3⟩ := vx_keep h0 e1 hS hA hf hL hF
    obtain ⟨t2, a1, b1⟩ := kk r u t T'.heap (locs ++ L) e1.symm (by rw [← e2]; exact X'.warmed.alike) hp hb k1 k2 k3 T' rfl X'
    exact ⟨t2, st t2 a1, b1⟩
  · obtain ⟨k1, k2, k3⟩ := vx_keep h0 e1 hS hAX hf hL hF
    obtain ⟨t2, a1, b1⟩ := kx E ce q u t T'.heap (locs ++ L) e1.symm (by rw [← e2]; exact X'.warmed.alike) hp hb k1 k2 k3 (by rw [e1]; exact hce) hcv hcl T' rfl X'
    exact ⟨t2, st.trans a1, b1⟩
theorem vx_callf {S SX : Type} {post : UInt32 → S → Prop} {px : SX → Prop} {B : S → State → Prop} {BX : String → SX → State → Prop} {AX : Nat → Prop} (hr : vx_Run p l e R s m args below meth c H locs cells slots mc ms (F0 m pc ls st0) rest (va_Qf post B A1 a) (vx_X px BX AX) free) (hS : va_S A0 H0 H locs) (hA : ∀ q, q < H.size → A1 q → A0 q) (hf : ∀ q, free q → A0 q) (hAX : ∀ q, q < H.size → AX q → A0 q)
    (kx : ∀ (E : String) (ce : Cell) (q9 : Addr) (u : SX) (t : State) (H1 : Heap) (locs1 : List Loc), t.heap = H1 → s.vm.Alike t.vm → px u → BX E u t → H.size ≤ H1.size → (∀ q : Nat, q < H.size → ¬ AX q → H1[q]? = H[q]?) → va_S A0 H0 H1 locs1 → H1[q9]? = some ce → ce.vm = .none → s.vm.findClass E = some ce.cls → vx_W p l e R s m args below meth c H1 locs1 (cells + mc) (slots + ms) Q (F0 m pc ls rest) q9)
    (kk : ∀ (r : UInt32) (u : S) (t : State) (H1 : Heap) (locs1 : List Loc), t.heap = H1 → s.vm.Alike t.vm → post r u → B u t → H.size ≤ H1.size → (∀ q : Nat, q < H.size → ¬ A1 q → H1[q]? = H[q]?) → va_S A0 H0 H1 locs1 → W p l e R s m args below meth c H1 locs1 (cells + mc) (slots + ms) Q (F0 m (pc + 3) ls (.float r :: rest))) : W p l e R s m args below meth c H locs cells slots Q (F0 m pc ls st0) := by
  intro T hT X
  rcases hr T hT X with ⟨v, st₀, t, T', L, h0, X', hL, e1, e2, ⟨⟨r, u, hv, hp, hb⟩, hF⟩, st⟩ | ⟨q, st₀, t, T', L, E, ce, h0, X', hL, e1, e2, ⟨u, hp, hb, hF⟩, hce, hcv, hcl, st⟩
  · cases hv
    obtain ⟨k1, k2, k3⟩ := vx_keep h0 e1 hS hA hf hL hF
    obtain ⟨t2, a1, b1⟩ := kk r u t T'.heap (locs ++ L) e1.symm (by rw [← e2]; exact X'.warmed.alike) hp hb k1 k2 k3 T' rfl X'
    exact ⟨t2, st t2 a1, b1⟩
  · obtain ⟨k1, k2, k3⟩ := vx_keep h0 e1 hS hAX hf hL hF
    obtain ⟨t2, a1, b1⟩ := kx E ce q u t T'.heap (locs ++ L) e1.symm (by rw [← e2]; exact X'.warmed.alike) hp hb k1 k2 k3 (by rw [e1]; exact hce) hcv hcl T' rfl X'
    exact ⟨t2, st.trans a1, b1⟩
theorem vx_calld {S SX : Type} {post : UInt64 → S → Prop} {px : SX → Prop} {B : S → State → Prop} {BX : String → SX → State → Prop} {AX : Nat → Prop} (hr : vx_Run p l e R s m args below meth c H locs cells slots mc ms (F0 m pc ls st0) rest (va_Qd post B A1 a) (vx_X px BX AX) free) (hS : va_S A0 H0 H locs) (hA : ∀ q, q < H.size → A1 q → A0 q) (hf : ∀ q, free q → A0 q) (hAX : ∀ q, q < H.size → AX q → A0 q)
    (kx : ∀ (E : String) (ce : Cell) (q9 : Addr) (u : SX) (t : State) (H1 : Heap) (locs1 : List Loc), t.heap = H1 → s.vm.Alike t.vm → px u → BX E u t → H.size ≤ H1.size → (∀ q : Nat, q < H.size → ¬ AX q → H1[q]? = H[q]?) → va_S A0 H0 H1 locs1 → H1[q9]? = some ce → ce.vm = .none → s.vm.findClass E = some ce.cls → vx_W p l e R s m args below meth c H1 locs1 (cells + mc) (slots + ms) Q (F0 m pc ls rest) q9)
    (kk : ∀ (r : UInt64) (u : S) (t : State) (H1 : Heap) (locs1 : List Loc), t.heap = H1 → s.vm.Alike t.vm → post r u → B u t → H.size ≤ H1.size → (∀ q : Nat, q < H.size → ¬ A1 q → H1[q]? = H[q]?) → va_S A0 H0 H1 locs1 → W p l e R s m args below meth c H1 locs1 (cells + mc) (slots + ms) Q (F0 m (pc + 3) ls (.double r :: rest))) : W p l e R s m args below meth c H locs cells slots Q (F0 m pc ls st0) := by
  intro T hT X
  rcases hr T hT X with ⟨v, st₀, t, T', L, h0, X', hL, e1, e2, ⟨⟨r, u, hv, hp, hb⟩, hF⟩, st⟩ | ⟨q, st₀, t, T', L, E, ce, h0, X', hL, e1, e2, ⟨u, hp, hb, hF⟩, hce, hcv, hcl, st⟩
  · cases hv
    obtain ⟨k1, k2, k3⟩ := vx_keep h0 e1 hS hA hf hL hF
    obtain ⟨t2, a1, b1⟩ := kk r u t T'.heap (locs ++ L) e1.symm (by rw [← e2]; exact X'.warmed.alike) hp hb k1 k2 k3 T' rfl X'
    exact ⟨t2, st t2 a1, b1⟩
  · obtain ⟨k1, k2, k3⟩ := vx_keep h0 e1 hS hAX hf hL hF
    obtain ⟨t2, a1, b1⟩ := kx E ce q u t T'.heap (locs ++ L) e1.symm (by rw [← e2]; exact X'.warmed.alike) hp hb k1 k2 k3 (by rw [e1]; exact hce) hcv hcl T' rfl X'
    exact ⟨t2, st.trans a1, b1⟩
theorem vx_callv {S SX : Type} {post : S → Prop} {px : SX → Prop} {B : S → State → Prop} {BX : String → SX → State → Prop} {AX : Nat → Prop} (hr : vx_Run p l e R s m args below meth c H locs cells slots mc ms (F0 m pc ls st0) rest (va_Qv post B A1 a) (vx_X px BX AX) free) (hS : va_S A0 H0 H locs) (hA : ∀ q, q < H.size → A1 q → A0 q) (hf : ∀ q, free q → A0 q) (hAX : ∀ q, q < H.size → AX q → A0 q)
    (kx : ∀ (E : String) (ce : Cell) (q9 : Addr) (u : SX) (t : State) (H1 : Heap) (locs1 : List Loc), t.heap = H1 → s.vm.Alike t.vm → px u → BX E u t → H.size ≤ H1.size → (∀ q : Nat, q < H.size → ¬ AX q → H1[q]? = H[q]?) → va_S A0 H0 H1 locs1 → H1[q9]? = some ce → ce.vm = .none → s.vm.findClass E = some ce.cls → vx_W p l e R s m args below meth c H1 locs1 (cells + mc) (slots + ms) Q (F0 m pc ls rest) q9)
    (kk : ∀ (u : S) (t : State) (H1 : Heap) (locs1 : List Loc), t.heap = H1 → s.vm.Alike t.vm → post u → B u t → H.size ≤ H1.size → (∀ q : Nat, q < H.size → ¬ A1 q → H1[q]? = H[q]?) → va_S A0 H0 H1 locs1 → W p l e R s m args below meth c H1 locs1 (cells + mc) (slots + ms) Q (F0 m (pc + 3) ls (rest))) : W p l e R s m args below meth c H locs cells slots Q (F0 m pc ls st0) := by
  intro T hT X
  rcases hr T hT X with ⟨v, st₀, t, T', L, h0, X', hL, e1, e2, ⟨⟨u, hv, hp, hb⟩, hF⟩, st⟩ | ⟨q, st₀, t, T', L, E, ce, h0, X', hL, e1, e2, ⟨u, hp, hb, hF⟩, hce, hcv, hcl, st⟩
  · cases hv
    obtain ⟨k1, k2, k3⟩ := vx_keep h0 e1 hS hA hf hL hF
    obtain ⟨t2, a1, b1⟩ := kk u t T'.heap (locs ++ L) e1.symm (by rw [← e2]; exact X'.warmed.alike) hp hb k1 k2 k3 T' rfl X'
    exact ⟨t2, st t2 a1, b1⟩
  · obtain ⟨k1, k2, k3⟩ := vx_keep h0 e1 hS hAX hf hL hF
    obtain ⟨t2, a1, b1⟩ := kx E ce q u t T'.heap (locs ++ L) e1.symm (by rw [← e2]; exact X'.warmed.alike) hp hb k1 k2 k3 (by rw [e1]; exact hce) hcv hcl T' rfl X'
    exact ⟨t2, st.trans a1, b1⟩
/-- caught by the row x of this method's table; the rows ahead don't take it -/
theorem vx_catch {own name : String} {E : String} {ce : Cell} {q : Addr} (hown : s.vm.findClass own = some m.cls) (pre : List ExceptionTableEntry) (x : ExceptionTableEntry) (suf : List ExceptionTableEntry) (hsplit : c.exceptionTable.toList = pre ++ x :: suf)
    (hpass : ∀ z ∈ pre, covers z pc = false ∨ (z.catchType ≠ 0 ∧ ∃ nm : String, (Cond.classLink own z.catchType nm).before args s = true ∧ va_Nc E nm s)) (hx : covers x pc = true) (h0 : x.catchType ≠ 0)
    (hlink : (Cond.classLink own x.catchType name).before args s = true) (hcast : (Cond.castable E name).before args s = true) (hcell : H[q]? = some ce) (hv : ce.vm = .none) (hcl : s.vm.findClass E = some ce.cls)
    (kk : W p l e R s m args below meth c H locs cells slots Q (F0 m x.handlerPc ls [.ref q])) : vx_W p l e R s m args below meth c H locs cells slots Q (F0 m pc ls rest) q := by
  intro T hT X
  have hpl : e.platform.magicAccessors = ({} : Platform).magicAccessors := by rw [X.admits.platform]
  obtain ⟨c3, c4, hc3, hc4, hasg⟩ := Cond.castable_spec hcast
  cases Option.some.inj (hc3.symm.trans hcl)
  obtain ⟨c5, hc5, hcl5⟩ := Cond.classLink_spec hown hlink e.platform hpl
  cases Option.some.inj (hc4.symm.trans hc5)
  obtain ⟨vm', X', st⟩ := X.thenCaughtThrough q (g := F0 m pc ls rest) rfl (Steps.refl _) (by rw [hT]; exact hcell) (by rw [hv]; rfl) (by obtain ⟨k9, h9, -⟩ := Vm.findClass_spec hcl; exact ⟨k9, h9⟩) pre x suf hsplit
    (fun z hz => by
      rcases hpass z hz with h | ⟨hz0, nm, hl1, hn1⟩
      · exact Or.inl h
      · obtain ⟨c6, hc6, hcl6⟩ := Cond.classLink_spec hown hl1 e.platform hpl
        obtain ⟨a8, b8, h1, h2, h3⟩ := hn1
        cases Option.some.inj (h1.symm.trans hcl)
        cases Option.some.inj (h2.symm.trans hc6)
        exact Or.inr ⟨hz0, _, hcl6, h3⟩) hx (Or.inr ⟨h0, c4, hcl5, hasg⟩)
  obtain ⟨t, a1, b1⟩ := kk (T.setVm vm') hT X'
  exact ⟨t, st.trans a1, b1⟩
end Rows
section Ends
variable {p : Program} {l : Launch} {e : Env} {R : Room} {s : State} {m : MethodId} {args : Array Value} {below : List Frame} {meth : Method} {c : Code} {H : Heap} {locs : List Loc} {cells slots : Nat} {Q : State → Prop}
variable {mc ms : Nat} {free : Addr → Prop} {A0 A1 : Nat → Prop} {H0 : Heap} {a : Array Value} {ls : Array Slot} {st0 rest : List Value}
variable {Qc : Array Value → State → Outcome → State → Prop} {XC : String → State → State → Prop}
/-- what a body that may throw owes at its end -/
def vx_MQ (below : List Frame) (Qc : Array Value → State → Outcome → State → Prop) (XC : String → State → State → Prop) (a : Array Value) (s : State) (mc ms : Nat) (free : Addr → Prop) : State → Prop := fun t =>
  ∃ o, t.status = .running ∧ Ended t below o ∧ vx_Q Qc XC mc ms free a s o t
theorem vx_ret {g : JFrame} {mc ms : Nat} (k : W p l e R s m args below meth c H locs cells slots (MQ below Qc args s mc ms free) g) : W p l e R s m args below meth c H locs cells slots (vx_MQ below Qc XC args s mc ms free) g := by
  intro T hT X
  obtain ⟨t, a1, o, b1, b2, b3, b4⟩ := k T hT X
  exact ⟨t, a1, o, b1, b2, Or.inl ⟨b3, b4⟩⟩
/-- not caught here: it goes on to the caller -/
theorem vx_widen {g : JFrame} {q : Addr} {k n : Nat} (h1 : cells ≤ k) (h2 : slots ≤ n) (kk : vx_W p l e R s m args below meth c H locs k n Q g q) : vx_W p l e R s m args below meth c H locs cells slots Q g q := fun T hT X => kk T hT (stand_widen X h1 h2)
theorem vx_out {pc : Nat} {E : String} {ce : Cell} {q : Addr} {mc ms : Nat} (hout : ∀ x ∈ c.exceptionTable.toList, covers x pc = false) (hlocks : meth.locks = false) (hcell : H[q]? = some ce) (hv : ce.vm = .none) (hcl : s.vm.findClass E = some ce.cls)
    (hx : ∀ t : State, t.heap = H → s.vm.Alike t.vm → XC E s t) (hf : ∀ z ∈ locs, free z.base) (hc : cells ≤ mc) (hs : slots ≤ ms) :
    vx_W p l e R s m args below meth c H locs cells slots (vx_MQ below Qc XC args s mc ms free) (F0 m pc ls rest) q := by
  intro T hT X
  obtain ⟨st1, hrun, hend, hW, hsm⟩ := X.leaveThrown q (g := F0 m pc ls rest) rfl rfl rfl hout hlocks
  have hcell9 : (T.setFrames (.throwing q :: below)).heap[q]? = some ce := by
    show T.heap[q]? = some ce
    rw [hT]; exact hcell
  exact ⟨_, st1, .threw q, hrun, hend, Or.inr ⟨q, rfl, E, ce, locs, hx _ hT hW.alike, hcell9, hv, hcl, hW, hsm.mono hc hs, hf⟩⟩
theorem vx_frame {U : State} {k n : Nat} (h : s.sameButNew ({ U with vm := s.vm } : State) locs k n) : s.heap.size ≤ U.heap.size ∧ ∀ q : Nat, q < s.heap.size → (∀ z ∈ locs, z.base ≠ q) → U.heap[q]? = s.heap[q]? := by
  obtain ⟨-, h2, -, -, -, h6⟩ := h
  refine ⟨h2, fun q hq hz => ?_⟩
  obtain ⟨c9, e1, e2, e3, e4⟩ := h6 q _ (Array.getElem?_eq_getElem hq)
  have hs : c9.slots = (s.heap[q]).slots := Array.ext_getElem? fun i => e4 i fun hm => hz _ hm rfl
  have h9 : c9 = s.heap[q] := by
    rw [hs] at e2
    exact e2
  have e5 : U.heap[q]? = some c9 := e1
  rw [e5, h9, Array.getElem?_eq_getElem hq]
/-- the words of a throw but the four that speak of the heap -/
def vx_no (w : Cond) : Bool := decide (w ≠ .isRef (.static Bundle.tN "UNASSIGNED_STACK" Bundle.steD)) && decide (w ≠ .isRef (.static Bundle.tN "SUPPRESSED_SENTINEL" Bundle.listD)) && decide (w ≠ .laysStatic Bundle.tN "UNASSIGNED_STACK" Bundle.steD) && decide (w ≠ .laysStatic Bundle.tN "SUPPRESSED_SENTINEL" Bundle.listD)
def vx_at0 (own : String) (ic : Nat) (X : String) (names : List String) : List Cond := (Bundle.ownAtoms0 own ic X names).filter vx_no
def vx_atS (own : String) (ic : Nat) (X : String) (names : List String) : List Cond := (Bundle.ownAtoms own ic X names).filter vx_no
/-- a word that the tables alone decide, or a good one -/
def vx_ot (w : Cond) : Bool := w.onTables || goodWord w
theorem vx_ot_at {args a' : Array Value} {s U : State} {w : Cond} (hW : s.WarmedH U.vm) (hvm : s.vm = U.vm) (hg : vx_ot w = true) (h : w.before args s = true) : w.before a' U = true := by
  simp only [vx_ot, Bool.or_eq_true] at hg
  rcases hg with hg | hg
  · exact va_tabs hg hvm h
  · exact word_at hW (good_of_word hg) h
/-- a list's words: the good ones out of the method's own list, the others by premises of their own -/
theorem vx_hat {args : Array Value} {s : State} {L B : List Cond} (h1 : ∀ w ∈ L.filter goodWord, w.before args s = true) (h2 : ∀ w ∈ L.filter (fun w => !goodWord w), w ∈ B) (h3 : ∀ w ∈ B, w.before args s = true) : ∀ w ∈ L, w.before args s = true := by
  intro w hw
  by_cases g : goodWord w = true
  · exact h1 w (List.mem_filter.mpr ⟨hw, g⟩)
  · refine h3 w (h2 w (List.mem_filter.mpr ⟨hw, ?_⟩))
    show (!goodWord w) = true
    cases hgw : goodWord w
    · rfl
    · exact absurd hgw g
theorem vx_c {args : Array Value} {s : State} {w : Cond} {B : List Cond} (h : w.before args s = true) (t : ∀ w ∈ B, w.before args s = true) : ∀ w' ∈ w :: B, w'.before args s = true := fun w' h' => (List.mem_cons.mp h').elim (fun e => by rw [e]; exact h) (t w')
theorem vx_n {args : Array Value} {s : State} : ∀ w ∈ ([] : List Cond), w.before args s = true := fun _ h => nomatch h
theorem vx_own {args : Array Value} {s : State} {L : List Cond} (h1 : ∀ w ∈ L.filter vx_no, w.before args s = true)
    (hU : (Cond.isRef (.static Bundle.tN "UNASSIGNED_STACK" Bundle.steD)).before args s = true) (hN : (Cond.isRef (.static Bundle.tN "SUPPRESSED_SENTINEL" Bundle.listD)).before args s = true)
    (lU : (Cond.laysStatic Bundle.tN "UNASSIGNED_STACK" Bundle.steD).before args s = true) (lN : (Cond.laysStatic Bundle.tN "SUPPRESSED_SENTINEL" Bundle.listD).before args s = true) : ∀ w ∈ L, w.before args s = true := by
  intro w hw
  by_cases e1 : w = .isRef (.static Bundle.tN "UNASSIGNED_STACK" Bundle.steD)
  · rw [e1]; exact hU
  · by_cases e2 : w = .isRef (.static Bundle.tN "SUPPRESSED_SENTINEL" Bundle.listD)
    · rw [e2]; exact hN
    · by_cases e3 : w = .laysStatic Bundle.tN "UNASSIGNED_STACK" Bundle.steD
      · rw [e3]; exact lU
      · by_cases e4 : w = .laysStatic Bundle.tN "SUPPRESSED_SENTINEL" Bundle.listD
        · rw [e4]; exact lN
        · exact h1 w (List.mem_filter.mpr ⟨hw, by unfold vx_no; rw [decide_eq_true e1, decide_eq_true e2, decide_eq_true e3, decide_eq_true e4]; rfl⟩)
/-- where a static field lies, its class's statics cell in H -/
def vx_L (C n d : String) (A : Nat → Prop) (U : State) (H : Heap) : Prop := ∃ (c : ClassId) (k : Class) (i : Nat) (f : Field) (a : Nat) (cell : Cell), U.vm.findClass C = some c ∧ U.fieldFound? C n d = some (c, k, i, f) ∧ f.isStatic = true ∧ k.statics = some a ∧ H[a]? = some cell ∧ cell.vm.isStatics = true ∧ cell.cls = c ∧ f.slot < cell.slots.size ∧ k.staticTypes[f.slot]? = some f.type ∧ ¬ A a
theorem vx_L.moved {C n d : String} {A : Nat → Prop} {u U : State} {H : Heap} (hvm : u.vm.Alike U.vm) (h : vx_L C n d A u H) : vx_L C n d A U H := by
  obtain ⟨c, k, i, f, a, cell, h1, h2, h3, h4, h5, h6, h7, h8, h9, h10⟩ := h
  obtain ⟨k', hi', he⟩ := State.fieldFound?_setVm hvm h2
  exact ⟨c, k', i, f, a, cell, by rw [hvm.findClass]; exact h1, hi', h3, by rw [he]; exact h4, h5, h6, h7, h8, by rw [he]; exact h9, h10⟩
theorem vx_L.kept {C n d : String} {A : Nat → Prop} {U : State} {H H1 : Heap} (h : vx_L C n d A U H) (hq : ∀ a : Nat, a < H.size → ¬ A a → H1[a]? = H[a]?) : vx_L C n d A U H1 := by
  obtain ⟨c, k, i, f, a, cell, h1, h2, h3, h4, h5, h6, h7, h8, h9, h10⟩ := h
  exact ⟨c, k, i, f, a, cell, h1, h2, h3, h4, by rw [hq a (Array.getElem?_eq_some_iff.mp h5).1 h10]; exact h5, h6, h7, h8, h9, h10⟩
theorem vx_L.narrow {C n d : String} {A B : Nat → Prop} {U : State} {H : Heap} (h : vx_L C n d A U H) (hAB : ∀ q, B q → A q) : vx_L C n d B U H := by
  obtain ⟨c, k, i, f, a, cell, h1, h2, h3, h4, h5, h6, h7, h8, h9, h10⟩ := h
  exact ⟨c, k, i, f, a, cell, h1, h2, h3, h4, h5, h6, h7, h8, h9, fun z => h10 (hAB _ z)⟩
theorem vx_L.word {C n d : String} {A : Nat → Prop} {s : State} {args : Array Value} (h : vx_L C n d A s s.heap) : (Cond.laysStatic C n d).before args s = true := by
  obtain ⟨c, k, i, f, a, cell, h1, h2, h3, h4, h5, h6, h7, h8, h9, -⟩ := h
  show (Cond.laysStatic C n d).holds args s none s [] = true
  exact Cond.laysStatic_of h1 h2 h3 h4 h5 h6 h7 h8 h9
/-- .. and what it holds: null or some reference -/
def vx_Zq (C n d : String) (A : Nat → Prop) (U : State) (H : Heap) : Prop := va_Zq C n d A U H ∧ vx_L C n d A U H
theorem vx_Zq.moved {C n d : String} {A : Nat → Prop} {u U : State} {H : Heap} (hvm : u.vm.Alike U.vm) (h : vx_Zq C n d A u H) : vx_Zq C n d A U H := ⟨va_Zq.moved hvm h.1, vx_L.moved hvm h.2⟩
theorem vx_Zq.kept {C n d : String} {A : Nat → Prop} {U : State} {H H1 : Heap} (h : vx_Zq C n d A U H) (hq : ∀ a : Nat, a < H.size → ¬ A a → H1[a]? = H[a]?) : vx_Zq C n d A U H1 := ⟨va_Zq.kept h.1 hq, vx_L.kept h.2 hq⟩
theorem vx_Zq.narrow {C n d : String} {A B : Nat → Prop} {U : State} {H : Heap} (h : vx_Zq C n d A U H) (hAB : ∀ q, B q → A q) : vx_Zq C n d B U H := ⟨va_Zq.narrow h.1 hAB, vx_L.narrow h.2 hAB⟩
theorem vx_Zqof {args : Array Value} {s : State} {C n d : String} {A : Nat → Prop} (hl : (Cond.laysStatic C n d).before args s = true) (hini : (Cond.initialized C).before args s = true) (h : (Cond.isRef (.static C n d)).before args s = true) (hA : ∀ a : Nat, a < s.heap.size → ¬ A a) : vx_Zq C n d A s s.heap := by
  refine ⟨va_Zqof hl hini h hA, ?_⟩
  obtain ⟨c, k, i, f, a, cell, h1, h2, h3, h4, h5, h6, h7, h8, h9⟩ := Cond.laysStatic_spec hl
  exact ⟨c, k, i, f, a, cell, h1, h2, h3, h4, h5, h6, h7, h8, h9, hA a (Array.getElem?_eq_some_iff.mp h5).1⟩
theorem vx_isRef {C n d : String} {v : Value} {A : Nat → Prop} {s : State} {args : Array Value} (h : va_Z C n d v A s s.heap) (hv : v.isRef = true) : (Cond.isRef (.static C n d)).before args s = true := by
  obtain ⟨cf, kf, fi, f, a, cell, h1, h2, h3, h4, h5, h6, h7, -⟩ := h
  have he : (Term.static C n d).eval args s none [] s = some v := by
    simp [Term.eval, State.fieldNamed?, h1, h2, h4, h5, h6, h7]
  simp only [Cond.before, Cond.holds, Cond.value, he]
  cases v <;> simp_all [Value.isRef]
theorem vx_isRefq {C n d : String} {A : Nat → Prop} {s : State} {args : Array Value} (h : va_Zq C n d A s s.heap) : (Cond.isRef (.static C n d)).before args s = true := by
  rcases h with h | ⟨t, h⟩
  · exact vx_isRef h rfl
  · exact vx_isRef h rfl
/-- the same frame, seen from here: as if the method were called anew in this heap -/
theorem vx_rebase {T : State} (X : Stand p l e R s m args below meth c T locs cells slots) {R' : Room} (hf : R'.frames ≤ R.frames) (hl : R'.locals ≤ R.locals) (hc : cells + R'.cells ≤ R.cells) (hs : slots + R'.slots ≤ R.slots) :
    Stand p l e R' ((T.setVm s.vm).setFrames (.invoking m args :: below)) m args below meth c T [] 0 0 := by
  have htop : (T.setVm s.vm).topJava?.isSome := X.here.top
  have hF : ((T.setVm s.vm).setFrames (.invoking m args :: below)).frames = .invoking m args :: below := State.frames_setFrames _ (State.cur_lt_of_top htop)
  obtain ⟨g₀, hg0⟩ := Option.isSome_iff_exists.mp htop
  obtain ⟨r, hr⟩ := State.topJava?_eq_some.mp hg0
  have hl9 : e.platform.stackLimits (T.setVm s.vm).me = e.platform.stackLimits s.me := X.limits
  have hb9 : (T.setVm s.vm).me.stackBytes = s.me.stackBytes := X.bytes
  refine ⟨X.admits, X.cas, X.clock, hF, ?_, X.hears, X.method, X.code, X.here, X.tail, X.warmed, ?_, ?_, ?_⟩
  · have h := X.room
    have hU : ((T.setVm s.vm).setFrames (.invoking m args :: below)).localsInUse = s.localsInUse := by
      rw [State.localsInUse_invoking hF (meth := meth) (c := c) X.method X.code, State.localsInUse_invoking X.frames X.method X.code]
    simp only [State.hasRoom, Bool.and_eq_true, decide_eq_true_eq] at h ⊢
    obtain ⟨⟨⟨⟨h1, h2, h3, h4, h5, h6⟩, h7⟩, h8⟩, h9⟩ := h
    rw [X.frames, List.length_cons] at h2 h3
    have q1 := X.heapSize
    have q2 := X.used
    simp only [hF, hU, List.length_cons, State.stackLimits_setFrames, State.stackBytes_setFrames, hl9, hb9]
    refine ⟨⟨⟨⟨by omega, by omega, by omega, by omega, by omega, h6⟩, ?_⟩, ?_⟩, X.book⟩
    · show T.heap.size + R'.cells ≤ e.platform.maxCells
      omega
    · show T.slotsUsed + R'.slots ≤ e.platform.maxSlots
      omega
  · rw [State.stackLimits_setFrames]; rfl
  · rw [State.stackBytes_setFrames]; rfl
  · refine ⟨?_, Nat.le_refl _, Nat.le_refl _, ?_, ?_, fun a c9 h9 => ⟨c9, h9, rfl, rfl, fun _ _ => rfl⟩⟩
    · obtain ⟨t, ht, -⟩ := State.frames_cons hr
      show T.setVm s.vm = { ((T.setVm s.vm).setFrames (.invoking m args :: below)).setFrames (T.setVm s.vm).frames with heap := T.heap, slotsUsed := T.slotsUsed }
      rw [State.setFrames_setFrames, State.setFrames_self ht]
      rfl
    · show T.slotsUsed = T.slotsUsed + ((T.heap.toList.drop T.heap.size).map (·.slots.size)).sum
      rw [List.drop_eq_nil_of_le (Nat.le_of_eq Array.length_toList)]
      rfl
    · show ((T.heap.toList.drop T.heap.size).map (·.slots.size)).sum ≤ 0
      rw [List.drop_eq_nil_of_le (Nat.le_of_eq Array.length_toList)]
      exact Nat.le_refl _
/-- 'throw new E()': new; dup; invokespecial; athrow -/
theorem vx_throw0 {cc : ByteArray} {pc : Nat} (hexec : p.tables.exec = Jvm.exec) (hb : c.code = cc) (hl : l.stackTraces = false) {own cls : String} {names : List String} {ik ic mc ms : Nat} {A : Nat → Prop}
    (hown : s.vm.findClass own = some m.cls) (hcls : Bundle.fit cls = true) (hnames : ∀ n ∈ names, Bundle.fit n = true)
    (hk : (Cond.classLink own ik cls).before args s = true) (hini : (Cond.initialized cls).before args s = true) (hat : ∀ w ∈ vx_at0 own ic cls names, w.before args s = true)
    (hgood : ∀ w ∈ Cond.classLink own ik cls :: Cond.initialized cls :: vx_at0 own ic cls names, vx_ot w = true)
    (hU : vx_Zq Bundle.tN "UNASSIGNED_STACK" Bundle.steD A s s.heap) (hN : vx_Zq Bundle.tN "SUPPRESSED_SENTINEL" Bundle.listD A s s.heap) (hS : va_S A s.heap H locs) (hsize : ls.size = c.maxLocals)
    (d0 : decode cc pc = .ok (.new ik, 3)) (d3 : decode cc (pc + 3) = .ok (.dup, 1)) (d4 : decode cc (pc + 4) = .ok (.invokespecial ic, 3)) (d7 : decode cc (pc + 7) = .ok (.athrow, 1))
    (hout : ∀ x ∈ c.exceptionTable.toList, covers x (pc + 7) = false)
    (hRframes : names.length + 3 < R.frames) (hRlocals : (rest.map fun v => v.category).sum + (13 * (names.length + 1) + 42) ≤ R.locals) (hRcells : cells + 1 ≤ R.cells) (hRslots : slots + 6 ≤ R.slots) (hlocks : meth.locks = false)
    (hx : ∀ t : State, s.vm.Alike t.vm → H.size ≤ t.heap.size → (∀ q : Nat, q < H.size → t.heap[q]? = H[q]?) → XC cls s t)
    (hf : ∀ z ∈ locs, free z.base) (hc : cells + 1 ≤ mc) (hs : slots + 6 ≤ ms) :
    W p l e R s m args below meth c H locs cells slots (vx_MQ below Qc XC args s mc ms free) (F0 m pc ls rest) := by
  intro T hT X
  have htr : e.platform.stackTraces = false := (show e.platform.stackTraces = l.stackTraces by rw [X.admits.platform]).trans hl
  have Y := vx_rebase X (R' := { frames := R.frames, locals := R.locals, cells := 1, slots := 6 }) (Nat.le_refl _) (Nat.le_refl _) hRcells hRslots
  obtain ⟨s', hA⟩ : ∃ z, z = (T.setVm s.vm).setFrames (.invoking m args :: below) := ⟨_, rfl⟩
  rw [← hA] at Y
  have hvm : s'.vm = s.vm := by rw [hA]; rfl
  have hhp : s'.heap = H := by rw [hA]; exact hT
  have hW0 : s.WarmedH s'.vm := by rw [hvm]; exact State.WarmedH.refl s
  have hat' : ∀ w ∈ vx_at0 own ic cls names, w.before args s' = true := fun w hw => vx_ot_at hW0 hvm.symm (hgood w (List.mem_cons_of_mem _ (List.mem_cons_of_mem _ hw))) (hat w hw)
  have hk' : (Cond.classLink own ik cls).before args s' = true := vx_ot_at hW0 hvm.symm (hgood _ List.mem_cons_self) hk
  have hini' : (Cond.initialized cls).before args s' = true := vx_ot_at hW0 hvm.symm (hgood _ (List.mem_cons_of_mem _ List.mem_cons_self)) hini
  have hU' : vx_Zq Bundle.tN "UNASSIGNED_STACK" Bundle.steD A s' s'.heap := by rw [hhp]; exact vx_Zq.moved hW0.alike (hU.kept hS.2.1)
  have hN' : vx_Zq Bundle.tN "SUPPRESSED_SENTINEL" Bundle.listD A s' s'.heap := by rw [hhp]; exact vx_Zq.moved hW0.alike (hN.kept hS.2.1)
  have h : ∀ w ∈ Bundle.ownAtoms0 own ic cls names, w.before args s' = true := vx_own hat' (vx_isRefq hU'.1) (vx_isRefq hN'.1) hU'.2.word hN'.2.word
  have hown' : s'.vm.findClass own = some m.cls := by rw [hvm]; exact hown
  have hins : (Cond.instantiable cls 6).before args s' = true := h _ (by simp [Bundle.ownAtoms0])
  obtain ⟨vm₁, cX, kX, hfX, hkX, -, -, X₁, st1⟩ := Y.newCold hexec (own := own) (C := cls) (index := ik) (n := 6) hown' hk' hins hini'
    (g := F0 m pc ls rest) rfl (by rw [hb]; exact d0) (Nat.le_refl _) (Nat.le_refl _)
  generalize hT1 : (T.setVm vm₁).pushCell { cls := cX, slots := kX.instanceTypes.map defaultValue, vm := .none } = T1 at X₁ st1
  have hcat : (Value.ref T.heap.size).category = 1 := rfl
  have hcellA : T1.heap[T.heap.size]? = some (freshCell cX kX) := by rw [← hT1]; exact State.heap_pushCell_size _ _
  have d3' : decode c.code (pc + 3) = .ok (.dup, 1) := by rw [hb]; exact d3
  obtain ⟨U, hsteps, hrun, hend, hW, hsame, ce, hce, hO⟩ := X₁.ctorThrow0 hexec htr (own := own) (cls := cls) (names := names) (ic := ic) hown' hcls hnames h (fun x hx => nomatch hx) hfX hkX hcellA (by rw [hhp, hT]; exact Nat.le_refl _)
    (g := { method := m, pc := pc + 4, locals := ls, stack := .ref T.heap.size :: .ref T.heap.size :: rest, locked := none }) rfl hsize rfl rfl (rest := rest) rfl
    (by rw [hb]; exact d4) (by rw [hb]; exact d7) hout hRframes (by simp only [List.map_cons, List.sum_cons, hcat]; omega) hlocks
  obtain ⟨f1, f2⟩ := vx_frame hsame
  rw [hhp] at f1 f2
  have hWs : s.WarmedH U.vm := State.WarmedH.trans hW0 hW
  have hcl : s.vm.findClass cls = some ce.cls := by
    have h9 := hO.cls
    rw [hvm] at h9
    exact h9
  have hall : s.sameButNew ({ U with vm := s.vm } : State) locs mc ms := by
    subst hA
    obtain ⟨e1, e2⟩ := hsame
    rw [State.setFrames_setFrames] at e1
    have h2 : (T.setVm s.vm).sameButNew ({ U with vm := s.vm } : State) [] (0 + 1) (0 + 6) := ⟨e1, e2⟩
    have h3 := X.same.trans h2
    rw [List.append_nil] at h3
    exact h3.mono hc hs
  refine ⟨U, ?_, .threw T.heap.size, hrun, hend, Or.inr ⟨T.heap.size, rfl, cls, ce, locs, hx U hWs.alike f1 (fun q hq => f2 q hq (fun z hz => nomatch hz)), hce, hO.vm, hcl, hWs, hall, hf⟩⟩
  refine st1 _ ?_
  show Steps p.tables e below (T1.setTop { method := m, pc := pc + 3, locals := ls, stack := .ref T.heap.size :: rest, locked := none }) _
  jvm_step X₁.here [X₁.here.top, hexec, d3', Value.category]
  exact hsteps
/-- 'throw new E("text")': new; dup; ldc; invokespecial; athrow -/
theorem vx_throwS {cc : ByteArray} {pc : Nat} (hexec : p.tables.exec = Jvm.exec) (hb : c.code = cc) (hl : l.stackTraces = false) {own cls text : String} {names : List String} {ik is ic mc ms sa : Nat} {A : Nat → Prop}
    (hown : s.vm.findClass own = some m.cls) (hcls : Bundle.fit cls = true) (hnames : ∀ n ∈ names, Bundle.fit n = true)
    (hk : (Cond.classLink own ik cls).before args s = true) (hini : (Cond.initialized cls).before args s = true) (hstr : vk_R own is text sa s) (hat : ∀ w ∈ vx_atS own ic cls names, w.before args s = true)
    (hgood : ∀ w ∈ Cond.classLink own ik cls :: Cond.initialized cls :: vx_atS own ic cls names, vx_ot w = true)
    (hU : vx_Zq Bundle.tN "UNASSIGNED_STACK" Bundle.steD A s s.heap) (hN : vx_Zq Bundle.tN "SUPPRESSED_SENTINEL" Bundle.listD A s s.heap) (hS : va_S A s.heap H locs) (hsize : ls.size = c.maxLocals)
    (d0 : decode cc pc = .ok (.new ik, 3)) (d3 : decode cc (pc + 3) = .ok (.dup, 1)) (d4 : decode cc (pc + 4) = .ok (.ldc is, 2)) (d6 : decode cc (pc + 6) = .ok (.invokespecial ic, 3)) (d9 : decode cc (pc + 9) = .ok (.athrow, 1))
    (hout : ∀ x ∈ c.exceptionTable.toList, covers x (pc + 9) = false)
    (hRframes : names.length + 3 < R.frames) (hRlocals : (rest.map fun v => v.category).sum + (13 * (names.length + 1) + 43) ≤ R.locals) (hRcells : cells + 1 ≤ R.cells) (hRslots : slots + 6 ≤ R.slots) (hlocks : meth.locks = false)
    (hx : ∀ t : State, s.vm.Alike t.vm → H.size ≤ t.heap.size → (∀ q : Nat, q < H.size → t.heap[q]? = H[q]?) → XC cls s t)
    (hf : ∀ z ∈ locs, free z.base) (hc : cells + 1 ≤ mc) (hs : slots + 6 ≤ ms) :
    W p l e R s m args below meth c H locs cells slots (vx_MQ below Qc XC args s mc ms free) (F0 m pc ls rest) := by
  intro T hT X
  have htr : e.platform.stackTraces = false := (show e.platform.stackTraces = l.stackTraces by rw [X.admits.platform]).trans hl
  have Y := vx_rebase X (R' := { frames := R.frames, locals := R.locals, cells := 1, slots := 6 }) (Nat.le_refl _) (Nat.le_refl _) hRcells hRslots
  obtain ⟨s', hA⟩ : ∃ z, z = (T.setVm s.vm).setFrames (.invoking m args :: below) := ⟨_, rfl⟩
  rw [← hA] at Y
  have hvm : s'.vm = s.vm := by rw [hA]; rfl
  have hhp : s'.heap = H := by rw [hA]; exact hT
  have hW0 : s.WarmedH s'.vm := by rw [hvm]; exact State.WarmedH.refl s
  have hat' : ∀ w ∈ vx_atS own ic cls names, w.before args s' = true := fun w hw => vx_ot_at hW0 hvm.symm (hgood w (List.mem_cons_of_mem _ (List.mem_cons_of_mem _ hw))) (hat w hw)
  have hk' : (Cond.classLink own ik cls).before args s' = true := vx_ot_at hW0 hvm.symm (hgood _ List.mem_cons_self) hk
  have hini' : (Cond.initialized cls).before args s' = true := vx_ot_at hW0 hvm.symm (hgood _ (List.mem_cons_of_mem _ List.mem_cons_self)) hini
  have hU' : vx_Zq Bundle.tN "UNASSIGNED_STACK" Bundle.steD A s' s'.heap := by rw [hhp]; exact vx_Zq.moved hW0.alike (hU.kept hS.2.1)
  have hN' : vx_Zq Bundle.tN "SUPPRESSED_SENTINEL" Bundle.listD A s' s'.heap := by rw [hhp]; exact vx_Zq.moved hW0.alike (hN.kept hS.2.1)
  have h : ∀ w ∈ Bundle.ownAtoms own ic cls names, w.before args s' = true := vx_own hat' (vx_isRefq hU'.1) (vx_isRefq hN'.1) hU'.2.word hN'.2.word
  have hown' : s'.vm.findClass own = some m.cls := by rw [hvm]; exact hown
  have hins : (Cond.instantiable cls 6).before args s' = true := h _ (by simp [Bundle.ownAtoms])
  obtain ⟨vm₁, cX, kX, hfX, hkX, -, -, X₁, st1⟩ := Y.newCold hexec (own := own) (C := cls) (index := ik) (n := 6) hown' hk' hins hini'
    (g := F0 m pc ls rest) rfl (by rw [hb]; exact d0) (Nat.le_refl _) (Nat.le_refl _)
  generalize hT1 : (T.setVm vm₁).pushCell { cls := cX, slots := kX.instanceTypes.map defaultValue, vm := .none } = T1 at X₁ st1
  have hcat : (Value.ref T.heap.size).category = 1 := rfl
  have hcellA : T1.heap[T.heap.size]? = some (freshCell cX kX) := by rw [← hT1]; exact State.heap_pushCell_size _ _
  have d3' : decode c.code (pc + 3) = .ok (.dup, 1) := by rw [hb]; exact d3
  have d4' : decode c.code (pc + 4) = .ok (.ldc is, 2) := by rw [hb]; exact d4
  have hstr' : vk_R own is text sa s' := vk_R.warm hW0 hstr
  obtain ⟨U, hsteps, hrun, hend, hW, hsame, ce, hce, hO⟩ := X₁.ctorThrowS hexec htr (own := own) (cls := cls) (names := names) (ic := ic) hown' hcls hnames h (fun x hx => nomatch hx) hfX hkX hcellA (by rw [hhp, hT]; exact Nat.le_refl _) (msg := .ref sa) rfl
    (g := { method := m, pc := pc + 6, locals := ls, stack := .ref sa :: .ref T.heap.size :: .ref T.heap.size :: rest, locked := none }) rfl hsize rfl rfl (rest := rest) rfl
    (by rw [hb]; exact d6) (by rw [hb]; exact d9) hout hRframes (by simp only [List.map_cons, List.sum_cons, hcat]; omega) hlocks
  obtain ⟨f1, f2⟩ := vx_frame hsame
  rw [hhp] at f1 f2
  have hWs : s.WarmedH U.vm := State.WarmedH.trans hW0 hW
  have hcl : s.vm.findClass cls = some ce.cls := by
    have h9 := hO.cls
    rw [hvm] at h9
    exact h9
  have hall : s.sameButNew ({ U with vm := s.vm } : State) locs mc ms := by
    subst hA
    obtain ⟨e1, e2⟩ := hsame
    rw [State.setFrames_setFrames] at e1
    have h2 : (T.setVm s.vm).sameButNew ({ U with vm := s.vm } : State) [] (0 + 1) (0 + 6) := ⟨e1, e2⟩
    have h3 := X.same.trans h2
    rw [List.append_nil] at h3
    exact h3.mono hc hs
  refine ⟨U, ?_, .threw T.heap.size, hrun, hend, Or.inr ⟨T.heap.size, rfl, cls, ce, locs, hx U hWs.alike f1 (fun q hq => f2 q hq (fun z hz => nomatch hz)), hce, hO.vm, hcl, hWs, hall, hf⟩⟩
  refine st1 _ ?_
  show Steps p.tables e below (T1.setTop { method := m, pc := pc + 3, locals := ls, stack := .ref T.heap.size :: rest, locked := none }) _
  jvm_step X₁.here [X₁.here.top, hexec, d3', Value.category]
  exact X₁.ldcString hexec (own := own) (text := text) (index := is) (a := sa) hown' hstr'.1 hstr'.2
    (g := { method := m, pc := pc + 4, locals := ls, stack := .ref T.heap.size :: .ref T.heap.size :: rest, locked := none }) rfl d4' _ hsteps
/-- 'throw new E("text")', the text by a wide index -/
theorem vx_throwSW {cc : ByteArray} {pc : Nat} (hexec : p.tables.exec = Jvm.exec) (hb : c.code = cc) (hl : l.stackTraces = false) {own cls text : String} {names : List String} {ik is ic mc ms sa : Nat} {A : Nat → Prop}
    (hown : s.vm.findClass own = some m.cls) (hcls : Bundle.fit cls = true) (hnames : ∀ n ∈ names, Bundle.fit n = true)
    (hk : (Cond.classLink own ik cls).before args s = true) (hini : (Cond.initialized cls).before args s = true) (hstr : vk_R own is text sa s) (hat : ∀ w ∈ vx_atS own ic cls names, w.before args s = true)
    (hgood : ∀ w ∈ Cond.classLink own ik cls :: Cond.initialized cls :: vx_atS own ic cls names, vx_ot w = true)
    (hU : vx_Zq Bundle.tN "UNASSIGNED_STACK" Bundle.steD A s s.heap) (hN : vx_Zq Bundle.tN "SUPPRESSED_SENTINEL" Bundle.listD A s s.heap) (hS : va_S A s.heap H locs) (hsize : ls.size = c.maxLocals)
    (d0 : decode cc pc = .ok (.new ik, 3)) (d3 : decode cc (pc + 3) = .ok (.dup, 1)) (d4 : decode cc (pc + 4) = .ok (.ldc_w is, 3)) (d7 : decode cc (pc + 7) = .ok (.invokespecial ic, 3)) (d10 : decode cc (pc + 10) = .ok (.athrow, 1))
    (hout : ∀ x ∈ c.exceptionTable.toList, covers x (pc + 10) = false)
    (hRframes : names.length + 3 < R.frames) (hRlocals : (rest.map fun v => v.category).sum + (13 * (names.length + 1) + 43) ≤ R.locals) (hRcells : cells + 1 ≤ R.cells) (hRslots : slots + 6 ≤ R.slots) (hlocks : meth.locks = false)
    (hx : ∀ t : State, s.vm.Alike t.vm → H.size ≤ t.heap.size → (∀ q : Nat, q < H.size → t.heap[q]? = H[q]?) → XC cls s t)
    (hf : ∀ z ∈ locs, free z.base) (hc : cells + 1 ≤ mc) (hs : slots + 6 ≤ ms) :
    W p l e R s m args below meth c H locs cells slots (vx_MQ below Qc XC args s mc ms free) (F0 m pc ls rest) := by
  intro T hT X
  have htr : e.platform.stackTraces = false := (show e.platform.stackTraces = l.stackTraces by rw [X.admits.platform]).trans hl
  have Y := vx_rebase X (R' := { frames := R.frames, locals := R.locals, cells := 1, slots := 6 }) (Nat.le_refl _) (Nat.le_refl _) hRcells hRslots
  obtain ⟨s', hA⟩ : ∃ z, z = (T.setVm s.vm).setFrames (.invoking m args :: below) := ⟨_, rfl⟩
  rw [← hA] at Y
  have hvm : s'.vm = s.vm := by rw [hA]; rfl
  have hhp : s'.heap = H := by rw [hA]; exact hT
  have hW0 : s.WarmedH s'.vm := by rw [hvm]; exact State.WarmedH.refl s
  have hat' : ∀ w ∈ vx_atS own ic cls names, w.before args s' = true := fun w hw => vx_ot_at hW0 hvm.symm (hgood w (List.mem_cons_of_mem _ (List.mem_cons_of_mem _ hw))) (hat w hw)
  have hk' : (Cond.classLink own ik cls).before args s' = true := vx_ot_at hW0 hvm.symm (hgood _ List.mem_cons_self) hk
  have hini' : (Cond.initialized cls).before args s' = true := vx_ot_at hW0 hvm.symm (hgood _ (List.mem_cons_of_mem _ List.mem_cons_self)) hini
  have hU' : vx_Zq Bundle.tN "UNASSIGNED_STACK" Bundle.steD A s' s'.heap := by rw [hhp]; exact vx_Zq.moved hW0.alike (hU.kept hS.2.1)
  have hN' : vx_Zq Bundle.tN "SUPPRESSED_SENTINEL" Bundle.listD A s' s'.heap := by rw [hhp]; exact vx_Zq.moved hW0.alike (hN.kept hS.2.1)
  have h : ∀ w ∈ Bundle.ownAtoms own ic cls names, w.before args s' = true := vx_own hat' (vx_isRefq hU'.1) (vx_isRefq hN'.1) hU'.2.word hN'.2.word
  have hown' : s'.vm.findClass own = some m.cls := by rw [hvm]; exact hown
  have hins : (Cond.instantiable cls 6).before args s' = true := h _ (by simp [Bundle.ownAtoms])
  obtain ⟨vm₁, cX, kX, hfX, hkX, -, -, X₁, st1⟩ := Y.newCold hexec (own := own) (C := cls) (index := ik) (n := 6) hown' hk' hins hini'
    (g := F0 m pc ls rest) rfl (by rw [hb]; exact d0) (Nat.le_refl _) (Nat.le_refl _)
  generalize hT1 : (T.setVm vm₁).pushCell { cls := cX, slots := kX.instanceTypes.map defaultValue, vm := .none } = T1 at X₁ st1
  have hcat : (Value.ref T.heap.size).category = 1 := rfl
  have hcellA : T1.heap[T.heap.size]? = some (freshCell cX kX) := by rw [← hT1]; exact State.heap_pushCell_size _ _
  have d3' : decode c.code (pc + 3) = .ok (.dup, 1) := by rw [hb]; exact d3
  have d4' : decode c.code (pc + 4) = .ok (.ldc_w is, 3) := by rw [hb]; exact d4
  have hstr' : vk_R own is text sa s' := vk_R.warm hW0 hstr
  obtain ⟨U, hsteps, hrun, hend, hW, hsame, ce, hce, hO⟩ := X₁.ctorThrowS hexec htr (own := own) (cls := cls) (names := names) (ic := ic) hown' hcls hnames h (fun x hx => nomatch hx) hfX hkX hcellA (by rw [hhp, hT]; exact Nat.le_refl _) (msg := .ref sa) rfl
    (g := { method := m, pc := pc + 7, locals := ls, stack := .ref sa :: .ref T.heap.size :: .ref T.heap.size :: rest, locked := none }) rfl hsize rfl rfl (rest := rest) rfl
    (by rw [hb]; exact d7) (by rw [hb]; exact d10) hout hRframes (by simp only [List.map_cons, List.sum_cons, hcat]; omega) hlocks
  obtain ⟨f1, f2⟩ := vx_frame hsame
  rw [hhp] at f1 f2
  have hWs : s.WarmedH U.vm := State.WarmedH.trans hW0 hW
  have hcl : s.vm.findClass cls = some ce.cls := by
    have h9 := hO.cls
    rw [hvm] at h9
    exact h9
  have hall : s.sameButNew ({ U with vm := s.vm } : State) locs mc ms := by
    subst hA
    obtain ⟨e1, e2⟩ := hsame
    rw [State.setFrames_setFrames] at e1
    have h2 : (T.setVm s.vm).sameButNew ({ U with vm := s.vm } : State) [] (0 + 1) (0 + 6) := ⟨e1, e2⟩
    have h3 := X.same.trans h2
    rw [List.append_nil] at h3
    exact h3.mono hc hs
  refine ⟨U, ?_, .threw T.heap.size, hrun, hend, Or.inr ⟨T.heap.size, rfl, cls, ce, locs, hx U hWs.alike f1 (fun q hq => f2 q hq (fun z hz => nomatch hz)), hce, hO.vm, hcl, hWs, hall, hf⟩⟩
  refine st1 _ ?_
  show Steps p.tables e below (T1.setTop { method := m, pc := pc + 3, locals := ls, stack := .ref T.heap.size :: rest, locked := none }) _
  jvm_step X₁.here [X₁.here.top, hexec, d3', Value.category]
  exact X₁.ldcStringW hexec (own := own) (text := text) (index := is) (a := sa) hown' hstr'.1 hstr'.2
    (g := { method := m, pc := pc + 4, locals := ls, stack := .ref T.heap.size :: .ref T.heap.size :: rest, locked := none }) rfl d4' _ hsteps
end Ends
section Bodies
variable {l : Launch}
theorem vx_ofW {y : MethodName} {ws ws' : List Cond} {rm : Room} {Pc : Array Value → State → Prop} {Qc : Array Value → State → Outcome → State → Prop} {XC : String → State → State → Prop} {mc ms : Nat} {free : Addr → Prop} {cc : ByteArray} {maxL : Nat} {ret : Option FieldType}
    (hy : plainName y.cls = true) (hw : ws = Cond.code y cc maxL ret :: ws')
    (body : ∀ p e s m args below meth c s₁, BodyLoose p l y (headSpec ws rm) cc maxL ret e s m args below meth c s₁ → c.maxLocals = maxL → (∀ x ∈ c.exceptionTable.toList, False) → Pc args s →
      W p l e (headSpec ws rm).room s m args below meth c s.heap [] 0 0 (vx_MQ below Qc XC args s mc ms free) (entryFrame m args maxL)) : vx_Met l y ws rm Pc Qc XC mc ms free := by
  refine MetFree.of_bodyS (code := cc) (maxLocals := maxL) (ret := ret) hy ?_ ?_
  · intro args s m h hn
    obtain ⟨meth, c, h1, h2, h3, h4, h5, h6, -, -⟩ := Cond.code_spec hn (atoms_spec (ws := ws) h _ (by rw [hw]; exact List.mem_cons_self))
    exact ⟨meth, c, h1, h2, h3, h4, h5, h6⟩
  · intro p e s m args below meth c s₁ B hml hP _
    have hh0 : s₁.heap = s.heap := by rw [B.state]; rfl
    have ht : ∀ x ∈ c.exceptionTable.toList, False := by
      obtain ⟨meth9, c9, h1, h2, -, -, -, -, h7, -⟩ := Cond.code_spec B.named (atoms_spec (ws := ws) B.pre _ (by rw [hw]; exact List.mem_cons_self))
      cases Option.some.inj (h1.symm.trans B.method)
      cases Option.some.inj (h2.symm.trans (Stand.of_body B).code)
      intro x hx
      rw [Array.isEmpty_iff.mp h7] at hx
      cases hx
    obtain ⟨t, a1, o, b1, b2, b3⟩ := body p e s m args below meth c s₁ B hml ht hP s₁ hh0 (Stand.of_body B)
    exact ⟨t, o, a1, b1, b2, b3⟩
/-- the table of a body with handlers -/
theorem vx_table {p : Program} {x y : MethodName} {S : Spec} {cc bytes : ByteArray} {maxL maxL' : Nat} {ret ret' : Option FieldType} {e : Env} {s s₁ : State} {m : MethodId} {args : Array Value} {below : List Frame} {meth : Method} {c : Code} {hh : List (Nat × Nat × Nat × Nat)}
    (B : BodyLoose p l y S cc maxL ret e s m args below meth c s₁) (h : (Cond.codeWith y bytes maxL' ret' hh).before args s = true) : c.exceptionTable.toList = tableOf hh := by
  obtain ⟨m9, meth9, c9, hn9, h1, h2, -, -, h6, -⟩ := Cond.codeWith_spec h
  cases Option.some.inj (hn9.symm.trans B.named)
  cases Option.some.inj (h1.symm.trans B.method)
  cases Option.some.inj (h2.symm.trans (Stand.of_body B).code)
  rw [← h6, table_eq]
end Bodies
end VXA
/-! ===== END ===== -/
/-! ===== BEGIN a static call of a method with an exception table ===== -/
section VXS
variable {p : Program} {l : Launch} {e : Env} {R : Room} {s : State} {m : MethodId} {args : Array Value} {below : List Frame} {meth : Method} {c : Code} {T : State} {H : Heap} {locs : List Loc} {cells slots : Nat}
abbrev vx_CSW (R : Room) (s : State) (args : Array Value) (own : String) (index : Nat) (y : MethodName) (bytes : ByteArray) (maxL : Nat) (ret : Option FieldType) (hh : List (Nat × Nat × Nat × Nat)) (ws : List Cond) (rm : Room) (mc ms n : Nat) : Prop :=
  (rm.cells = mc ∧ rm.slots = ms ∧ rm.frames + 1 ≤ R.frames ∧ 8 + (maxL + 11) + rm.locals ≤ R.locals ∧ (∀ w ∈ ws, ∀ (a' : Array Value) (U : State), s.WarmedH U.vm → w.before a' U = true) ∧ Cond.codeWith y bytes maxL ret hh ∈ ws) ∧
  (Cond.codeWith y bytes maxL ret hh).before args s = true ∧ (Cond.initialized y.cls).before args s = true ∧ (y.cls ≠ "java/lang/invoke/MethodHandle" ∧ y.cls ≠ "java/lang/invoke/VarHandle") ∧
  (∀ sig, parseMethodDescriptor y.desc = some sig → n = sig.parameters.length) ∧ (Cond.methodLink own index y).before args s = true ∧ (Cond.static y).before args s = true
theorem vx_cwSW {own : String} {index maxL mc ms : Nat} {y : MethodName} {bytes : ByteArray} {ret : Option FieldType} {hh : List (Nat × Nat × Nat × Nat)} {Ts ws ws' : List Cond} {rm : Room} (n : Nat) (ht : ∀ w ∈ Ts, w.before args s = true) (hT : GoodIn Ts (va_wsS own index y ws)) (hw : ws = Cond.codeWith y bytes maxL ret hh :: ws') (hrc : rm.cells = mc) (hrs : rm.slots = ms)
    (hd : y.cls ≠ "java/lang/invoke/MethodHandle" ∧ y.cls ≠ "java/lang/invoke/VarHandle" ∧ (parseMethodDescriptor y.desc).map (fun d => d.parameters.length) = some n) (hR : rm.frames + 1 ≤ R.frames ∧ 8 + (maxL + 11) + rm.locals ≤ R.locals) :
    vx_CSW R s args own index y bytes maxL ret hh ws rm mc ms n := by
  have ok : ∀ w ∈ va_wsS own index y ws, w.before args s = true := fun w h => ht w (hT w h).1
  have hG : GoodIn Ts ws := fun w h => hT w (by unfold va_wsS; exact List.mem_append_right _ h)
  have hc : Cond.codeWith y bytes maxL ret hh ∈ ws := by rw [hw]; exact List.mem_cons_self
  refine ⟨⟨hrc, hrs, hR.1, hR.2, pay_in ht hG, hc⟩, ht _ (hG _ hc).1, ok _ (by simp [va_wsS]), ⟨hd.1, hd.2.1⟩, fun sig h => ?_, ok _ (by simp [va_wsS]), ok _ (by simp [va_wsS])⟩
  have h2 := hd.2.2
  rw [h] at h2
  exact (Option.some.inj h2).symm
theorem vx_callSW (X : Stand p l e R s m args below meth c T locs cells slots) (hexec : p.tables.exec = Jvm.exec) {own : String} {index : Nat} {y : MethodName} {bytes : ByteArray} {maxL : Nat} {ret : Option FieldType} {hh : List (Nat × Nat × Nat × Nat)}
    (hown : s.vm.findClass own = some m.cls) (hlink : (Cond.methodLink own index y).before args s = true) (hstat : (Cond.static y).before args s = true) (hinit : (Cond.initialized y.cls).before args s = true)
    (hcode : (Cond.codeWith y bytes maxL ret hh).before args s = true) (hy : y.cls ≠ "java/lang/invoke/MethodHandle" ∧ y.cls ≠ "java/lang/invoke/VarHandle")
    {W9 : Nat} {Pre : Pt → Array Value → Prop} {Post : Pt → Array Value → Option Value → Pt → Prop} (hK : Back l R p e below s args y 3 W9 Pre Post)
    {g : JFrame} (hg : g.method = m) (hsize : g.locals.size = c.maxLocals) {argsL rest : List Value} (hlen : ∀ sig, parseMethodDescriptor y.desc = some sig → argsL.length = sig.parameters.length)
    (hstack : g.stack = argsL.reverse ++ rest) (hW : 2 * g.monitorRoom + (rest.map fun v => v.category).sum ≤ W9) (hdg : decode c.code g.pc = .ok (.invokestatic index, 3))
    (hpre : ∀ vm₁, s.WarmedH vm₁ → Pre ⟨T.setVm vm₁, locs, cells, slots⟩ argsL.toArray) :
    ∃ (v : Option Value) (vm₁ : Vm) (B : Pt), s.WarmedH vm₁ ∧ Stand p l e R s m args below meth c B.U B.locs B.cells B.slots ∧ Post ⟨T.setVm vm₁, locs, cells, slots⟩ argsL.toArray v B ∧
      ∀ target, Steps p.tables e below (B.U.setTop { g with pc := g.pc + 3, stack := v.toList ++ rest }) target → Steps p.tables e below (T.setTop g) target := by
  obtain ⟨mk, methM, cM, hnamed, hmethM, -, -, -, -, -, -, hsigM⟩ := Cond.codeWith_spec hcode
  have hstatic : methM.isStatic = true := Cond.static_spec hnamed hmethM hstat
  obtain ⟨kP, hkP, -⟩ := className_of_methodNamed hnamed
  have hinitP : kP.init = .initialized := Cond.initialized_spec (findClass_of_methodNamed hnamed) hkP hinit
  obtain ⟨vm₁, X₁, hstep₁⟩ := X.invokestatic hexec hown hlink hnamed hmethM hstatic hkP hinitP hy (g := g) hg (argsL := argsL) (rest := rest) (hlen _ hsigM) hstack hdg
  obtain ⟨v, B, X', hpost, hsteps⟩ := hK m meth c ⟨T.setVm vm₁, locs, cells, slots⟩ { g with stack := rest } (.invokestatic index) mk argsL.toArray X₁ hg hsize hdg hW (X₁.named hnamed) (hpre vm₁ X₁.warmed)
  exact ⟨v, vm₁, B, X₁.warmed, X', hpost, fun target h => hstep₁ _ fun acts => by rw [doInvoke_state]; exact hsteps.trans h⟩
theorem vx_runSW {y : MethodName} {bytes cc : ByteArray} {maxL nL mc ms n index : Nat} {ret : Option FieldType} {hh : List (Nat × Nat × Nat × Nat)} {ws : List Cond} {rm : Room} {Pc : Array Value → State → Prop} {Qc : Array Value → State → Outcome → State → Prop} {free : Addr → Prop} {Ts : List Cond} {own : String} {As rest : List Value} {g : JFrame}
    (S : CallFix p m c cc nL s args Ts own) (hM : Met l y ws rm Pc Qc mc ms free) (cw : vx_CSW R s args own index y bytes maxL ret hh ws rm mc ms n) (hp : PreS s H Pc As)
    (hg : g.method = m) (hn : As.length = n) (hsize : g.locals.size = nL) (hstack : g.stack = As.reverse ++ rest) (hW : 2 * g.monitorRoom + (rest.map fun v => v.category).sum ≤ 8) (hdg : decode cc g.pc = .ok (.invokestatic index, 3)) (hf : cells + mc ≤ R.cells ∧ slots + ms ≤ R.slots) :
    va_Run p l e R s m args below meth c H locs cells slots mc ms g rest (Qc As.toArray) (free) := by
  obtain ⟨⟨hrc, hrs, hfr, hlo, hws, hcw⟩, hcode, hini, hy, hlen, hl, hstt⟩ := cw
  have hK : Back l R p e below s args y 3 8 (PreOf R mc ms Pc) (PostOf Qc mc ms free) := va_backW (hh := hh) (bytes := bytes) (maxL := maxL) (ret := ret) hM hp.1 hrc hrs hfr hlo hws hcw (fun a' U hW => word_at hW (Or.inl (by first | rfl | simp [Cond.onTables, Cond.keeps, Cond.steady])) hini)
  obtain ⟨hx, hb, hml, ho, -⟩ := S
  intro T hT X
  obtain ⟨v, vm₁, ⟨U', l2, c2, s2⟩, hW₁, X', ⟨g', mk, t, L, e1, e2, hq, h1, hL, h2, h3⟩, st⟩ := vx_callSW X hx (hh := hh) (bytes := bytes) (maxL := maxL) (ret := ret) ho hl hstt hini hcode hy hK hg (hsize.trans hml.symm) (argsL := As) (rest := rest) (fun sig h => hn.trans (hlen sig h)) hstack hW (by rw [hb]; exact hdg)
    (fun vm₁ hW₁ => ⟨hf.1, hf.2, hp.2 (T.setVm vm₁) hT hW₁⟩)
  dsimp only [Pt.U, Pt.locs, Pt.cells, Pt.slots] at X' e1 e2 h1 h2 h3 st
  subst h1; subst h2; subst h3
  exact ⟨v, (T.setVm vm₁).calling g' mk As.toArray, t, U', L, hT, X', hL, e1, e2, hq, st⟩
/-- not caught here, past rows that name other classes: it goes on to the caller -/
theorem vx_outP {p : Program} {l : Launch} {e : Env} {R : Room} {s : State} {m : MethodId} {args : Array Value} {below : List Frame} {meth : Method} {c : Code} {H : Heap} {locs : List Loc} {cells slots : Nat} {free : Addr → Prop} {ls : Array Slot} {rest : List Value} {Qc : Array Value → State → Outcome → State → Prop} {XC : String → State → State → Prop}
    {pc : Nat} {own E : String} {ce : Cell} {q : Addr} {mc ms : Nat} (hown : s.vm.findClass own = some m.cls) (hlocks : meth.locks = false)
    (hpass : ∀ z ∈ c.exceptionTable.toList, covers z pc = false ∨ (z.catchType ≠ 0 ∧ ∃ nm : String, (Cond.classLink own z.catchType nm).before args s = true ∧ va_Nc E nm s)) (hcell : H[q]? = some ce) (hv : ce.vm = .none) (hcl : s.vm.findClass E = some ce.cls)
    (hx : ∀ t : State, t.heap = H → s.vm.Alike t.vm → XC E s t) (hf : ∀ z ∈ locs, free z.base) (hc : cells ≤ mc) (hs : slots ≤ ms) :
    vx_W p l e R s m args below meth c H locs cells slots (vx_MQ below Qc XC args s mc ms free) (F0 m pc ls rest) q := by
  intro T hT X
  have hpl : e.platform.magicAccessors = ({} : Platform).magicAccessors := by rw [X.admits.platform]
  obtain ⟨vm', hW', X', st⟩ := X.outThrough hlocks q (g := F0 m pc ls rest) rfl rfl rfl (cell := ce) (by rw [hT]; exact hcell) (by rw [hv]; rfl)
    (by obtain ⟨k9, h9, -⟩ := Vm.findClass_spec hcl; exact ⟨k9, h9⟩) (fun z hz => by
      rcases hpass z hz with h | ⟨hz0, nm, hl1, hn1⟩
      · exact Or.inl h
      · obtain ⟨c6, hc6, hcl6⟩ := Cond.classLink_spec hown hl1 e.platform hpl
        obtain ⟨a8, b8, h1, h2, h3⟩ := hn1
        cases Option.some.inj (h1.symm.trans hcl)
        cases Option.some.inj (h2.symm.trans hc6)
        exact Or.inr ⟨hz0, _, hcl6, h3⟩)
  obtain ⟨g₀, hfr⟩ := X'.frames_eq
  have hcell9 : ((T.setVm vm').setFrames (.throwing q :: below)).heap[q]? = some ce := by
    show T.heap[q]? = some ce
    rw [hT]; exact hcell
  have hend : Ended ((T.setVm vm').setFrames (.throwing q :: below)) below (.threw q) := State.frames_setFrames _ (State.cur_lt_of_frames hfr)
  refine ⟨(T.setVm vm').setFrames (.throwing q :: below), ?_, .threw q, X'.here.running, hend, Or.inr ⟨q, rfl, E, ce, locs, hx _ hT (X'.ends _).1.alike, hcell9, hv, hcl, (X'.ends _).1, (X'.ends _).2.mono hc hs, hf⟩⟩
  rw [X.pushThrowing_eq]
  exact st
/-- a thing of a world lies in the heap -/
theorem vx_lt {D : va_G} {cl : List vw_C} {ws : va_W} {H1 : Heap} (h : va_P D cl ws H1) {k : Nat} {q : Nat × va_E} (hk : ws[k]? = some q) : q.1 < H1.size := (h k q hk).lt
end VXS
/-! ===== END ===== -/
/-! ===== BEGIN methods with a table of their own: called by a name, returning or throwing ===== -/
section VXH
/-! vx_backW, vx_callVX, vx_callSX, vx_callVW, vx_runVW, vx_runVX, vx_runSX, vx_ofWH follow the same proofs as their sisters above (Free/Laws.lean, Shelf42/LK1.lean); vx_outP calls Shelf42/NT130.lean (outThrough). -/
section
variable {l : Launch} {R : Room} {p : Program} {e : Env} {below : List Frame} {s : State} {sargs : Array Value} {y : MethodName} {len W9 : Nat}
theorem vx_backW {ws : List Cond} {rm : Room} {Pc : Array Value → State → Prop} {Qc : Array Value → State → Outcome → State → Prop} {XC : String → State → State → Prop} {mc ms : Nat} {free : Addr → Prop} {bytes : ByteArray} {maxL : Nat} {ret : Option FieldType} {hh : List (Nat × Nat × Nat × Nat)}
    (hM : vx_Met l y ws rm Pc Qc XC mc ms free) (hblind : FrameBlind Pc) (hrc : rm.cells = mc) (hrs : rm.slots = ms)
    (hframes : rm.frames + 1 ≤ R.frames) (hlocals : W9 + (maxL + 11) + rm.locals ≤ R.locals)
    (hws : ∀ w ∈ ws, ∀ a' U, s.WarmedH U.vm → w.before a' U = true) (hcode : Cond.codeWith y bytes maxL ret hh ∈ ws) (hinit : ∀ a' U, s.WarmedH U.vm → (Cond.initialized y.cls).before a' U = true) :
    vx_Back l R p e below s sargs y len W9 (PreOf R mc ms Pc) (PostOf Qc mc ms free) (vx_Post XC mc ms free) := by
  intro m meth c A g ig mk a X hg hsize hdg hW hn hp
  have h1 : (headSpec ws rm).pre.before a A.U = true := atoms_intro fun w hw => hws w hw _ _ X.warmed
  have h2 : (Cond.codeWith y bytes maxL ret hh).before a A.U = true := hws _ hcode _ _ X.warmed
  have h3 : (Cond.initialized y.cls).before a A.U = true := hinit _ _ X.warmed
  have h4 : A.cells + (headSpec ws rm).room.cells ≤ R.cells := by rw [show (headSpec ws rm).room.cells = mc from hrc]; exact hp.1
  have h5 : A.slots + (headSpec ws rm).room.slots ≤ R.slots := by rw [show (headSpec ws rm).room.slots = ms from hrs]; exact hp.2.1
  have hPc : Pc a (A.U.calling g mk a) := hblind _ _ _ _ hp.2.2
  obtain ⟨U, Ls, c0, s0⟩ := A
  dsimp only [Pt.U, Pt.locs, Pt.cells, Pt.slots] at h1 h2 h3 h4 h5 X hn hPc ⊢
  obtain ⟨m9, methY, cY, hn9, hmY, hcY, -, hlY, -⟩ := Cond.codeWith_spec h2
  cases Option.some.inj (hn9.symm.trans hn)
  obtain ⟨kY, hkY, -⟩ := className_of_methodNamed hn
  have hinitY : kY.init = .initialized := Cond.initialized_spec (findClass_of_methodNamed hn) hkY h3
  have h : At U g.method c below := by rw [hg]; exact X.here
  have hlocals9 : W9 + (maxL + 11) + (headSpec ws rm).room.locals ≤ R.locals := hlocals
  have happ : (headSpec ws rm).appliesLoose y e.platform (U.calling g mk a) = true :=
    Spec.appliesLoose_calling (g := g) h hdg hn hkY hinitY
      (X.room_calling (g := g) (R' := (headSpec ws rm).room) hsize hmY hcY hframes (by rw [hlY]; omega) h4 h5) h1
  obtain ⟨mid, hmid⟩ := h.above
  have hfr : (U.setTop g).frames = (.java g :: mid) ++ below := by rw [State.frames_setTop' g h.top, hmid]; rfl
  obtain ⟨o, s₂, hsteps, -, hend, hq⟩ := Steps.callFree hM p X.admits X.cas X.clock (acts := []) hfr happ hPc trivial
  have hq' : vx_Q Qc XC mc ms free a (U.calling g mk a) o s₂ := hq
  rw [State.frames_setTop' g h.top] at hend
  obtain ⟨g₀, hg0⟩ := Option.isSome_iff_exists.mp h.top
  obtain ⟨r, hr⟩ := State.topJava?_eq_some.mp hg0
  have hr' : (({ U with heap := s₂.heap, slotsUsed := s₂.slotsUsed } : State).setVm s₂.vm).frames = .java g₀ :: r := hr
  rcases hq' with ⟨hqc, L, hfe, hL⟩ | ⟨q, rfl, E, ce, L, hx, hce, hcv, hcl, hW₂, hsm, hL⟩
  · obtain ⟨⟨v, rfl⟩, hW₂, e2, q2, q3, q4, q5, q6⟩ := id hfe
    have e3 : s₂ = ({ (U.calling g mk a).setFrames s₂.frames with heap := s₂.heap, slotsUsed := s₂.slotsUsed } : State).setVm s₂.vm := by
      have : s₂ = ({ s₂ with vm := (U.calling g mk a).vm } : State).setVm s₂.vm := rfl
      rw [e2] at this
      exact this
    obtain ⟨c₂, i₂, len₂, hc₂, hd₂, hf₂⟩ := hend
    have hW' : U.WarmedH s₂.vm := hW₂
    have hcc : c₂ = c := by
      have h1 : s₂.code? g.method = U.code? g.method := by
        rw [State.code?_eq, State.code?_eq, hW'.alike.method?]
      exact Option.some.inj (hc₂.symm.trans (h1.trans h.code))
    subst hcc
    have hlen : len₂ = len := by rw [hdg] at hd₂; cases hd₂; rfl
    subst hlen
    have hs₂ : s₂ = (({ U with heap := s₂.heap, slotsUsed := s₂.slotsUsed } : State).setVm s₂.vm).setTop { g with pc := g.pc + len₂, stack := v.toList ++ g.stack } := by
      refine e3.trans ?_
      rw [hf₂, State.calling_eq h.top, State.setFrames_setFrames, State.setTop_of_frames _ hr', hr]
      rfl
    have hsame : U.sameButNew ({ U with heap := s₂.heap, slotsUsed := s₂.slotsUsed } : State) L mc ms := by
      refine ⟨?_, q2, q3, q4, q5, q6⟩
      obtain ⟨t, ht, -⟩ := State.frames_cons hr
      show ({ U with heap := s₂.heap, slotsUsed := s₂.slotsUsed } : State) = { U.setFrames U.frames with heap := s₂.heap, slotsUsed := s₂.slotsUsed }
      rw [State.setFrames_self ht]
    subst hg
    refine Or.inl ⟨v, ⟨(({ U with heap := s₂.heap, slotsUsed := s₂.slotsUsed } : State).setVm s₂.vm), Ls ++ L, c0 + mc, s0 + ms⟩,
      ⟨X.admits, X.cas, X.clock, X.frames, X.room, X.hears, X.method, X.code, (X.here.setHeapUsed s₂.heap s₂.slotsUsed).setVm hW'.alike, X.tail, State.WarmedH.trans X.warmed hW', X.limits, X.bytes, X.same.trans (hsame.setVm s.vm)⟩,
      ⟨g, mk, s₂, L, rfl, rfl, hqc, rfl, hL, rfl, rfl⟩, ?_⟩
    show Steps p.tables e below _ ((({ U with heap := s₂.heap, slotsUsed := s₂.slotsUsed } : State).setVm s₂.vm).setTop { g with pc := g.pc + len₂, stack := v.toList ++ g.stack })
    rw [← hs₂]
    exact hsteps
  · obtain ⟨e2, q2, q3, q4, q5, q6⟩ := id hsm
    have e3 : s₂ = ({ (U.calling g mk a).setFrames s₂.frames with heap := s₂.heap, slotsUsed := s₂.slotsUsed } : State).setVm s₂.vm := by
      have : s₂ = ({ s₂ with vm := (U.calling g mk a).vm } : State).setVm s₂.vm := rfl
      rw [e2] at this
      exact this
    have hf₂ : s₂.frames = .throwing q :: .java g :: U.frames.tail := hend
    have hW' : U.WarmedH s₂.vm := hW₂
    have hs₂ : s₂ = ((({ U with heap := s₂.heap, slotsUsed := s₂.slotsUsed } : State).setVm s₂.vm).setTop g).pushFrame (.throwing q) := by
      refine e3.trans ?_
      rw [hf₂, State.calling_eq h.top, State.setFrames_setFrames, State.pushFrame, State.frames_setTop _ hr', State.setTop_of_frames _ hr', State.setFrames_setFrames, hr]
      rfl
    have hsame : U.sameButNew ({ U with heap := s₂.heap, slotsUsed := s₂.slotsUsed } : State) L mc ms := by
      refine ⟨?_, q2, q3, q4, q5, q6⟩
      obtain ⟨t, ht, -⟩ := State.frames_cons hr
      show ({ U with heap := s₂.heap, slotsUsed := s₂.slotsUsed } : State) = { U.setFrames U.frames with heap := s₂.heap, slotsUsed := s₂.slotsUsed }
      rw [State.setFrames_self ht]
    subst hg
    refine Or.inr ⟨q, ⟨(({ U with heap := s₂.heap, slotsUsed := s₂.slotsUsed } : State).setVm s₂.vm), Ls ++ L, c0 + mc, s0 + ms⟩,
      ⟨X.admits, X.cas, X.clock, X.frames, X.room, X.hears, X.method, X.code, (X.here.setHeapUsed s₂.heap s₂.slotsUsed).setVm hW'.alike, X.tail, State.WarmedH.trans X.warmed hW', X.limits, X.bytes, X.same.trans (hsame.setVm s.vm)⟩,
      ⟨g, mk, s₂, L, E, ce, rfl, rfl, hx, hce, hcv, hcl, rfl, hL, rfl, rfl⟩, ?_⟩
    show Steps p.tables e below _ (((({ U with heap := s₂.heap, slotsUsed := s₂.slotsUsed } : State).setVm s₂.vm).setTop g).pushFrame (.throwing q))
    rw [← hs₂]
    exact hsteps
end
variable {p : Program} {l : Launch} {e : Env} {R : Room} {s : State} {m : MethodId} {args : Array Value} {below : List Frame} {meth : Method} {c : Code} {T : State} {H : Heap} {locs : List Loc} {cells slots : Nat}
theorem vx_callVX (X : Stand p l e R s m args below meth c T locs cells slots) (hexec : p.tables.exec = Jvm.exec) {own C : String} {index : Nat} {y : MethodName} {bytes : ByteArray} {maxL : Nat} {ret : Option FieldType} {hh : List (Nat × Nat × Nat × Nat)}
    (hown : s.vm.findClass own = some m.cls) (hlink : (Cond.methodLink own index y).before args s = true) (hinst : (Cond.instanceMethod y).before args s = true) (hsel : (Cond.selects C y y).before args s = true)
    (hcode : (Cond.codeWith y bytes maxL ret hh).before args s = true) (hy : y.cls ≠ "java/lang/invoke/MethodHandle" ∧ y.cls ≠ "java/lang/invoke/VarHandle")
    {W9 : Nat} {Pre : Pt → Array Value → Prop} {Post : Pt → Array Value → Option Value → Pt → Prop} {PostX : Pt → Array Value → Addr → Pt → Prop} (hK : vx_Back l R p e below s args y 3 W9 Pre Post PostX)
    {b : Addr} {cellB : Cell} (hcell : T.heap[b]? = some cellB) (hobj : cellB.vm.isStatics = false) (hcls : s.vm.findClass C = some cellB.cls)
    {g : JFrame} (hg : g.method = m) (hsize : g.locals.size = c.maxLocals) {argsL rest : List Value} (hlen : ∀ sig, parseMethodDescriptor y.desc = some sig → argsL.length = sig.parameters.length)
    (hstack : g.stack = argsL.reverse ++ .ref b :: rest) (hW : 2 * g.monitorRoom + (rest.map fun v => v.category).sum ≤ W9) (hdg : decode c.code g.pc = .ok (.invokevirtual index, 3))
    (hpre : ∀ vm₁, s.WarmedH vm₁ → Pre ⟨T.setVm vm₁, locs, cells, slots⟩ (Value.ref b :: argsL).toArray) :
    (∃ (v : Option Value) (vm₁ : Vm) (B : Pt), s.WarmedH vm₁ ∧ Stand p l e R s m args below meth c B.U B.locs B.cells B.slots ∧ Post ⟨T.setVm vm₁, locs, cells, slots⟩ (Value.ref b :: argsL).toArray v B ∧
      ∀ target, Steps p.tables e below (B.U.setTop { g with pc := g.pc + 3, stack := v.toList ++ rest }) target → Steps p.tables e below (T.setTop g) target) ∨
    (∃ (q : Addr) (vm₁ : Vm) (B : Pt), s.WarmedH vm₁ ∧ Stand p l e R s m args below meth c B.U B.locs B.cells B.slots ∧ PostX ⟨T.setVm vm₁, locs, cells, slots⟩ (Value.ref b :: argsL).toArray q B ∧
      Steps p.tables e below (T.setTop g) ((B.U.setTop { g with stack := rest }).pushFrame (.throwing q))) := by
  obtain ⟨mk, methM, hnamed, hmethM, hstM, habM⟩ := Cond.instanceMethod_spec hinst
  obtain ⟨m8, methM', cM, hn8, hmethM', -, -, -, -, -, -, hsigM⟩ := Cond.codeWith_spec hcode
  cases Option.some.inj (hn8.symm.trans hnamed)
  cases hmethM.symm.trans hmethM'
  obtain ⟨c2, r2, m2, q1, q2, q3, q4, kP, hkP, hkPi⟩ := Cond.selects_spec hsel
  cases hcls.symm.trans q1
  cases (State.methodFound?_of_named hnamed hy).symm.trans q2
  cases hnamed.symm.trans q3
  have hselP : selectMethod e.platform s.vm cellB.cls mk = .method mk := by rw [Launch.admits_selectMethod X.admits]; exact q4
  obtain ⟨vm₁, X₁, hstep₁⟩ := X.invokevirtual hexec hown hlink hnamed hmethM hstM hkP hkPi hy (a := b) (cell := cellB) hcell
    (fun z h => by rw [h] at hobj; cases hobj) hselP hmethM habM hkP hkPi (g := g) hg (argsL := argsL) (rest := rest) (hlen _ hsigM) hstack hdg
  rcases hK m meth c ⟨T.setVm vm₁, locs, cells, slots⟩ { g with stack := rest } (.invokevirtual index) mk (Value.ref b :: argsL).toArray X₁ hg hsize hdg hW (X₁.named hnamed) (hpre vm₁ X₁.warmed) with ⟨v, B, X', hpost, hsteps⟩ | ⟨q, B, X', hpost, hsteps⟩
  · exact Or.inl ⟨v, vm₁, B, X₁.warmed, X', hpost, fun target h => hstep₁ _ fun acts => by rw [doInvoke_state]; exact hsteps.trans h⟩
  · exact Or.inr ⟨q, vm₁, B, X₁.warmed, X', hpost, hstep₁ _ fun acts => by rw [doInvoke_state]; exact hsteps⟩
theorem vx_callSX (X : Stand p l e R s m args below meth c T locs cells slots) (hexec : p.tables.exec = Jvm.exec) {own : String} {index : Nat} {y : MethodName} {bytes : ByteArray} {maxL : Nat} {ret : Option FieldType} {hh : List (Nat × Nat × Nat × Nat)}
    (hown : s.vm.findClass own = some m.cls) (hlink : (Cond.methodLink own index y).before args s = true) (hstat : (Cond.static y).before args s = true) (hinit : (Cond.initialized y.cls).before args s = true)
    (hcode : (Cond.codeWith y bytes maxL ret hh).before args s = true) (hy : y.cls ≠ "java/lang/invoke/MethodHandle" ∧ y.cls ≠ "java/lang/invoke/VarHandle")
    {W9 : Nat} {Pre : Pt → Array Value → Prop} {Post : Pt → Array Value → Option Value → Pt → Prop} {PostX : Pt → Array Value → Addr → Pt → Prop} (hK : vx_Back l R p e below s args y 3 W9 Pre Post PostX)
    {g : JFrame} (hg : g.method = m) (hsize : g.locals.size = c.maxLocals) {argsL rest : List Value} (hlen : ∀ sig, parseMethodDescriptor y.desc = some sig → argsL.length = sig.parameters.length)
    (hstack : g.stack = argsL.reverse ++ rest) (hW : 2 * g.monitorRoom + (rest.map fun v => v.category).sum ≤ W9) (hdg : decode c.code g.pc = .ok (.invokestatic index, 3))
    (hpre : ∀ vm₁, s.WarmedH vm₁ → Pre ⟨T.setVm vm₁, locs, cells, slots⟩ argsL.toArray) :
    (∃ (v : Option Value) (vm₁ : Vm) (B : Pt), s.WarmedH vm₁ ∧ Stand p l e R s m args below meth c B.U B.locs B.cells B.slots ∧ Post ⟨T.setVm vm₁, locs, cells, slots⟩ argsL.toArray v B ∧
      ∀ target, Steps p.tables e below (B.U.setTop { g with pc := g.pc + 3, stack := v.toList ++ rest }) target → Steps p.tables e below (T.setTop g) target) ∨
    (∃ (q : Addr) (vm₁ : Vm) (B : Pt), s.WarmedH vm₁ ∧ Stand p l e R s m args below meth c B.U B.locs B.cells B.slots ∧ PostX ⟨T.setVm vm₁, locs, cells, slots⟩ argsL.toArray q B ∧
      Steps p.tables e below (T.setTop g) ((B.U.setTop { g with stack := rest }).pushFrame (.throwing q))) := by
  obtain ⟨mk, methM, cM, hnamed, hmethM, -, -, -, -, -, -, hsigM⟩ := Cond.codeWith_spec hcode
  have hstatic : methM.isStatic = true := Cond.static_spec hnamed hmethM hstat
  obtain ⟨kP, hkP, -⟩ := className_of_methodNamed hnamed
  have hinitP : kP.init = .initialized := Cond.initialized_spec (findClass_of_methodNamed hnamed) hkP hinit
  obtain ⟨vm₁, X₁, hstep₁⟩ := X.invokestatic hexec hown hlink hnamed hmethM hstatic hkP hinitP hy (g := g) hg (argsL := argsL) (rest := rest) (hlen _ hsigM) hstack hdg
  rcases hK m meth c ⟨T.setVm vm₁, locs, cells, slots⟩ { g with stack := rest } (.invokestatic index) mk argsL.toArray X₁ hg hsize hdg hW (X₁.named hnamed) (hpre vm₁ X₁.warmed) with ⟨v, B, X', hpost, hsteps⟩ | ⟨q, B, X', hpost, hsteps⟩
  · exact Or.inl ⟨v, vm₁, B, X₁.warmed, X', hpost, fun target h => hstep₁ _ fun acts => by rw [doInvoke_state]; exact hsteps.trans h⟩
  · exact Or.inr ⟨q, vm₁, B, X₁.warmed, X', hpost, hstep₁ _ fun acts => by rw [doInvoke_state]; exact hsteps⟩
theorem vx_callVW (X : Stand p l e R s m args below meth c T locs cells slots) (hexec : p.tables.exec = Jvm.exec) {own C : String} {index : Nat} {y : MethodName} {bytes : ByteArray} {maxL : Nat} {ret : Option FieldType} {hh : List (Nat × Nat × Nat × Nat)}
    (hown : s.vm.findClass own = some m.cls) (hlink : (Cond.methodLink own index y).before args s = true) (hinst : (Cond.instanceMethod y).before args s = true) (hsel : (Cond.selects C y y).before args s = true)
    (hcode : (Cond.codeWith y bytes maxL ret hh).before args s = true) (hy : y.cls ≠ "java/lang/invoke/MethodHandle" ∧ y.cls ≠ "java/lang/invoke/VarHandle")
    {W9 : Nat} {Pre : Pt → Array Value → Prop} {Post : Pt → Array Value → Option Value → Pt → Prop} (hK : Back l R p e below s args y 3 W9 Pre Post)
    {b : Addr} {cellB : Cell} (hcell : T.heap[b]? = some cellB) (hobj : cellB.vm.isStatics = false) (hcls : s.vm.findClass C = some cellB.cls)
    {g : JFrame} (hg : g.method = m) (hsize : g.locals.size = c.maxLocals) {argsL rest : List Value} (hlen : ∀ sig, parseMethodDescriptor y.desc = some sig → argsL.length = sig.parameters.length)
    (hstack : g.stack = argsL.reverse ++ .ref b :: rest) (hW : 2 * g.monitorRoom + (rest.map fun v => v.category).sum ≤ W9) (hdg : decode c.code g.pc = .ok (.invokevirtual index, 3))
    (hpre : ∀ vm₁, s.WarmedH vm₁ → Pre ⟨T.setVm vm₁, locs, cells, slots⟩ (Value.ref b :: argsL).toArray) :
    ∃ (v : Option Value) (vm₁ : Vm) (B : Pt), s.WarmedH vm₁ ∧ Stand p l e R s m args below meth c B.U B.locs B.cells B.slots ∧ Post ⟨T.setVm vm₁, locs, cells, slots⟩ (Value.ref b :: argsL).toArray v B ∧
      ∀ target, Steps p.tables e below (B.U.setTop { g with pc := g.pc + 3, stack := v.toList ++ rest }) target → Steps p.tables e below (T.setTop g) target := by
  obtain ⟨mk, methM, hnamed, hmethM, hstM, habM⟩ := Cond.instanceMethod_spec hinst
  obtain ⟨m8, methM', cM, hn8, hmethM', -, -, -, -, -, -, hsigM⟩ := Cond.codeWith_spec hcode
  cases Option.some.inj (hn8.symm.trans hnamed)
  cases hmethM.symm.trans hmethM'
  obtain ⟨c2, r2, m2, q1, q2, q3, q4, kP, hkP, hkPi⟩ := Cond.selects_spec hsel
  cases hcls.symm.trans q1
  cases (State.methodFound?_of_named hnamed hy).symm.trans q2
  cases hnamed.symm.trans q3
  have hselP : selectMethod e.platform s.vm cellB.cls mk = .method mk := by rw [Launch.admits_selectMethod X.admits]; exact q4
  obtain ⟨vm₁, X₁, hstep₁⟩ := X.invokevirtual hexec hown hlink hnamed hmethM hstM hkP hkPi hy (a := b) (cell := cellB) hcell
    (fun z h => by rw [h] at hobj; cases hobj) hselP hmethM habM hkP hkPi (g := g) hg (argsL := argsL) (rest := rest) (hlen _ hsigM) hstack hdg
  obtain ⟨v, B, X', hpost, hsteps⟩ := hK m meth c ⟨T.setVm vm₁, locs, cells, slots⟩ { g with stack := rest } (.invokevirtual index) mk (Value.ref b :: argsL).toArray X₁ hg hsize hdg hW (X₁.named hnamed) (hpre vm₁ X₁.warmed)
  exact ⟨v, vm₁, B, X₁.warmed, X', hpost, fun target h => hstep₁ _ fun acts => by rw [doInvoke_state]; exact hsteps.trans h⟩
abbrev vx_CVW (R : Room) (s : State) (args : Array Value) (own C : String) (index : Nat) (y : MethodName) (bytes : ByteArray) (maxL : Nat) (ret : Option FieldType) (hh : List (Nat × Nat × Nat × Nat)) (ws : List Cond) (rm : Room) (mc ms n : Nat) : Prop :=
  (rm.cells = mc ∧ rm.slots = ms ∧ rm.frames + 1 ≤ R.frames ∧ 8 + (maxL + 11) + rm.locals ≤ R.locals ∧ (∀ w ∈ ws, ∀ (a' : Array Value) (U : State), s.WarmedH U.vm → w.before a' U = true) ∧ Cond.codeWith y bytes maxL ret hh ∈ ws) ∧
  (Cond.codeWith y bytes maxL ret hh).before args s = true ∧ (Cond.initialized y.cls).before args s = true ∧ (y.cls ≠ "java/lang/invoke/MethodHandle" ∧ y.cls ≠ "java/lang/invoke/VarHandle") ∧
  (∀ sig, parseMethodDescriptor y.desc = some sig → n = sig.parameters.length) ∧ (Cond.methodLink own index y).before args s = true ∧ (Cond.instanceMethod y).before args s = true ∧ (Cond.selects C y y).before args s = true
theorem vx_cwVW {own C : String} {index maxL mc ms : Nat} {y : MethodName} {bytes : ByteArray} {ret : Option FieldType} {hh : List (Nat × Nat × Nat × Nat)} {Ts ws ws' : List Cond} {rm : Room} (n : Nat) (ht : ∀ w ∈ Ts, w.before args s = true) (hT : GoodIn Ts (wsV own index C y ws)) (hw : ws = Cond.codeWith y bytes maxL ret hh :: ws') (hrc : rm.cells = mc) (hrs : rm.slots = ms)
    (hd : y.cls = C ∧ y.cls ≠ "java/lang/invoke/MethodHandle" ∧ y.cls ≠ "java/lang/invoke/VarHandle" ∧ (parseMethodDescriptor y.desc).map (fun d => d.parameters.length) = some n) (hR : rm.frames + 1 ≤ R.frames ∧ 8 + (maxL + 11) + rm.locals ≤ R.locals) :
    vx_CVW R s args own C index y bytes maxL ret hh ws rm mc ms n := by
  obtain ⟨hC, hd⟩ := hd
  subst hC
  have ok : ∀ w ∈ wsV own index y.cls y ws, w.before args s = true := fun w h => ht w (hT w h).1
  have hG : GoodIn Ts ws := fun w h => hT w (by unfold wsV; exact List.mem_append_right _ h)
  have hc : Cond.codeWith y bytes maxL ret hh ∈ ws := by rw [hw]; exact List.mem_cons_self
  refine ⟨⟨hrc, hrs, hR.1, hR.2, pay_in ht hG, hc⟩, ht _ (hG _ hc).1, ok _ (by simp [wsV]), ⟨hd.1, hd.2.1⟩, fun sig h => ?_, ok _ (by simp [wsV]), ok _ (by simp [wsV]), ok _ (by simp [wsV])⟩
  have h2 := hd.2.2
  rw [h] at h2
  exact (Option.some.inj h2).symm
theorem vx_runVW {y : MethodName} {bytes cc : ByteArray} {maxL nL mc ms n index : Nat} {ret : Option FieldType} {hh : List (Nat × Nat × Nat × Nat)} {ws : List Cond} {rm : Room} {Pc : Array Value → State → Prop} {Qc : Array Value → State → Outcome → State → Prop} {free : Addr → Prop} {Ts : List Cond} {own C : String} {b : Addr} {As rest : List Value} {g : JFrame}
    (S : CallFix p m c cc nL s args Ts own) (hM : Met l y ws rm Pc Qc mc ms free) (cw : vx_CVW R s args own C index y bytes maxL ret hh ws rm mc ms n) (hp : PreV s H C b Pc As)
    (hg : g.method = m) (hn : As.length = n) (hsize : g.locals.size = nL) (hstack : g.stack = As.reverse ++ .ref b :: rest) (hW : 2 * g.monitorRoom + (rest.map fun v => v.category).sum ≤ 8) (hdg : decode cc g.pc = .ok (.invokevirtual index, 3)) (hf : cells + mc ≤ R.cells ∧ slots + ms ≤ R.slots) :
    va_Run p l e R s m args below meth c H locs cells slots mc ms g rest (Qc (Value.ref b :: As).toArray) free := by
  obtain ⟨⟨hrc, hrs, hfr, hlo, hws, hcw⟩, hcode, hini, hy, hlen, hl, hin, hse⟩ := cw
  have hK : Back l R p e below s args y 3 8 (PreOf R mc ms Pc) (PostOf Qc mc ms free) := va_backW (hh := hh) (bytes := bytes) (maxL := maxL) (ret := ret) hM hp.1 hrc hrs hfr hlo hws hcw (fun a' U hW => word_at hW (Or.inl (by first | rfl | simp [Cond.onTables, Cond.keeps, Cond.steady])) hini)
  obtain ⟨hx, hb, hml, ho, -⟩ := S
  obtain ⟨-, ⟨cellB, hcB, hoB, hclB⟩, hPc⟩ := hp
  intro T hT X
  obtain ⟨v, vm₁, ⟨U', l2, c2, s2⟩, hW₁, X', ⟨g', mk, t, L, e1, e2, hq, h1, hL, h2, h3⟩, st⟩ := vx_callVW X hx (C := C) (hh := hh) (bytes := bytes) (maxL := maxL) (ret := ret) ho hl hin hse hcode hy hK (by rw [hT]; exact hcB) hoB hclB hg (hsize.trans hml.symm) (argsL := As) (rest := rest) (fun sig h => hn.trans (hlen sig h)) hstack hW (by rw [hb]; exact hdg)
    (fun vm₁ hW₁ => ⟨hf.1, hf.2, hPc (T.setVm vm₁) hT hW₁⟩)
  dsimp only [Pt.U, Pt.locs, Pt.cells, Pt.slots] at X' e1 e2 h1 h2 h3 st
  subst h1; subst h2; subst h3
  exact ⟨v, (T.setVm vm₁).calling g' mk (Value.ref b :: As).toArray, t, U', L, hT, X', hL, e1, e2, hq, st⟩
section
variable {y : MethodName} {bytes cc : ByteArray} {maxL nL mc ms n index : Nat} {ret : Option FieldType} {ws : List Cond} {rm : Room} {Pc : Array Value → State → Prop} {Qc : Array Value → State → Outcome → State → Prop} {XC : String → State → State → Prop} {free : Addr → Prop} {Ts : List Cond} {own C : String} {b : Addr} {As rest : List Value} {g : JFrame}
theorem vx_runVX {hh : List (Nat × Nat × Nat × Nat)} (S : CallFix p m c cc nL s args Ts own) (hM : vx_Met l y ws rm Pc Qc XC mc ms free) (cw : vx_CVW R s args own C index y bytes maxL ret hh ws rm mc ms n) (hp : PreV s H C b Pc As)
    (hg : g.method = m) (hn : As.length = n) (hsize : g.locals.size = nL) (hstack : g.stack = As.reverse ++ .ref b :: rest) (hW : 2 * g.monitorRoom + (rest.map fun v => v.category).sum ≤ 8) (hdg : decode cc g.pc = .ok (.invokevirtual index, 3)) (hf : cells + mc ≤ R.cells ∧ slots + ms ≤ R.slots) :
    vx_Run p l e R s m args below meth c H locs cells slots mc ms g rest (Qc (Value.ref b :: As).toArray) XC free := by
  obtain ⟨⟨hrc, hrs, hfr, hlo, hws, hcw⟩, hcode, hini, hy, hlen, hl, hin, hse⟩ := cw
  have hK : vx_Back l R p e below s args y 3 8 (PreOf R mc ms Pc) (PostOf Qc mc ms free) (vx_Post XC mc ms free) := vx_backW (hh := hh) (bytes := bytes) (maxL := maxL) (ret := ret) hM hp.1 hrc hrs hfr hlo hws hcw (fun a' U hW => word_at hW (Or.inl (by first | rfl | simp [Cond.onTables, Cond.keeps, Cond.steady])) hini)
  obtain ⟨hx, hb, hml, ho, -⟩ := S
  obtain ⟨-, ⟨cellB, hcB, hoB, hclB⟩, hPc⟩ := hp
  intro T hT X
  rcases vx_callVX X hx (C := C) (hh := hh) (bytes := bytes) (maxL := maxL) (ret := ret) ho hl hin hse hcode hy hK (by rw [hT]; exact hcB) hoB hclB hg (hsize.trans hml.symm) (argsL := As) (rest := rest) (fun sig h => hn.trans (hlen sig h)) hstack hW (by rw [hb]; exact hdg)
    (fun vm₁ hW₁ => ⟨hf.1, hf.2, hPc (T.setVm vm₁) hT hW₁⟩) with ⟨v, vm₁, ⟨U', l2, c2, s2⟩, hW₁, X', ⟨g', mk, t, L, e1, e2, hq, h1, hL, h2, h3⟩, st⟩ | ⟨q, vm₁, ⟨U', l2, c2, s2⟩, hW₁, X', ⟨g', mk, t, L, E, ce, e1, e2, hq, hce, hcv, hcl, h1, hL, h2, h3⟩, st⟩
  · dsimp only [Pt.U, Pt.locs, Pt.cells, Pt.slots] at X' e1 e2 h1 h2 h3 st
    subst h1; subst h2; subst h3
    exact Or.inl ⟨v, (T.setVm vm₁).calling g' mk (Value.ref b :: As).toArray, t, U', L, hT, X', hL, e1, e2, hq, st⟩
  · dsimp only [Pt.U, Pt.locs, Pt.cells, Pt.slots] at X' e1 e2 h1 h2 h3 st hcl
    subst h1; subst h2; subst h3
    exact Or.inr ⟨q, (T.setVm vm₁).calling g' mk (Value.ref b :: As).toArray, t, U', L, E, ce, hT, X', hL, e1, e2, hq, hce, hcv, vx_cls hW₁ hcl, st⟩
theorem vx_runSX {hh : List (Nat × Nat × Nat × Nat)} (S : CallFix p m c cc nL s args Ts own) (hM : vx_Met l y ws rm Pc Qc XC mc ms free) (cw : vx_CSW R s args own index y bytes maxL ret hh ws rm mc ms n) (hp : PreS s H Pc As)
    (hg : g.method = m) (hn : As.length = n) (hsize : g.locals.size = nL) (hstack : g.stack = As.reverse ++ rest) (hW : 2 * g.monitorRoom + (rest.map fun v => v.category).sum ≤ 8) (hdg : decode cc g.pc = .ok (.invokestatic index, 3)) (hf : cells + mc ≤ R.cells ∧ slots + ms ≤ R.slots) :
    vx_Run p l e R s m args below meth c H locs cells slots mc ms g rest (Qc As.toArray) XC free := by
  obtain ⟨⟨hrc, hrs, hfr, hlo, hws, hcw⟩, hcode, hini, hy, hlen, hl, hstt⟩ := cw
  have hK : vx_Back l R p e below s args y 3 8 (PreOf R mc ms Pc) (PostOf Qc mc ms free) (vx_Post XC mc ms free) := vx_backW (hh := hh) (bytes := bytes) (maxL := maxL) (ret := ret) hM hp.1 hrc hrs hfr hlo hws hcw (fun a' U hW => word_at hW (Or.inl (by first | rfl | simp [Cond.onTables, Cond.keeps, Cond.steady])) hini)
  obtain ⟨hx, hb, hml, ho, -⟩ := S
  intro T hT X
  rcases vx_callSX X hx (hh := hh) (bytes := bytes) (maxL := maxL) (ret := ret) ho hl hstt hini hcode hy hK hg (hsize.trans hml.symm) (argsL := As) (rest := rest) (fun sig h => hn.trans (hlen sig h)) hstack hW (by rw [hb]; exact hdg)
    (fun vm₁ hW₁ => ⟨hf.1, hf.2, hp.2 (T.setVm vm₁) hT hW₁⟩) with ⟨v, vm₁, ⟨U', l2, c2, s2⟩, hW₁, X', ⟨g', mk, t, L, e1, e2, hq, h1, hL, h2, h3⟩, st⟩ | ⟨q, vm₁, ⟨U', l2, c2, s2⟩, hW₁, X', ⟨g', mk, t, L, E, ce, e1, e2, hq, hce, hcv, hcl, h1, hL, h2, h3⟩, st⟩
  · dsimp only [Pt.U, Pt.locs, Pt.cells, Pt.slots] at X' e1 e2 h1 h2 h3 st
    subst h1; subst h2; subst h3
    exact Or.inl ⟨v, (T.setVm vm₁).calling g' mk As.toArray, t, U', L, hT, X', hL, e1, e2, hq, st⟩
  · dsimp only [Pt.U, Pt.locs, Pt.cells, Pt.slots] at X' e1 e2 h1 h2 h3 st hcl
    subst h1; subst h2; subst h3
    exact Or.inr ⟨q, (T.setVm vm₁).calling g' mk As.toArray, t, U', L, E, ce, hT, X', hL, e1, e2, hq, hce, hcv, vx_cls hW₁ hcl, st⟩
end
end VXH
theorem vx_ofWH {l : Launch} {y : MethodName} {ws ws' : List Cond} {rm : Room} {Pc : Array Value → State → Prop} {Qc : Array Value → State → Outcome → State → Prop} {XC : String → State → State → Prop} {mc ms : Nat} {free : Addr → Prop} {cc : ByteArray} {maxL : Nat} {ret : Option FieldType} {hh : List (Nat × Nat × Nat × Nat)}
    (hy : plainName y.cls = true) (hw : ws = Cond.codeWith y cc maxL ret hh :: ws')
    (body : ∀ p e s m args below meth c s₁, BodyLoose p l y (headSpec ws rm) cc maxL ret e s m args below meth c s₁ → c.maxLocals = maxL → Pc args s →
      W p l e (headSpec ws rm).room s m args below meth c s.heap [] 0 0 (vx_MQ below Qc XC args s mc ms free) (entryFrame m args maxL)) : vx_Met l y ws rm Pc Qc XC mc ms free := by
  refine MetFree.of_bodyS (code := cc) (maxLocals := maxL) (ret := ret) hy ?_ ?_
  · intro args s m h hn
    obtain ⟨m9, meth, c, hn9, h1, h2, h3, h4, -, h5, h6, -⟩ := Cond.codeWith_spec (atoms_spec (ws := ws) h _ (by rw [hw]; exact List.mem_cons_self))
    cases hn.symm.trans hn9
    exact ⟨meth, c, h1, h2, h3, h4, h5, h6⟩
  · intro p e s m args below meth c s₁ B hml hP _
    have hh0 : s₁.heap = s.heap := by rw [B.state]; rfl
    obtain ⟨t, a1, o, b1, b2, b3⟩ := body p e s m args below meth c s₁ B hml hP s₁ hh0 (Stand.of_body B)
    exact ⟨t, o, a1, b1, b2, b3⟩
/-! ===== END ===== -/

def RX0 : String := "Assetmerge$Finder"
def TX0 : u_T := fun k => match k with
  | _ => ("", "", "", false)
def tyX0 : Nat → FieldType := fun k => match k with
  | _ => .int
abbrev wsX00 : List Cond := u_ws RX0 TX0 0
theorem nmX0 : ∀ a, a < 0 → ∀ b, b < 0 → a ≠ b → (TX0 a).2.1 ≠ (TX0 b).2.1 := by decide +kernel
theorem tyX0_ok : ∀ k, k < 0 → parseFieldDescriptor (TX0 k).2.2.1 = some (tyX0 k) := by decide +kernel
abbrev cX0_init : ByteArray := prog_2_method_1_code
def yX0_init : MethodName := ⟨RX0, "<init>", "()V"⟩
abbrev cX0_findGroups : ByteArray := prog_2_method_3_code
def yX0_findGroups : MethodName := ⟨RX0, "findGroups", "(LAssetmerge$Inventory;)V"⟩
abbrev cX0_groupBefore : ByteArray := prog_2_method_4_code
def yX0_groupBefore : MethodName := ⟨RX0, "groupBefore", "(II)I"⟩
abbrev cX0_joinClusters : ByteArray := prog_2_method_5_code
def yX0_joinClusters : MethodName := ⟨RX0, "joinClusters", "(LAssetmerge$Inventory;I)V"⟩
abbrev cX0_membersOf : ByteArray := prog_2_method_6_code
def yX0_membersOf : MethodName := ⟨RX0, "membersOf", "(ILAssetmerge$Inventory;)I"⟩
def RX1 : String := "Assetmerge$Inventory"
def TX1 : u_T := fun k => match k with
  | 0 => ("Assetmerge$Inventory", "trusts", "[I", true)
  | 1 => ("Assetmerge$Inventory", "sources", "[I", true)
  | 2 => ("Assetmerge$Inventory", "seenDays", "[I", true)
  | 3 => ("Assetmerge$Inventory", "keys", "[[I", true)
  | 4 => ("Assetmerge$Inventory", "facts", "[[I", true)
  | 5 => ("Assetmerge$Inventory", "forbidden", "[I", true)
  | 6 => ("Assetmerge$Inventory", "live", "I", false)
  | 7 => ("Assetmerge$Inventory", "sourceCount", "I", false)
  | 8 => ("Assetmerge$Inventory", "recordCount", "I", false)
  | _ => ("Assetmerge$Inventory", "pairCount", "I", false)
def tyX1 : Nat → FieldType := fun k => match k with
  | 0 => .array .int
  | 1 => .array .int
  | 2 => .array .int
  | 3 => .array (.array .int)
  | 4 => .array (.array .int)
  | 5 => .array .int
  | 6 => .int
  | 7 => .int
  | 8 => .int
  | _ => .int
abbrev wsX10 : List Cond := u_ws RX1 TX1 10
theorem nmX1 : ∀ a, a < 10 → ∀ b, b < 10 → a ≠ b → (TX1 a).2.1 ≠ (TX1 b).2.1 := by decide +kernel
theorem tyX1_ok : ∀ k, k < 10 → parseFieldDescriptor (TX1 k).2.2.1 = some (tyX1 k) := by decide +kernel
abbrev cX1_init : ByteArray := prog_3_method_1_code
def yX1_init : MethodName := ⟨RX1, "<init>", "()V"⟩
abbrev cX1_putSource : ByteArray := prog_3_method_2_code
def yX1_putSource : MethodName := ⟨RX1, "putSource", "(I)I"⟩
abbrev cX1_putRecord : ByteArray := prog_3_method_3_code
def yX1_putRecord : MethodName := ⟨RX1, "putRecord", "(II)I"⟩
abbrev cX1_hide : ByteArray := prog_3_method_4_code
def yX1_hide : MethodName := ⟨RX1, "hide", "(I)V"⟩
abbrev cX1_unhide : ByteArray := prog_3_method_5_code
def yX1_unhide : MethodName := ⟨RX1, "unhide", "(I)V"⟩
abbrev cX1_holds : ByteArray := prog_3_method_6_code
def yX1_holds : MethodName := ⟨RX1, "holds", "(I)Z"⟩
abbrev cX1_isIn : ByteArray := prog_3_method_7_code
def yX1_isIn : MethodName := ⟨RX1, "isIn", "(II)Z"⟩
abbrev cX1_countRecords : ByteArray := prog_3_method_8_code
def yX1_countRecords : MethodName := ⟨RX1, "countRecords", "()I"⟩
abbrev cX1_part : ByteArray := prog_3_method_9_code
def yX1_part : MethodName := ⟨RX1, "part", "(II)V"⟩
abbrev cX1_unpart : ByteArray := prog_3_method_10_code
def yX1_unpart : MethodName := ⟨RX1, "unpart", "(II)V"⟩
abbrev cX1_isForbidden : ByteArray := prog_3_method_11_code
def yX1_isForbidden : MethodName := ⟨RX1, "isForbidden", "(II)Z"⟩
abbrev cX1_countPairs : ByteArray := prog_3_method_12_code
def yX1_countPairs : MethodName := ⟨RX1, "countPairs", "()I"⟩
abbrev cX1_haveSameKey : ByteArray := prog_3_method_13_code
def yX1_haveSameKey : MethodName := ⟨RX1, "haveSameKey", "(III)Z"⟩
abbrev cX1_isFirstWithKey : ByteArray := prog_3_method_14_code
def yX1_isFirstWithKey : MethodName := ⟨RX1, "isFirstWithKey", "(II)Z"⟩
abbrev cX1_mayJoin : ByteArray := prog_3_method_15_code
def yX1_mayJoin : MethodName := ⟨RX1, "mayJoin", "(II)Z"⟩
abbrev cX1_haveTwoKeys : ByteArray := prog_3_method_16_code
def yX1_haveTwoKeys : MethodName := ⟨RX1, "haveTwoKeys", "(II)Z"⟩
abbrev cX1_haveForbiddenPair : ByteArray := prog_3_method_17_code
def yX1_haveForbiddenPair : MethodName := ⟨RX1, "haveForbiddenPair", "(I)Z"⟩
abbrev cX1_weigh : ByteArray := prog_3_method_18_code
def yX1_weigh : MethodName := ⟨RX1, "weigh", "(II)I"⟩
abbrev cX1_isAhead : ByteArray := prog_3_method_19_code
def yX1_isAhead : MethodName := ⟨RX1, "isAhead", "(III)Z"⟩
def RX2 : String := "Assetmerge$Joining"
def TX2 : u_T := fun k => match k with
  | 0 => ("Assetmerge$Finder", "groups", "[[I", true)
  | _ => ("Assetmerge$Finder", "clusters", "[I", true)
def tyX2 : Nat → FieldType := fun k => match k with
  | 0 => .array (.array .int)
  | _ => .array .int
abbrev wsX20 : List Cond := u_ws RX2 TX2 2
theorem nmX2 : ∀ a, a < 2 → ∀ b, b < 2 → a ≠ b → (TX2 a).2.1 ≠ (TX2 b).2.1 := by decide +kernel
theorem tyX2_ok : ∀ k, k < 2 → parseFieldDescriptor (TX2 k).2.2.1 = some (tyX2 k) := by decide +kernel
abbrev cX2_init : ByteArray := prog_4_method_1_code
def yX2_init : MethodName := ⟨RX2, "<init>", "()V"⟩
abbrev cX2_findClusters : ByteArray := prog_4_method_2_code
def yX2_findClusters : MethodName := ⟨RX2, "findClusters", "(LAssetmerge$Inventory;I)V"⟩
abbrev cX2_joinTwo : ByteArray := prog_4_method_3_code
def yX2_joinTwo : MethodName := ⟨RX2, "joinTwo", "(III)V"⟩
def RX3 : String := "Assetmerge$Spreading"
def TX3 : u_T := fun k => match k with
  | 0 => ("Assetmerge$Finder", "groups", "[[I", true)
  | _ => ("Assetmerge$Finder", "clusters", "[I", true)
def tyX3 : Nat → FieldType := fun k => match k with
  | 0 => .array (.array .int)
  | _ => .array .int
abbrev wsX30 : List Cond := u_ws RX3 TX3 2
theorem nmX3 : ∀ a, a < 2 → ∀ b, b < 2 → a ≠ b → (TX3 a).2.1 ≠ (TX3 b).2.1 := by decide +kernel
theorem tyX3_ok : ∀ k, k < 2 → parseFieldDescriptor (TX3 k).2.2.1 = some (tyX3 k) := by decide +kernel
abbrev cX3_init : ByteArray := prog_5_method_1_code
def yX3_init : MethodName := ⟨RX3, "<init>", "()V"⟩
abbrev cX3_findClusters : ByteArray := prog_5_method_2_code
def yX3_findClusters : MethodName := ⟨RX3, "findClusters", "(LAssetmerge$Inventory;I)V"⟩
abbrev cX3_spreadOnce : ByteArray := prog_5_method_3_code
def yX3_spreadOnce : MethodName := ⟨RX3, "spreadOnce", "(LAssetmerge$Inventory;I)Z"⟩
abbrev cX3_areLinked : ByteArray := prog_5_method_4_code
def yX3_areLinked : MethodName := ⟨RX3, "areLinked", "(IILAssetmerge$Inventory;I)Z"⟩
def RX4 : String := "Assetmerge"
def TX4 : u_T := fun k => match k with
  | 0 => ("Assetmerge", "inventory", "LAssetmerge$Inventory;", true)
  | 1 => ("Assetmerge", "joining", "LAssetmerge$Joining;", true)
  | 2 => ("Assetmerge", "spreading", "LAssetmerge$Spreading;", true)
  | 3 => ("Assetmerge", "order", "[I", true)
  | 4 => ("Assetmerge", "day", "I", false)
  | _ => ("Assetmerge", "limit", "I", false)
def tyX4 : Nat → FieldType := fun k => match k with
  | 0 => .object "Assetmerge$Inventory"
  | 1 => .object "Assetmerge$Joining"
  | 2 => .object "Assetmerge$Spreading"
  | 3 => .array .int
  | 4 => .int
  | _ => .int
abbrev wsX40 : List Cond := u_ws RX4 TX4 6
theorem nmX4 : ∀ a, a < 6 → ∀ b, b < 6 → a ≠ b → (TX4 a).2.1 ≠ (TX4 b).2.1 := by decide +kernel
theorem tyX4_ok : ∀ k, k < 6 → parseFieldDescriptor (TX4 k).2.2.1 = some (tyX4 k) := by decide +kernel
abbrev cX4_init : ByteArray := prog_1_method_1_code
def yX4_init : MethodName := ⟨RX4, "<init>", "()V"⟩
abbrev cX4_addSource : ByteArray := prog_1_method_2_code
def yX4_addSource : MethodName := ⟨RX4, "addSource", "(I)I"⟩
abbrev cX4_setTrust : ByteArray := prog_1_method_3_code
def yX4_setTrust : MethodName := ⟨RX4, "setTrust", "(II)I"⟩
abbrev cX4_addRecord : ByteArray := prog_1_method_4_code
def yX4_addRecord : MethodName := ⟨RX4, "addRecord", "(IIII)I"⟩
abbrev cX4_setKey : ByteArray := prog_1_method_5_code
def yX4_setKey : MethodName := ⟨RX4, "setKey", "(III)I"⟩
abbrev cX4_setFact : ByteArray := prog_1_method_6_code
def yX4_setFact : MethodName := ⟨RX4, "setFact", "(III)I"⟩
abbrev cX4_see : ByteArray := prog_1_method_7_code
def yX4_see : MethodName := ⟨RX4, "see", "(I)I"⟩
abbrev cX4_drop : ByteArray := prog_1_method_8_code
def yX4_drop : MethodName := ⟨RX4, "drop", "(I)I"⟩
abbrev cX4_forbid : ByteArray := prog_1_method_9_code
def yX4_forbid : MethodName := ⟨RX4, "forbid", "(II)I"⟩
abbrev cX4_allow : ByteArray := prog_1_method_10_code
def yX4_allow : MethodName := ⟨RX4, "allow", "(II)I"⟩
abbrev cX4_records : ByteArray := prog_1_method_11_code
def yX4_records : MethodName := ⟨RX4, "records", "()I"⟩
abbrev cX4_key : ByteArray := prog_1_method_12_code
def yX4_key : MethodName := ⟨RX4, "key", "(II)I"⟩
abbrev cX4_seen : ByteArray := prog_1_method_13_code
def yX4_seen : MethodName := ⟨RX4, "seen", "(I)I"⟩
abbrev cX4_thing : ByteArray := prog_1_method_14_code
def yX4_thing : MethodName := ⟨RX4, "thing", "(I)I"⟩
abbrev cX4_thingByRounds : ByteArray := prog_1_method_15_code
def yX4_thingByRounds : MethodName := ⟨RX4, "thingByRounds", "(I)I"⟩
abbrev cX4_things : ByteArray := prog_1_method_16_code
def yX4_things : MethodName := ⟨RX4, "things", "()I"⟩
abbrev cX4_size : ByteArray := prog_1_method_17_code
def yX4_size : MethodName := ⟨RX4, "size", "(I)I"⟩
abbrev cX4_member : ByteArray := prog_1_method_18_code
def yX4_member : MethodName := ⟨RX4, "member", "(II)I"⟩
abbrev cX4_areTogether : ByteArray := prog_1_method_19_code
def yX4_areTogether : MethodName := ⟨RX4, "areTogether", "(II)Z"⟩
abbrev cX4_step : ByteArray := prog_1_method_20_code
def yX4_step : MethodName := ⟨RX4, "step", "(II)I"⟩
abbrev cX4_shared : ByteArray := prog_1_method_21_code
def yX4_shared : MethodName := ⟨RX4, "shared", "(I)I"⟩
abbrev cX4_thingsWithout : ByteArray := prog_1_method_22_code
def yX4_thingsWithout : MethodName := ⟨RX4, "thingsWithout", "(I)I"⟩
abbrev cX4_thingsIf : ByteArray := prog_1_method_23_code
def yX4_thingsIf : MethodName := ⟨RX4, "thingsIf", "(III)I"⟩
abbrev cX4_thingsIfAllowed : ByteArray := prog_1_method_24_code
def yX4_thingsIfAllowed : MethodName := ⟨RX4, "thingsIfAllowed", "(II)I"⟩
abbrev cX4_weight : ByteArray := prog_1_method_25_code
def yX4_weight : MethodName := ⟨RX4, "weight", "(I)I"⟩
abbrev cX4_fact : ByteArray := prog_1_method_26_code
def yX4_fact : MethodName := ⟨RX4, "fact", "(II)I"⟩
abbrev cX4_factByPairs : ByteArray := prog_1_method_27_code
def yX4_factByPairs : MethodName := ⟨RX4, "factByPairs", "(II)I"⟩
abbrev cX4_factFrom : ByteArray := prog_1_method_28_code
def yX4_factFrom : MethodName := ⟨RX4, "factFrom", "(II)I"⟩
abbrev cX4_agreement : ByteArray := prog_1_method_29_code
def yX4_agreement : MethodName := ⟨RX4, "agreement", "(II)F"⟩
abbrev cX4_setLimit : ByteArray := prog_1_method_30_code
def yX4_setLimit : MethodName := ⟨RX4, "setLimit", "(I)I"⟩
abbrev cX4_isGhost : ByteArray := prog_1_method_31_code
def yX4_isGhost : MethodName := ⟨RX4, "isGhost", "(I)Z"⟩
abbrev cX4_ghosts : ByteArray := prog_1_method_32_code
def yX4_ghosts : MethodName := ⟨RX4, "ghosts", "()I"⟩
abbrev cX4_nextGhost : ByteArray := prog_1_method_33_code
def yX4_nextGhost : MethodName := ⟨RX4, "nextGhost", "()I"⟩
abbrev cX4_nextGhostByDays : ByteArray := prog_1_method_34_code
def yX4_nextGhostByDays : MethodName := ⟨RX4, "nextGhostByDays", "()I"⟩
abbrev cX4_pass : ByteArray := prog_1_method_35_code
def yX4_pass : MethodName := ⟨RX4, "pass", "(I)I"⟩
abbrev cX4_today : ByteArray := prog_1_method_36_code
def yX4_today : MethodName := ⟨RX4, "today", "()I"⟩
abbrev cX4_mark : ByteArray := prog_1_method_37_code
def yX4_mark : MethodName := ⟨RX4, "mark", "()J"⟩
abbrev cX4_checkSource : ByteArray := prog_1_method_38_code
def yX4_checkSource : MethodName := ⟨RX4, "checkSource", "(I)V"⟩
abbrev cX4_checkRecord : ByteArray := prog_1_method_39_code
def yX4_checkRecord : MethodName := ⟨RX4, "checkRecord", "(I)V"⟩
abbrev cX4_checkKind : ByteArray := prog_1_method_40_code
def yX4_checkKind : MethodName := ⟨RX4, "checkKind", "(I)V"⟩
abbrev cX4_checkField : ByteArray := prog_1_method_41_code
def yX4_checkField : MethodName := ⟨RX4, "checkField", "(I)V"⟩
abbrev cX4_checkRange : ByteArray := prog_1_method_42_code
def yX4_checkRange : MethodName := ⟨RX4, "checkRange", "(III)V"⟩
abbrev cX4_checkDifferent : ByteArray := prog_1_method_43_code
def yX4_checkDifferent : MethodName := ⟨RX4, "checkDifferent", "(II)V"⟩
abbrev cX4_checkForbidden : ByteArray := prog_1_method_44_code
def yX4_checkForbidden : MethodName := ⟨RX4, "checkForbidden", "(II)V"⟩
abbrev cX4_checkFactRecord : ByteArray := prog_1_method_45_code
def yX4_checkFactRecord : MethodName := ⟨RX4, "checkFactRecord", "(I)V"⟩
abbrev cX4_findThing : ByteArray := prog_1_method_46_code
def yX4_findThing : MethodName := ⟨RX4, "findThing", "(I)I"⟩
abbrev cX4_countThings : ByteArray := prog_1_method_47_code
def yX4_countThings : MethodName := ⟨RX4, "countThings", "()I"⟩
abbrev cX4_findStep : ByteArray := prog_1_method_48_code
def yX4_findStep : MethodName := ⟨RX4, "findStep", "(II)I"⟩
abbrev cX4_isThing : ByteArray := prog_1_method_49_code
def yX4_isThing : MethodName := ⟨RX4, "isThing", "(I)Z"⟩
abbrev cX4_isMember : ByteArray := prog_1_method_50_code
def yX4_isMember : MethodName := ⟨RX4, "isMember", "(II)Z"⟩
abbrev cX4_countMembers : ByteArray := prog_1_method_51_code
def yX4_countMembers : MethodName := ⟨RX4, "countMembers", "(I)I"⟩
abbrev cX4_sumMembers : ByteArray := prog_1_method_52_code
def yX4_sumMembers : MethodName := ⟨RX4, "sumMembers", "(I)I"⟩
abbrev cX4_findMember : ByteArray := prog_1_method_53_code
def yX4_findMember : MethodName := ⟨RX4, "findMember", "(II)I"⟩
abbrev cX4_isKeyElsewhere : ByteArray := prog_1_method_54_code
def yX4_isKeyElsewhere : MethodName := ⟨RX4, "isKeyElsewhere", "(II)Z"⟩
abbrev cX4_tellsFact : ByteArray := prog_1_method_55_code
def yX4_tellsFact : MethodName := ⟨RX4, "tellsFact", "(III)Z"⟩
abbrev cX4_findFirstByOrder : ByteArray := prog_1_method_56_code
def yX4_findFirstByOrder : MethodName := ⟨RX4, "findFirstByOrder", "(II)I"⟩
abbrev cX4_orderMembers : ByteArray := prog_1_method_57_code
def yX4_orderMembers : MethodName := ⟨RX4, "orderMembers", "(I)I"⟩
abbrev cX4_findFirstByPairs : ByteArray := prog_1_method_58_code
def yX4_findFirstByPairs : MethodName := ⟨RX4, "findFirstByPairs", "(II)I"⟩
abbrev cX4_isBeaten : ByteArray := prog_1_method_59_code
def yX4_isBeaten : MethodName := ⟨RX4, "isBeaten", "(III)Z"⟩
abbrev cX4_findLastSeen : ByteArray := prog_1_method_60_code
def yX4_findLastSeen : MethodName := ⟨RX4, "findLastSeen", "(I)I"⟩
abbrev cX4_isGhostOn : ByteArray := prog_1_method_61_code
def yX4_isGhostOn : MethodName := ⟨RX4, "isGhostOn", "(II)Z"⟩
abbrev cX4_becomesGhostOn : ByteArray := prog_1_method_62_code
def yX4_becomesGhostOn : MethodName := ⟨RX4, "becomesGhostOn", "(I)Z"⟩
def RX5 : String := "AssetmergeModel"
def TX5 : u_T := fun k => match k with
  | 0 => ("AssetmergeModel", "trusts", "[I", true)
  | 1 => ("AssetmergeModel", "sources", "I", false)
  | 2 => ("AssetmergeModel", "sourceOf", "[I", true)
  | 3 => ("AssetmergeModel", "seen", "[I", true)
  | 4 => ("AssetmergeModel", "keys", "[[I", true)
  | 5 => ("AssetmergeModel", "facts", "[[I", true)
  | 6 => ("AssetmergeModel", "isDropped", "[Z", true)
  | 7 => ("AssetmergeModel", "records", "I", false)
  | 8 => ("AssetmergeModel", "ones", "[I", true)
  | 9 => ("AssetmergeModel", "others", "[I", true)
  | 10 => ("AssetmergeModel", "pairs", "I", false)
  | 11 => ("AssetmergeModel", "limit", "I", false)
  | 12 => ("AssetmergeModel", "today", "I", false)
  | 13 => ("AssetmergeModel", "thrown", "I", false)
  | 14 => ("AssetmergeModel", "groups", "[I", true)
  | 15 => ("AssetmergeModel", "clusters", "[I", true)
  | 16 => ("AssetmergeModel", "without", "I", false)
  | _ => ("AssetmergeModel", "freed", "I", false)
def tyX5 : Nat → FieldType := fun k => match k with
  | 0 => .array .int
  | 1 => .int
  | 2 => .array .int
  | 3 => .array .int
  | 4 => .array (.array .int)
  | 5 => .array (.array .int)
  | 6 => .array .boolean
  | 7 => .int
  | 8 => .array .int
  | 9 => .array .int
  | 10 => .int
  | 11 => .int
  | 12 => .int
  | 13 => .int
  | 14 => .array .int
  | 15 => .array .int
  | 16 => .int
  | _ => .int
abbrev wsX50 : List Cond := u_ws RX5 TX5 18
theorem nmX5 : ∀ a, a < 18 → ∀ b, b < 18 → a ≠ b → (TX5 a).2.1 ≠ (TX5 b).2.1 := by decide +kernel
theorem tyX5_ok : ∀ k, k < 18 → parseFieldDescriptor (TX5 k).2.2.1 = some (tyX5 k) := by decide +kernel
abbrev cX5_init : ByteArray := prog_7_method_1_code
def yX5_init : MethodName := ⟨RX5, "<init>", "()V"⟩
abbrev cX5_thrown : ByteArray := prog_7_method_2_code
def yX5_thrown : MethodName := ⟨RX5, "thrown", "()I"⟩
abbrev cX5_raises : ByteArray := prog_7_method_3_code
def yX5_raises : MethodName := ⟨RX5, "raises", "(I)I"⟩
abbrev cX5_in : ByteArray := prog_7_method_4_code
def yX5_in : MethodName := ⟨RX5, "in", "(III)Z"⟩
abbrev cX5_isRecord : ByteArray := prog_7_method_5_code
def yX5_isRecord : MethodName := ⟨RX5, "isRecord", "(I)Z"⟩
abbrev cX5_lacks : ByteArray := prog_7_method_6_code
def yX5_lacks : MethodName := ⟨RX5, "lacks", "(I)Z"⟩
abbrev cX5_addSource : ByteArray := prog_7_method_7_code
def yX5_addSource : MethodName := ⟨RX5, "addSource", "(I)I"⟩
abbrev cX5_setTrust : ByteArray := prog_7_method_8_code
def yX5_setTrust : MethodName := ⟨RX5, "setTrust", "(II)I"⟩
abbrev cX5_isKey : ByteArray := prog_7_method_9_code
def yX5_isKey : MethodName := ⟨RX5, "isKey", "(I)Z"⟩
abbrev cX5_addRecord : ByteArray := prog_7_method_10_code
def yX5_addRecord : MethodName := ⟨RX5, "addRecord", "(IIII)I"⟩
abbrev cX5_setKey : ByteArray := prog_7_method_11_code
def yX5_setKey : MethodName := ⟨RX5, "setKey", "(III)I"⟩
abbrev cX5_setFact : ByteArray := prog_7_method_12_code
def yX5_setFact : MethodName := ⟨RX5, "setFact", "(III)I"⟩
abbrev cX5_see : ByteArray := prog_7_method_13_code
def yX5_see : MethodName := ⟨RX5, "see", "(I)I"⟩
abbrev cX5_left : ByteArray := prog_7_method_14_code
def yX5_left : MethodName := ⟨RX5, "left", "()I"⟩
abbrev cX5_drop : ByteArray := prog_7_method_15_code
def yX5_drop : MethodName := ⟨RX5, "drop", "(I)I"⟩
abbrev cX5_pair : ByteArray := prog_7_method_16_code
def yX5_pair : MethodName := ⟨RX5, "pair", "(II)I"⟩
abbrev cX5_countedPairs : ByteArray := prog_7_method_17_code
def yX5_countedPairs : MethodName := ⟨RX5, "countedPairs", "()I"⟩
abbrev cX5_forbid : ByteArray := prog_7_method_18_code
def yX5_forbid : MethodName := ⟨RX5, "forbid", "(II)I"⟩
abbrev cX5_allow : ByteArray := prog_7_method_19_code
def yX5_allow : MethodName := ⟨RX5, "allow", "(II)I"⟩
abbrev cX5_records : ByteArray := prog_7_method_20_code
def yX5_records : MethodName := ⟨RX5, "records", "()I"⟩
abbrev cX5_key : ByteArray := prog_7_method_21_code
def yX5_key : MethodName := ⟨RX5, "key", "(II)I"⟩
abbrev cX5_seen : ByteArray := prog_7_method_22_code
def yX5_seen : MethodName := ⟨RX5, "seen", "(I)I"⟩
abbrev cX5_counts : ByteArray := prog_7_method_23_code
def yX5_counts : MethodName := ⟨RX5, "counts", "(I)Z"⟩
abbrev cX5_areLinked : ByteArray := prog_7_method_24_code
def yX5_areLinked : MethodName := ⟨RX5, "areLinked", "(III)Z"⟩
abbrev cX5_clusters : ByteArray := prog_7_method_25_code
def yX5_clusters : MethodName := ⟨RX5, "clusters", "(I)V"⟩
abbrev cX5_mayJoin : ByteArray := prog_7_method_26_code
def yX5_mayJoin : MethodName := ⟨RX5, "mayJoin", "(II)Z"⟩
abbrev cX5_joins : ByteArray := prog_7_method_27_code
def yX5_joins : MethodName := ⟨RX5, "joins", "(I)V"⟩
abbrev cX5_finds : ByteArray := prog_7_method_28_code
def yX5_finds : MethodName := ⟨RX5, "finds", "(I)V"⟩
abbrev cX5_thingMany : ByteArray := prog_7_method_29_code
def yX5_thingMany : MethodName := ⟨RX5, "thingMany", "()I"⟩
abbrev cX5_thing : ByteArray := prog_7_method_30_code
def yX5_thing : MethodName := ⟨RX5, "thing", "(I)I"⟩
abbrev cX5_thingByRounds : ByteArray := prog_7_method_31_code
def yX5_thingByRounds : MethodName := ⟨RX5, "thingByRounds", "(I)I"⟩
abbrev cX5_things : ByteArray := prog_7_method_32_code
def yX5_things : MethodName := ⟨RX5, "things", "()I"⟩
abbrev cX5_isOf : ByteArray := prog_7_method_33_code
def yX5_isOf : MethodName := ⟨RX5, "isOf", "(II)Z"⟩
abbrev cX5_size : ByteArray := prog_7_method_34_code
def yX5_size : MethodName := ⟨RX5, "size", "(I)I"⟩
abbrev cX5_member : ByteArray := prog_7_method_35_code
def yX5_member : MethodName := ⟨RX5, "member", "(II)I"⟩
abbrev cX5_areTogether : ByteArray := prog_7_method_36_code
def yX5_areTogether : MethodName := ⟨RX5, "areTogether", "(II)Z"⟩
abbrev cX5_step : ByteArray := prog_7_method_37_code
def yX5_step : MethodName := ⟨RX5, "step", "(II)I"⟩
abbrev cX5_isShared : ByteArray := prog_7_method_38_code
def yX5_isShared : MethodName := ⟨RX5, "isShared", "(II)Z"⟩
abbrev cX5_shared : ByteArray := prog_7_method_39_code
def yX5_shared : MethodName := ⟨RX5, "shared", "(I)I"⟩
abbrev cX5_thingsWithout : ByteArray := prog_7_method_40_code
def yX5_thingsWithout : MethodName := ⟨RX5, "thingsWithout", "(I)I"⟩
abbrev cX5_thingsIf : ByteArray := prog_7_method_41_code
def yX5_thingsIf : MethodName := ⟨RX5, "thingsIf", "(III)I"⟩
abbrev cX5_thingsIfAllowed : ByteArray := prog_7_method_42_code
def yX5_thingsIfAllowed : MethodName := ⟨RX5, "thingsIfAllowed", "(II)I"⟩
abbrev cX5_weightOf : ByteArray := prog_7_method_43_code
def yX5_weightOf : MethodName := ⟨RX5, "weightOf", "(I)I"⟩
abbrev cX5_weight : ByteArray := prog_7_method_44_code
def yX5_weight : MethodName := ⟨RX5, "weight", "(I)I"⟩
abbrev cX5_isAhead : ByteArray := prog_7_method_45_code
def yX5_isAhead : MethodName := ⟨RX5, "isAhead", "(II)Z"⟩
abbrev cX5_teller : ByteArray := prog_7_method_46_code
def yX5_teller : MethodName := ⟨RX5, "teller", "(II)I"⟩
abbrev cX5_fact : ByteArray := prog_7_method_47_code
def yX5_fact : MethodName := ⟨RX5, "fact", "(II)I"⟩
abbrev cX5_factByPairs : ByteArray := prog_7_method_48_code
def yX5_factByPairs : MethodName := ⟨RX5, "factByPairs", "(II)I"⟩
abbrev cX5_factFrom : ByteArray := prog_7_method_49_code
def yX5_factFrom : MethodName := ⟨RX5, "factFrom", "(II)I"⟩
abbrev cX5_agreement : ByteArray := prog_7_method_50_code
def yX5_agreement : MethodName := ⟨RX5, "agreement", "(II)F"⟩
abbrev cX5_setLimit : ByteArray := prog_7_method_51_code
def yX5_setLimit : MethodName := ⟨RX5, "setLimit", "(I)I"⟩
abbrev cX5_lastOf : ByteArray := prog_7_method_52_code
def yX5_lastOf : MethodName := ⟨RX5, "lastOf", "(I)I"⟩
abbrev cX5_isGhost : ByteArray := prog_7_method_53_code
def yX5_isGhost : MethodName := ⟨RX5, "isGhost", "(I)Z"⟩
abbrev cX5_ghosts : ByteArray := prog_7_method_54_code
def yX5_ghosts : MethodName := ⟨RX5, "ghosts", "()I"⟩
abbrev cX5_nextGhost : ByteArray := prog_7_method_55_code
def yX5_nextGhost : MethodName := ⟨RX5, "nextGhost", "()I"⟩
abbrev cX5_nextGhostByDays : ByteArray := prog_7_method_56_code
def yX5_nextGhostByDays : MethodName := ⟨RX5, "nextGhostByDays", "()I"⟩
abbrev cX5_pass : ByteArray := prog_7_method_57_code
def yX5_pass : MethodName := ⟨RX5, "pass", "(I)I"⟩
abbrev cX5_today : ByteArray := prog_7_method_58_code
def yX5_today : MethodName := ⟨RX5, "today", "()I"⟩
abbrev cX5_mark : ByteArray := prog_7_method_59_code
def yX5_mark : MethodName := ⟨RX5, "mark", "()J"⟩
def RJx145de : String := "java/io/Serializable"
def TJx145de : u_T := fun k => match k with
  | _ => ("", "", "", false)
def tyJx145de : Nat → FieldType := fun k => match k with
  | _ => .int
abbrev wsJx145de0 : List Cond := u_ws RJx145de TJx145de 0
theorem nmJx145de : ∀ a, a < 0 → ∀ b, b < 0 → a ≠ b → (TJx145de a).2.1 ≠ (TJx145de b).2.1 := by decide +kernel
theorem tyJx145de_ok : ∀ k, k < 0 → parseFieldDescriptor (TJx145de k).2.2.1 = some (tyJx145de k) := by decide +kernel
def RJ6 : String := "java/lang/Integer"
def TJ6 : u_T := fun k => match k with
  | _ => ("", "", "", false)
def tyJ6 : Nat → FieldType := fun k => match k with
  | _ => .int
abbrev wsJ60 : List Cond := u_ws RJ6 TJ6 0
theorem nmJ6 : ∀ a, a < 0 → ∀ b, b < 0 → a ≠ b → (TJ6 a).2.1 ≠ (TJ6 b).2.1 := by decide +kernel
theorem tyJ6_ok : ∀ k, k < 0 → parseFieldDescriptor (TJ6 k).2.2.1 = some (tyJ6 k) := by decide +kernel
abbrev cJ6_bitCount_0f7a4 : ByteArray := prog_13_method_49_code
def yJ6_bitCount_0f7a4 : MethodName := ⟨RJ6, "bitCount", "(I)I"⟩
def RJ9 : String := "java/lang/Math"
def TJ9 : u_T := fun k => match k with
  | _ => ("", "", "", false)
def tyJ9 : Nat → FieldType := fun k => match k with
  | _ => .int
abbrev wsJ90 : List Cond := u_ws RJ9 TJ9 0
theorem nmJ9 : ∀ a, a < 0 → ∀ b, b < 0 → a ≠ b → (TJ9 a).2.1 ≠ (TJ9 b).2.1 := by decide +kernel
theorem tyJ9_ok : ∀ k, k < 0 → parseFieldDescriptor (TJ9 k).2.2.1 = some (tyJ9 k) := by decide +kernel
abbrev cJ9_max_7cf53 : ByteArray := prog_14_method_65_code
def yJ9_max_7cf53 : MethodName := ⟨RJ9, "max", "(II)I"⟩
abbrev cJ9_min_7cf53 : ByteArray := prog_14_method_69_code
def yJ9_min_7cf53 : MethodName := ⟨RJ9, "min", "(II)I"⟩
def RJ0 : String := "java/lang/String"
def TJ0 : u_T := fun k => match k with
  | _ => ("", "", "", false)
def tyJ0 : Nat → FieldType := fun k => match k with
  | _ => .int
abbrev wsJ00 : List Cond := u_ws RJ0 TJ0 0
theorem nmJ0 : ∀ a, a < 0 → ∀ b, b < 0 → a ≠ b → (TJ0 a).2.1 ≠ (TJ0 b).2.1 := by decide +kernel
theorem tyJ0_ok : ∀ k, k < 0 → parseFieldDescriptor (TJ0 k).2.2.1 = some (tyJ0 k) := by decide +kernel
def RL : String := "AssetmergeLaw"
abbrev cL_addSource : ByteArray := method_3_code
def yL_addSource : MethodName := ⟨RL, "addSource", "(LAssetmerge;I[J)I"⟩
abbrev cL_setTrust : ByteArray := method_4_code
def yL_setTrust : MethodName := ⟨RL, "setTrust", "(LAssetmerge;II[J)I"⟩
abbrev cL_addRecord : ByteArray := method_5_code
def yL_addRecord : MethodName := ⟨RL, "addRecord", "(LAssetmerge;IIII[J)I"⟩
abbrev cL_setKey : ByteArray := method_6_code
def yL_setKey : MethodName := ⟨RL, "setKey", "(LAssetmerge;III[J)I"⟩
abbrev cL_setFact : ByteArray := method_7_code
def yL_setFact : MethodName := ⟨RL, "setFact", "(LAssetmerge;III[J)I"⟩
abbrev cL_see : ByteArray := method_8_code
def yL_see : MethodName := ⟨RL, "see", "(LAssetmerge;I[J)I"⟩
abbrev cL_drop : ByteArray := method_9_code
def yL_drop : MethodName := ⟨RL, "drop", "(LAssetmerge;I[J)I"⟩
abbrev cL_forbid : ByteArray := method_10_code
def yL_forbid : MethodName := ⟨RL, "forbid", "(LAssetmerge;II[J)I"⟩
abbrev cL_allow : ByteArray := method_11_code
def yL_allow : MethodName := ⟨RL, "allow", "(LAssetmerge;II[J)I"⟩
abbrev cL_key : ByteArray := method_12_code
def yL_key : MethodName := ⟨RL, "key", "(LAssetmerge;II[J)I"⟩
abbrev cL_seen : ByteArray := method_13_code
def yL_seen : MethodName := ⟨RL, "seen", "(LAssetmerge;I[J)I"⟩
abbrev cL_thing : ByteArray := method_14_code
def yL_thing : MethodName := ⟨RL, "thing", "(LAssetmerge;I[J)I"⟩
abbrev cL_thingByRounds : ByteArray := method_15_code
def yL_thingByRounds : MethodName := ⟨RL, "thingByRounds", "(LAssetmerge;I[J)I"⟩
abbrev cL_size : ByteArray := method_16_code
def yL_size : MethodName := ⟨RL, "size", "(LAssetmerge;I[J)I"⟩
abbrev cL_member : ByteArray := method_17_code
def yL_member : MethodName := ⟨RL, "member", "(LAssetmerge;II[J)I"⟩
abbrev cL_areTogether : ByteArray := method_18_code
def yL_areTogether : MethodName := ⟨RL, "areTogether", "(LAssetmerge;II[J)I"⟩
abbrev cL_step : ByteArray := method_19_code
def yL_step : MethodName := ⟨RL, "step", "(LAssetmerge;II[J)I"⟩
abbrev cL_shared : ByteArray := method_20_code
def yL_shared : MethodName := ⟨RL, "shared", "(LAssetmerge;I[J)I"⟩
abbrev cL_thingsWithout : ByteArray := method_21_code
def yL_thingsWithout : MethodName := ⟨RL, "thingsWithout", "(LAssetmerge;I[J)I"⟩
abbrev cL_thingsIf : ByteArray := method_22_code
def yL_thingsIf : MethodName := ⟨RL, "thingsIf", "(LAssetmerge;III[J)I"⟩
abbrev cL_thingsIfAllowed : ByteArray := method_23_code
def yL_thingsIfAllowed : MethodName := ⟨RL, "thingsIfAllowed", "(LAssetmerge;II[J)I"⟩
abbrev cL_weight : ByteArray := method_24_code
def yL_weight : MethodName := ⟨RL, "weight", "(LAssetmerge;I[J)I"⟩
abbrev cL_fact : ByteArray := method_25_code
def yL_fact : MethodName := ⟨RL, "fact", "(LAssetmerge;II[J)I"⟩
abbrev cL_factByPairs : ByteArray := method_26_code
def yL_factByPairs : MethodName := ⟨RL, "factByPairs", "(LAssetmerge;II[J)I"⟩
abbrev cL_factFrom : ByteArray := method_27_code
def yL_factFrom : MethodName := ⟨RL, "factFrom", "(LAssetmerge;II[J)I"⟩
abbrev cL_agreement : ByteArray := method_28_code
def yL_agreement : MethodName := ⟨RL, "agreement", "(LAssetmerge;II[D)I"⟩
abbrev cL_setLimit : ByteArray := method_29_code
def yL_setLimit : MethodName := ⟨RL, "setLimit", "(LAssetmerge;I[J)I"⟩
abbrev cL_isGhost : ByteArray := method_30_code
def yL_isGhost : MethodName := ⟨RL, "isGhost", "(LAssetmerge;I[J)I"⟩
abbrev cL_pass : ByteArray := method_31_code
def yL_pass : MethodName := ⟨RL, "pass", "(LAssetmerge;I[J)I"⟩
abbrev cL_law : ByteArray := code
def yL_law : MethodName := ⟨RL, "law", "([I)Z"⟩
def wsL_law0_r1 : List Cond := [Cond.classLink RL 8 RX4, Cond.instantiable RX4 6, Cond.initialized RX4, Cond.classLink RL 112 RX5, Cond.instantiable RX5 18, Cond.initialized RX5, Cond.arrayClass .long, Cond.arrayClass .double, Cond.methodLink RL 111 yX4_init, Cond.instanceMethod yX4_init, Cond.code yX4_init cX4_init 1 none, Cond.methodLink RX4 3 objectInit, Cond.instanceMethod objectInit, Cond.code objectInit ⟨#[0xb1]⟩ 1 none, Cond.classLink RX4 9 RX1, Cond.instantiable RX1 10, Cond.initialized RX1, Cond.fieldLink RX4 12 "Assetmerge" "inventory" "LAssetmerge$Inventory;", Cond.classLink RX4 16 RX2, Cond.instantiable RX2 2, Cond.initialized RX2, Cond.fieldLink RX4 19 "Assetmerge" "joining" "LAssetmerge$Joining;", Cond.classLink RX4 23 RX3, Cond.instantiable RX3 2]
def wsL_law0_r2 : List Cond := [Cond.initialized RX3, Cond.fieldLink RX4 26 "Assetmerge" "spreading" "LAssetmerge$Spreading;", Cond.arrayClass .int, Cond.fieldLink RX4 30 "Assetmerge" "order" "[I", Cond.fieldLink RX4 34 "Assetmerge" "limit" "I", Cond.instanceMethod yX1_init, Cond.code yX1_init cX1_init 1 none, Cond.methodLink RX1 3 objectInit, Cond.fieldLink RX1 9 "Assetmerge$Inventory" "trusts" "[I", Cond.fieldLink RX1 15 "Assetmerge$Inventory" "sources" "[I", Cond.fieldLink RX1 18 "Assetmerge$Inventory" "seenDays" "[I", Cond.classLink RX1 21 "[[I", Cond.fieldLink RX1 23 "Assetmerge$Inventory" "keys" "[[I", Cond.fieldLink RX1 26 "Assetmerge$Inventory" "facts" "[[I", Cond.fieldLink RX1 29 "Assetmerge$Inventory" "forbidden" "[I", Cond.instanceMethod yX2_init, Cond.code yX2_init cX2_init 1 none, Cond.instanceMethod yX0_init, Cond.initialized RX0, Cond.code yX0_init cX0_init 1 none, Cond.methodLink RX0 3 objectInit, Cond.classLink RX0 9 "[[I", Cond.fieldLink RX0 11 "Assetmerge$Finder" "groups" "[[I", Cond.fieldLink RX0 16 "Assetmerge$Finder" "clusters" "[I"]
def wsL_law0_r3 : List Cond := [Cond.instanceMethod yX3_init, Cond.code yX3_init cX3_init 1 none, Cond.methodLink RL 114 yX5_init, Cond.instanceMethod yX5_init, Cond.code yX5_init cX5_init 1 none, Cond.methodLink RX5 1 objectInit, Cond.fieldLink RX5 9 "AssetmergeModel" "trusts" "[I", Cond.fieldLink RX5 13 "AssetmergeModel" "sourceOf" "[I", Cond.fieldLink RX5 16 "AssetmergeModel" "seen" "[I", Cond.classLink RX5 19 "[[I", Cond.fieldLink RX5 21 "AssetmergeModel" "keys" "[[I", Cond.fieldLink RX5 24 "AssetmergeModel" "facts" "[[I", Cond.arrayClass .boolean, Cond.fieldLink RX5 27 "AssetmergeModel" "isDropped" "[Z", Cond.fieldLink RX5 31 "AssetmergeModel" "ones" "[I", Cond.fieldLink RX5 34 "AssetmergeModel" "others" "[I", Cond.fieldLink RX5 37 "AssetmergeModel" "limit" "I", Cond.fieldLink RX5 41 "AssetmergeModel" "groups" "[I", Cond.fieldLink RX5 44 "AssetmergeModel" "clusters" "[I", Cond.fieldLink RX5 47 "AssetmergeModel" "without" "I", Cond.fieldLink RX5 50 "AssetmergeModel" "freed" "I", Cond.methodLink RL 115 yL_addSource, Cond.static yL_addSource, Cond.initialized RL]
def wsL_law0_r4 : List Cond := [Cond.codeWith yL_addSource cL_addSource 4 (some .int) [(0, 9, 12, 13), (0, 9, 15, 15)], Cond.classLink RL 13 "java/lang/IllegalArgumentException", Cond.classLink RL 15 "java/lang/IllegalStateException", Cond.methodLink RL 7 yX4_addSource, Cond.instanceMethod yX4_addSource, Cond.selects RX4 yX4_addSource yX4_addSource, Cond.code yX4_addSource cX4_addSource 2 (some .int), Cond.classLink RX4 45 "java/lang/IllegalStateException", Cond.initialized "java/lang/IllegalStateException", Cond.fieldLink RX4 42 "Assetmerge$Inventory" "sourceCount" "I", Cond.methodLink RX4 38 yX4_checkRange, Cond.static yX4_checkRange, Cond.code yX4_checkRange cX4_checkRange 3 none, Cond.classLink RX4 219 "java/lang/IllegalArgumentException", Cond.initialized "java/lang/IllegalArgumentException", Cond.methodLink RX4 52 yX1_putSource, Cond.instanceMethod yX1_putSource, Cond.selects RX1 yX1_putSource yX1_putSource, Cond.code yX1_putSource cX1_putSource 3 (some .int), Cond.fieldLink RX1 32 "Assetmerge$Inventory" "sourceCount" "I", Cond.methodLink RL 120 yX5_addSource, Cond.instanceMethod yX5_addSource, Cond.selects RX5 yX5_addSource yX5_addSource, Cond.code yX5_addSource cX5_addSource 2 (some .int)]
def wsL_law0_r5 : List Cond := [Cond.fieldLink RX5 67 "AssetmergeModel" "sources" "I", Cond.fieldLink RX5 53 "AssetmergeModel" "thrown" "I", Cond.methodLink RX5 59 yX5_in, Cond.static yX5_in, Cond.code yX5_in cX5_in 3 (some .boolean), Cond.methodLink RL 121 yX5_thrown, Cond.instanceMethod yX5_thrown, Cond.selects RX5 yX5_thrown yX5_thrown, Cond.code yX5_thrown cX5_thrown 1 (some .int), Cond.methodLink RL 125 yL_setTrust, Cond.static yL_setTrust, Cond.codeWith yL_setTrust cL_setTrust 5 (some .int) [(0, 10, 13, 21), (0, 10, 17, 13)], Cond.classLink RL 21 "java/lang/IndexOutOfBoundsException", Cond.methodLink RL 17 yX4_setTrust, Cond.instanceMethod yX4_setTrust, Cond.selects RX4 yX4_setTrust yX4_setTrust, Cond.code yX4_setTrust cX4_setTrust 4 (some .int), Cond.fieldLink RX4 60 "Assetmerge$Inventory" "trusts" "[I", Cond.methodLink RX4 56 yX4_checkSource, Cond.instanceMethod yX4_checkSource, Cond.selects RX4 yX4_checkSource yX4_checkSource, Cond.code yX4_checkSource cX4_checkSource 2 none, Cond.classLink RX4 205 "java/lang/IndexOutOfBoundsException", Cond.initialized "java/lang/IndexOutOfBoundsException"]
def wsL_law0_r6 : List Cond := [Cond.methodLink RL 128 yX5_setTrust, Cond.instanceMethod yX5_setTrust, Cond.selects RX5 yX5_setTrust yX5_setTrust, Cond.code yX5_setTrust cX5_setTrust 4 (some .int), Cond.methodLink RL 129 yL_addRecord, Cond.static yL_addRecord, Cond.codeWith yL_addRecord cL_addRecord 7 (some .int) [(0, 14, 17, 21), (0, 14, 21, 13), (0, 14, 25, 15)], Cond.methodLink RL 23 yX4_addRecord, Cond.instanceMethod yX4_addRecord, Cond.selects RX4 yX4_addRecord yX4_addRecord, Cond.code yX4_addRecord cX4_addRecord 6 (some .int), Cond.fieldLink RX4 63 "Assetmerge$Inventory" "recordCount" "I", Cond.fieldLink RX4 68 "Assetmerge" "day" "I", Cond.fieldLink RX4 75 "Assetmerge$Inventory" "keys" "[[I", Cond.methodLink RX4 71 yX1_putRecord, Cond.instanceMethod yX1_putRecord, Cond.selects RX1 yX1_putRecord yX1_putRecord, Cond.code yX1_putRecord cX1_putRecord 5 (some .int), Cond.fieldLink RX1 36 "Assetmerge$Inventory" "recordCount" "I", Cond.methodLink RX1 39 yX1_unhide, Cond.instanceMethod yX1_unhide, Cond.selects RX1 yX1_unhide yX1_unhide, Cond.code yX1_unhide cX1_unhide 2 none, Cond.fieldLink RX1 43 "Assetmerge$Inventory" "live" "I"]
def wsL_law0_r7 : List Cond := [Cond.methodLink RL 132 yX5_addRecord, Cond.instanceMethod yX5_addRecord, Cond.selects RX5 yX5_addRecord yX5_addRecord, Cond.code yX5_addRecord cX5_addRecord 7 (some .int), Cond.fieldLink RX5 56 "AssetmergeModel" "records" "I", Cond.fieldLink RX5 73 "AssetmergeModel" "today" "I", Cond.methodLink RX5 70 yX5_isKey, Cond.static yX5_isKey, Cond.code yX5_isKey cX5_isKey 1 (some .boolean), Cond.methodLink RL 133 yL_setKey, Cond.static yL_setKey, Cond.codeWith yL_setKey cL_setKey 6 (some .int) [(0, 12, 15, 21), (0, 12, 19, 13)], Cond.methodLink RL 27 yX4_setKey, Cond.instanceMethod yX4_setKey, Cond.selects RX4 yX4_setKey yX4_setKey, Cond.code yX4_setKey cX4_setKey 5 (some .int), Cond.methodLink RX4 79 yX4_checkRecord, Cond.instanceMethod yX4_checkRecord, Cond.selects RX4 yX4_checkRecord yX4_checkRecord, Cond.code yX4_checkRecord cX4_checkRecord 2 none, Cond.methodLink RX4 210 yX1_holds, Cond.instanceMethod yX1_holds, Cond.selects RX1 yX1_holds yX1_holds, Cond.code yX1_holds cX1_holds 2 (some .boolean)]
def wsL_law0_r8 : List Cond := [Cond.methodLink RX1 46 yX1_isIn, Cond.static yX1_isIn, Cond.code yX1_isIn cX1_isIn 2 (some .boolean), Cond.methodLink RX4 82 yX4_checkKind, Cond.static yX4_checkKind, Cond.code yX4_checkKind cX4_checkKind 1 none, Cond.methodLink RL 136 yX5_setKey, Cond.instanceMethod yX5_setKey, Cond.selects RX5 yX5_setKey yX5_setKey, Cond.code yX5_setKey cX5_setKey 5 (some .int), Cond.methodLink RX5 63 yX5_isRecord, Cond.instanceMethod yX5_isRecord, Cond.selects RX5 yX5_isRecord yX5_isRecord, Cond.code yX5_isRecord cX5_isRecord 2 (some .boolean), Cond.methodLink RL 137 yL_setFact, Cond.static yL_setFact, Cond.codeWith yL_setFact cL_setFact 6 (some .int) [(0, 12, 15, 21), (0, 12, 19, 13)], Cond.methodLink RL 31 yX4_setFact, Cond.instanceMethod yX4_setFact, Cond.selects RX4 yX4_setFact yX4_setFact, Cond.code yX4_setFact cX4_setFact 5 (some .int), Cond.fieldLink RX4 88 "Assetmerge$Inventory" "facts" "[[I", Cond.methodLink RX4 85 yX4_checkField, Cond.static yX4_checkField]
def wsL_law0_r9 : List Cond := [Cond.code yX4_checkField cX4_checkField 1 none, Cond.methodLink RL 139 yX5_setFact, Cond.instanceMethod yX5_setFact, Cond.selects RX5 yX5_setFact yX5_setFact, Cond.code yX5_setFact cX5_setFact 5 (some .int), Cond.methodLink RL 140 yL_see, Cond.static yL_see, Cond.codeWith yL_see cL_see 4 (some .int) [(0, 9, 12, 21)], Cond.methodLink RL 34 yX4_see, Cond.instanceMethod yX4_see, Cond.selects RX4 yX4_see yX4_see, Cond.code yX4_see cX4_see 3 (some .int), Cond.fieldLink RX4 91 "Assetmerge$Inventory" "seenDays" "[I", Cond.methodLink RL 142 yX5_see, Cond.instanceMethod yX5_see, Cond.selects RX5 yX5_see yX5_see, Cond.code yX5_see cX5_see 3 (some .int), Cond.methodLink RX5 76 yX5_lacks, Cond.instanceMethod yX5_lacks, Cond.selects RX5 yX5_lacks yX5_lacks, Cond.code yX5_lacks cX5_lacks 2 (some .boolean), Cond.methodLink RL 143 yL_drop, Cond.static yL_drop, Cond.codeWith yL_drop cL_drop 4 (some .int) [(0, 9, 12, 21)]]
def wsL_law0_r10 : List Cond := [Cond.methodLink RL 37 yX4_drop, Cond.instanceMethod yX4_drop, Cond.selects RX4 yX4_drop yX4_drop, Cond.code yX4_drop cX4_drop 2 (some .int), Cond.methodLink RX4 94 yX1_hide, Cond.instanceMethod yX1_hide, Cond.selects RX1 yX1_hide yX1_hide, Cond.code yX1_hide cX1_hide 2 none, Cond.methodLink RX4 97 yX1_countRecords, Cond.instanceMethod yX1_countRecords, Cond.selects RX1 yX1_countRecords yX1_countRecords, Cond.code yX1_countRecords cX1_countRecords 1 (some .int), Cond.methodLink RX1 50 yJ6_bitCount_0f7a4, Cond.static yJ6_bitCount_0f7a4, Cond.initialized RJ6, Cond.code yJ6_bitCount_0f7a4 cJ6_bitCount_0f7a4 1 (some .int), Cond.constant RJ6 265 (1431655765), Cond.constant RJ6 266 (858993459), Cond.constant RJ6 267 (252645135), Cond.methodLink RL 145 yX5_drop, Cond.instanceMethod yX5_drop, Cond.selects RX5 yX5_drop yX5_drop, Cond.code yX5_drop cX5_drop 2 (some .int), Cond.methodLink RX5 79 yX5_left]
def wsL_law0_r11 : List Cond := [Cond.instanceMethod yX5_left, Cond.selects RX5 yX5_left yX5_left, Cond.code yX5_left cX5_left 3 (some .int), Cond.methodLink RL 146 yL_forbid, Cond.static yL_forbid, Cond.codeWith yL_forbid cL_forbid 5 (some .int) [(0, 10, 13, 21), (0, 10, 17, 13), (0, 10, 21, 15)], Cond.methodLink RL 40 yX4_forbid, Cond.instanceMethod yX4_forbid, Cond.selects RX4 yX4_forbid yX4_forbid, Cond.code yX4_forbid cX4_forbid 3 (some .int), Cond.fieldLink RX4 111 "Assetmerge$Inventory" "pairCount" "I", Cond.methodLink RX4 101 yX4_checkDifferent, Cond.static yX4_checkDifferent, Cond.code yX4_checkDifferent cX4_checkDifferent 2 none, Cond.methodLink RX4 105 yX1_isForbidden, Cond.instanceMethod yX1_isForbidden, Cond.selects RX1 yX1_isForbidden yX1_isForbidden, Cond.code yX1_isForbidden cX1_isForbidden 3 (some .boolean), Cond.methodLink RX4 116 yX1_part, Cond.instanceMethod yX1_part, Cond.selects RX1 yX1_part yX1_part, Cond.code yX1_part cX1_part 3 none, Cond.methodLink RX4 119 yX1_countPairs, Cond.instanceMethod yX1_countPairs]
def wsL_law0_r12 : List Cond := [Cond.selects RX1 yX1_countPairs yX1_countPairs, Cond.code yX1_countPairs cX1_countPairs 3 (some .int), Cond.methodLink RX1 56 yX1_holds, Cond.methodLink RL 148 yX5_forbid, Cond.instanceMethod yX5_forbid, Cond.selects RX5 yX5_forbid yX5_forbid, Cond.code yX5_forbid cX5_forbid 3 (some .int), Cond.fieldLink RX5 83 "AssetmergeModel" "pairs" "I", Cond.methodLink RX5 86 yX5_pair, Cond.instanceMethod yX5_pair, Cond.selects RX5 yX5_pair yX5_pair, Cond.code yX5_pair cX5_pair 4 (some .int), Cond.methodLink RX5 90 yX5_countedPairs, Cond.instanceMethod yX5_countedPairs, Cond.selects RX5 yX5_countedPairs yX5_countedPairs, Cond.code yX5_countedPairs cX5_countedPairs 3 (some .int), Cond.methodLink RL 149 yL_allow, Cond.static yL_allow, Cond.codeWith yL_allow cL_allow 5 (some .int) [(0, 10, 13, 21), (0, 10, 17, 46)], Cond.classLink RL 46 "java/util/NoSuchElementException", Cond.methodLink RL 43 yX4_allow, Cond.instanceMethod yX4_allow, Cond.selects RX4 yX4_allow yX4_allow, Cond.code yX4_allow cX4_allow 3 (some .int)]
def wsL_law0_r13 : List Cond := [Cond.methodLink RX4 122 yX4_checkForbidden, Cond.instanceMethod yX4_checkForbidden, Cond.selects RX4 yX4_checkForbidden yX4_checkForbidden, Cond.code yX4_checkForbidden cX4_checkForbidden 3 none, Cond.classLink RX4 147 "java/util/NoSuchElementException", Cond.initialized "java/util/NoSuchElementException", Cond.methodLink RX4 125 yX1_unpart, Cond.instanceMethod yX1_unpart, Cond.selects RX1 yX1_unpart yX1_unpart, Cond.code yX1_unpart cX1_unpart 3 none, Cond.methodLink RL 151 yX5_allow, Cond.instanceMethod yX5_allow, Cond.selects RX5 yX5_allow yX5_allow, Cond.code yX5_allow cX5_allow 4 (some .int), Cond.methodLink RX5 93 yX5_raises, Cond.instanceMethod yX5_raises, Cond.selects RX5 yX5_raises yX5_raises, Cond.code yX5_raises cX5_raises 2 (some .int), Cond.methodLink RL 152 yX4_records, Cond.instanceMethod yX4_records, Cond.selects RX4 yX4_records yX4_records, Cond.code yX4_records cX4_records 1 (some .int), Cond.methodLink RL 155 yX5_records, Cond.instanceMethod yX5_records]
def wsL_law0_r14 : List Cond := [Cond.selects RX5 yX5_records yX5_records, Cond.code yX5_records cX5_records 1 (some .int), Cond.methodLink RL 156 yL_key, Cond.static yL_key, Cond.codeWith yL_key cL_key 5 (some .int) [(0, 10, 13, 21)], Cond.methodLink RL 48 yX4_key, Cond.instanceMethod yX4_key, Cond.selects RX4 yX4_key yX4_key, Cond.code yX4_key cX4_key 3 (some .int), Cond.methodLink RL 158 yX5_key, Cond.instanceMethod yX5_key, Cond.selects RX5 yX5_key yX5_key, Cond.code yX5_key cX5_key 3 (some .int), Cond.methodLink RL 159 yL_seen, Cond.static yL_seen, Cond.codeWith yL_seen cL_seen 4 (some .int) [(0, 9, 12, 21)], Cond.methodLink RL 51 yX4_seen, Cond.instanceMethod yX4_seen, Cond.selects RX4 yX4_seen yX4_seen, Cond.code yX4_seen cX4_seen 2 (some .int), Cond.methodLink RL 161 yX5_seen, Cond.instanceMethod yX5_seen, Cond.selects RX5 yX5_seen yX5_seen, Cond.code yX5_seen cX5_seen 2 (some .int)]
def wsL_law0_r15 : List Cond := [Cond.methodLink RL 162 yL_thing, Cond.static yL_thing, Cond.codeWith yL_thing cL_thing 4 (some .int) [(0, 9, 12, 21)], Cond.methodLink RL 54 yX4_thing, Cond.instanceMethod yX4_thing, Cond.selects RX4 yX4_thing yX4_thing, Cond.code yX4_thing cX4_thing 2 (some .int), Cond.methodLink RX4 128 yX4_findThing, Cond.instanceMethod yX4_findThing, Cond.selects RX4 yX4_findThing yX4_findThing, Cond.code yX4_findThing cX4_findThing 2 (some .int), Cond.fieldLink RX4 152 "Assetmerge$Joining" "groups" "[[I", Cond.sameField "Assetmerge$Joining" "Assetmerge$Finder" "groups" "[[I", Cond.methodLink RX4 158 ⟨"Assetmerge$Joining", "findGroups", "(LAssetmerge$Inventory;)V"⟩, Cond.sameMethod "Assetmerge$Joining" "Assetmerge$Finder" "findGroups" "(LAssetmerge$Inventory;)V", Cond.selects RX2 ⟨"Assetmerge$Joining", "findGroups", "(LAssetmerge$Inventory;)V"⟩ yX0_findGroups, Cond.instanceMethod yX0_findGroups, Cond.code yX0_findGroups cX0_findGroups 4 none, Cond.fieldLink RX0 20 "Assetmerge$Inventory" "recordCount" "I", Cond.methodLink RX0 26 ⟨"Assetmerge$Finder", "groupBefore", "(II)I"⟩, Cond.sameMethod "Assetmerge$Finder" "Assetmerge$Finder" "groupBefore" "(II)I", Cond.selects RX2 ⟨"Assetmerge$Finder", "groupBefore", "(II)I"⟩ yX0_groupBefore, Cond.instanceMethod yX0_groupBefore, Cond.code yX0_groupBefore cX0_groupBefore 3 (some .int)]
def wsL_law0_r16 : List Cond := [Cond.selects RX3 ⟨"Assetmerge$Finder", "groupBefore", "(II)I"⟩ yX0_groupBefore, Cond.methodLink RX0 30 ⟨"Assetmerge$Finder", "findClusters", "(LAssetmerge$Inventory;I)V"⟩, Cond.sameMethod "Assetmerge$Finder" "Assetmerge$Finder" "findClusters" "(LAssetmerge$Inventory;I)V", Cond.selects RX2 ⟨"Assetmerge$Finder", "findClusters", "(LAssetmerge$Inventory;I)V"⟩ yX2_findClusters, Cond.instanceMethod yX2_findClusters, Cond.code yX2_findClusters cX2_findClusters 5 none, Cond.fieldLink RX2 7 "Assetmerge$Inventory" "recordCount" "I", Cond.fieldLink RX2 17 "Assetmerge$Joining" "clusters" "[I", Cond.sameField "Assetmerge$Joining" "Assetmerge$Finder" "clusters" "[I", Cond.methodLink RX2 13 yX1_haveSameKey, Cond.instanceMethod yX1_haveSameKey, Cond.selects RX1 yX1_haveSameKey yX1_haveSameKey, Cond.code yX1_haveSameKey cX1_haveSameKey 4 (some .boolean), Cond.methodLink RX2 23 yX2_joinTwo, Cond.instanceMethod yX2_joinTwo, Cond.selects RX2 yX2_joinTwo yX2_joinTwo, Cond.code yX2_joinTwo cX2_joinTwo 7 none, Cond.methodLink RX2 27 Lib.Math.min.name, Cond.static Lib.Math.min.name, Cond.initialized "java/lang/Math", Cond.code Lib.Math.min.name Lib.Math.min.code 2 (some .int), Cond.methodLink RX2 33 Lib.Math.max.name, Cond.static Lib.Math.max.name, Cond.code Lib.Math.max.name Lib.Math.max.code 2 (some .int)]
def wsL_law0_r17 : List Cond := [Cond.selects RX3 ⟨"Assetmerge$Finder", "findClusters", "(LAssetmerge$Inventory;I)V"⟩ yX3_findClusters, Cond.instanceMethod yX3_findClusters, Cond.code yX3_findClusters cX3_findClusters 5 none, Cond.methodLink RX3 9 yX3_spreadOnce, Cond.instanceMethod yX3_spreadOnce, Cond.selects RX3 yX3_spreadOnce yX3_spreadOnce, Cond.code yX3_spreadOnce cX3_spreadOnce 6 (some .boolean), Cond.fieldLink RX3 15 "Assetmerge$Inventory" "recordCount" "I", Cond.fieldLink RX3 21 "Assetmerge$Spreading" "clusters" "[I", Cond.sameField "Assetmerge$Spreading" "Assetmerge$Finder" "clusters" "[I", Cond.methodLink RX3 25 yX3_areLinked, Cond.instanceMethod yX3_areLinked, Cond.selects RX3 yX3_areLinked yX3_areLinked, Cond.code yX3_areLinked cX3_areLinked 5 (some .boolean), Cond.methodLink RX3 29 ⟨"Assetmerge$Spreading", "groupBefore", "(II)I"⟩, Cond.sameMethod "Assetmerge$Spreading" "Assetmerge$Finder" "groupBefore" "(II)I", Cond.selects RX3 ⟨"Assetmerge$Spreading", "groupBefore", "(II)I"⟩ yX0_groupBefore, Cond.methodLink RX3 33 yX1_haveSameKey, Cond.methodLink RX0 34 ⟨"Assetmerge$Finder", "joinClusters", "(LAssetmerge$Inventory;I)V"⟩, Cond.sameMethod "Assetmerge$Finder" "Assetmerge$Finder" "joinClusters" "(LAssetmerge$Inventory;I)V", Cond.selects RX2 ⟨"Assetmerge$Finder", "joinClusters", "(LAssetmerge$Inventory;I)V"⟩ yX0_joinClusters, Cond.instanceMethod yX0_joinClusters, Cond.code yX0_joinClusters cX0_joinClusters 5 none, Cond.methodLink RX0 37 ⟨"Assetmerge$Finder", "membersOf", "(ILAssetmerge$Inventory;)I"⟩]
def wsL_law0_r18 : List Cond := [Cond.sameMethod "Assetmerge$Finder" "Assetmerge$Finder" "membersOf" "(ILAssetmerge$Inventory;)I", Cond.selects RX2 ⟨"Assetmerge$Finder", "membersOf", "(ILAssetmerge$Inventory;)I"⟩ yX0_membersOf, Cond.instanceMethod yX0_membersOf, Cond.code yX0_membersOf cX0_membersOf 5 (some .int), Cond.methodLink RX0 45 yX1_holds, Cond.selects RX3 ⟨"Assetmerge$Finder", "membersOf", "(ILAssetmerge$Inventory;)I"⟩ yX0_membersOf, Cond.methodLink RX0 41 yX1_mayJoin, Cond.instanceMethod yX1_mayJoin, Cond.selects RX1 yX1_mayJoin yX1_mayJoin, Cond.code yX1_mayJoin cX1_mayJoin 4 (some .boolean), Cond.methodLink RX1 64 yX1_haveTwoKeys, Cond.instanceMethod yX1_haveTwoKeys, Cond.selects RX1 yX1_haveTwoKeys yX1_haveTwoKeys, Cond.code yX1_haveTwoKeys cX1_haveTwoKeys 6 (some .boolean), Cond.methodLink RX1 67 yX1_haveForbiddenPair, Cond.instanceMethod yX1_haveForbiddenPair, Cond.selects RX1 yX1_haveForbiddenPair yX1_haveForbiddenPair, Cond.code yX1_haveForbiddenPair cX1_haveForbiddenPair 3 (some .boolean), Cond.selects RX3 ⟨"Assetmerge$Finder", "joinClusters", "(LAssetmerge$Inventory;I)V"⟩ yX0_joinClusters, Cond.methodLink RL 164 yX5_thing, Cond.instanceMethod yX5_thing, Cond.selects RX5 yX5_thing yX5_thing, Cond.code yX5_thing cX5_thing 2 (some .int), Cond.methodLink RX5 113 yX5_finds]
def wsL_law0_r19 : List Cond := [Cond.instanceMethod yX5_finds, Cond.selects RX5 yX5_finds yX5_finds, Cond.code yX5_finds cX5_finds 3 none, Cond.methodLink RX5 110 yX5_joins, Cond.instanceMethod yX5_joins, Cond.selects RX5 yX5_joins yX5_joins, Cond.code yX5_joins cX5_joins 4 none, Cond.methodLink RX5 103 yX5_clusters, Cond.instanceMethod yX5_clusters, Cond.selects RX5 yX5_clusters yX5_clusters, Cond.code yX5_clusters cX5_clusters 5 none, Cond.methodLink RX5 97 yX5_counts, Cond.instanceMethod yX5_counts, Cond.selects RX5 yX5_counts yX5_counts, Cond.code yX5_counts cX5_counts 2 (some .boolean), Cond.methodLink RX5 100 yX5_areLinked, Cond.instanceMethod yX5_areLinked, Cond.selects RX5 yX5_areLinked yX5_areLinked, Cond.code yX5_areLinked cX5_areLinked 4 (some .boolean), Cond.methodLink RX5 106 yX5_mayJoin, Cond.instanceMethod yX5_mayJoin, Cond.selects RX5 yX5_mayJoin yX5_mayJoin, Cond.code yX5_mayJoin cX5_mayJoin 6 (some .boolean), Cond.methodLink RL 165 yL_thingByRounds]
def wsL_law0_r20 : List Cond := [Cond.static yL_thingByRounds, Cond.codeWith yL_thingByRounds cL_thingByRounds 4 (some .int) [(0, 9, 12, 21)], Cond.methodLink RL 57 yX4_thingByRounds, Cond.instanceMethod yX4_thingByRounds, Cond.selects RX4 yX4_thingByRounds yX4_thingByRounds, Cond.code yX4_thingByRounds cX4_thingByRounds 2 (some .int), Cond.fieldLink RX4 135 "Assetmerge$Spreading" "groups" "[[I", Cond.sameField "Assetmerge$Spreading" "Assetmerge$Finder" "groups" "[[I", Cond.methodLink RX4 131 ⟨"Assetmerge$Spreading", "findGroups", "(LAssetmerge$Inventory;)V"⟩, Cond.sameMethod "Assetmerge$Spreading" "Assetmerge$Finder" "findGroups" "(LAssetmerge$Inventory;)V", Cond.selects RX3 ⟨"Assetmerge$Spreading", "findGroups", "(LAssetmerge$Inventory;)V"⟩ yX0_findGroups, Cond.methodLink RL 167 yX5_thingByRounds, Cond.instanceMethod yX5_thingByRounds, Cond.selects RX5 yX5_thingByRounds yX5_thingByRounds, Cond.code yX5_thingByRounds cX5_thingByRounds 2 (some .int), Cond.methodLink RX5 116 yX5_thing, Cond.methodLink RL 168 yX4_things, Cond.instanceMethod yX4_things, Cond.selects RX4 yX4_things yX4_things, Cond.code yX4_things cX4_things 1 (some .int), Cond.methodLink RX4 138 yX4_countThings, Cond.instanceMethod yX4_countThings, Cond.selects RX4 yX4_countThings yX4_countThings, Cond.code yX4_countThings cX4_countThings 3 (some .int)]
def wsL_law0_r21 : List Cond := [Cond.methodLink RX4 187 yX4_isThing, Cond.instanceMethod yX4_isThing, Cond.selects RX4 yX4_isThing yX4_isThing, Cond.code yX4_isThing cX4_isThing 2 (some .boolean), Cond.methodLink RX4 230 yX4_isMember, Cond.instanceMethod yX4_isMember, Cond.selects RX4 yX4_isMember yX4_isMember, Cond.code yX4_isMember cX4_isMember 3 (some .boolean), Cond.methodLink RL 171 yX5_things, Cond.instanceMethod yX5_things, Cond.selects RX5 yX5_things yX5_things, Cond.code yX5_things cX5_things 1 (some .int), Cond.methodLink RX5 119 yX5_thingMany, Cond.instanceMethod yX5_thingMany, Cond.selects RX5 yX5_thingMany yX5_thingMany, Cond.code yX5_thingMany cX5_thingMany 3 (some .int), Cond.methodLink RL 172 yL_size, Cond.static yL_size, Cond.codeWith yL_size cL_size 4 (some .int) [(0, 9, 12, 21)], Cond.methodLink RL 60 yX4_size, Cond.instanceMethod yX4_size, Cond.selects RX4 yX4_size yX4_size, Cond.code yX4_size cX4_size 2 (some .int), Cond.methodLink RX4 141 yX4_countMembers]
def wsL_law0_r22 : List Cond := [Cond.instanceMethod yX4_countMembers, Cond.selects RX4 yX4_countMembers yX4_countMembers, Cond.code yX4_countMembers cX4_countMembers 4 (some .int), Cond.methodLink RL 174 yX5_size, Cond.instanceMethod yX5_size, Cond.selects RX5 yX5_size yX5_size, Cond.code yX5_size cX5_size 4 (some .int), Cond.methodLink RX5 122 yX5_isOf, Cond.instanceMethod yX5_isOf, Cond.selects RX5 yX5_isOf yX5_isOf, Cond.code yX5_isOf cX5_isOf 3 (some .boolean), Cond.methodLink RL 175 yL_member, Cond.static yL_member, Cond.codeWith yL_member cL_member 5 (some .int) [(0, 10, 13, 21), (0, 10, 17, 46)], Cond.methodLink RL 63 yX4_member, Cond.instanceMethod yX4_member, Cond.selects RX4 yX4_member yX4_member, Cond.code yX4_member cX4_member 4 (some .int), Cond.methodLink RX4 144 yX4_findMember, Cond.instanceMethod yX4_findMember, Cond.selects RX4 yX4_findMember yX4_findMember, Cond.code yX4_findMember cX4_findMember 5 (some .int), Cond.methodLink RL 177 yX5_member, Cond.instanceMethod yX5_member]
def wsL_law0_r23 : List Cond := [Cond.selects RX5 yX5_member yX5_member, Cond.code yX5_member cX5_member 5 (some .int), Cond.methodLink RL 178 yL_areTogether, Cond.static yL_areTogether, Cond.codeWith yL_areTogether cL_areTogether 5 (some .int) [(0, 17, 20, 21)], Cond.methodLink RL 66 yX4_areTogether, Cond.instanceMethod yX4_areTogether, Cond.selects RX4 yX4_areTogether yX4_areTogether, Cond.code yX4_areTogether cX4_areTogether 3 (some .boolean), Cond.methodLink RL 180 yX5_areTogether, Cond.instanceMethod yX5_areTogether, Cond.selects RX5 yX5_areTogether yX5_areTogether, Cond.code yX5_areTogether cX5_areTogether 3 (some .boolean), Cond.methodLink RL 181 yL_step, Cond.static yL_step, Cond.codeWith yL_step cL_step 5 (some .int) [(0, 10, 13, 21), (0, 10, 17, 13), (0, 10, 21, 46)], Cond.methodLink RL 70 yX4_step, Cond.instanceMethod yX4_step, Cond.selects RX4 yX4_step yX4_step, Cond.code yX4_step cX4_step 4 (some .int), Cond.methodLink RX4 153 yX4_findStep, Cond.instanceMethod yX4_findStep, Cond.selects RX4 yX4_findStep yX4_findStep, Cond.code yX4_findStep cX4_findStep 4 (some .int)]
def wsL_law0_r24 : List Cond := [Cond.methodLink RL 183 yX5_step, Cond.instanceMethod yX5_step, Cond.selects RX5 yX5_step yX5_step, Cond.code yX5_step cX5_step 4 (some .int), Cond.methodLink RL 184 yL_shared, Cond.static yL_shared, Cond.codeWith yL_shared cL_shared 4 (some .int) [(0, 9, 12, 21)], Cond.methodLink RL 73 yX4_shared, Cond.instanceMethod yX4_shared, Cond.selects RX4 yX4_shared yX4_shared, Cond.code yX4_shared cX4_shared 4 (some .int), Cond.methodLink RX4 159 yX1_isFirstWithKey, Cond.instanceMethod yX1_isFirstWithKey, Cond.selects RX1 yX1_isFirstWithKey yX1_isFirstWithKey, Cond.code yX1_isFirstWithKey cX1_isFirstWithKey 4 (some .boolean), Cond.methodLink RX1 60 yX1_haveSameKey, Cond.methodLink RX4 162 yX4_isKeyElsewhere, Cond.instanceMethod yX4_isKeyElsewhere, Cond.selects RX4 yX4_isKeyElsewhere yX4_isKeyElsewhere, Cond.code yX4_isKeyElsewhere cX4_isKeyElsewhere 5 (some .boolean), Cond.methodLink RX4 233 yX1_haveSameKey, Cond.methodLink RL 186 yX5_shared, Cond.instanceMethod yX5_shared, Cond.selects RX5 yX5_shared yX5_shared]
def wsL_law0_r25 : List Cond := [Cond.code yX5_shared cX5_shared 4 (some .int), Cond.methodLink RX5 125 yX5_isShared, Cond.instanceMethod yX5_isShared, Cond.selects RX5 yX5_isShared yX5_isShared, Cond.code yX5_isShared cX5_isShared 5 (some .boolean), Cond.methodLink RL 187 yL_thingsWithout, Cond.static yL_thingsWithout, Cond.codeWith yL_thingsWithout cL_thingsWithout 4 (some .int) [(0, 9, 12, 21)], Cond.methodLink RL 76 yX4_thingsWithout, Cond.instanceMethod yX4_thingsWithout, Cond.selects RX4 yX4_thingsWithout yX4_thingsWithout, Cond.code yX4_thingsWithout cX4_thingsWithout 3 (some .int), Cond.methodLink RX4 165 yX1_unhide, Cond.methodLink RL 189 yX5_thingsWithout, Cond.instanceMethod yX5_thingsWithout, Cond.selects RX5 yX5_thingsWithout yX5_thingsWithout, Cond.code yX5_thingsWithout cX5_thingsWithout 3 (some .int), Cond.methodLink RL 190 yL_thingsIf, Cond.static yL_thingsIf, Cond.codeWith yL_thingsIf cL_thingsIf 6 (some .int) [(0, 12, 15, 21), (0, 12, 19, 13)], Cond.methodLink RL 79 yX4_thingsIf, Cond.instanceMethod yX4_thingsIf, Cond.selects RX4 yX4_thingsIf yX4_thingsIf, Cond.code yX4_thingsIf cX4_thingsIf 6 (some .int)]
def wsL_law0_r26 : List Cond := [Cond.methodLink RL 192 yX5_thingsIf, Cond.instanceMethod yX5_thingsIf, Cond.selects RX5 yX5_thingsIf yX5_thingsIf, Cond.code yX5_thingsIf cX5_thingsIf 6 (some .int), Cond.methodLink RX5 128 yX5_setKey, Cond.methodLink RL 193 yL_thingsIfAllowed, Cond.static yL_thingsIfAllowed, Cond.codeWith yL_thingsIfAllowed cL_thingsIfAllowed 5 (some .int) [(0, 10, 13, 21), (0, 10, 17, 46)], Cond.methodLink RL 82 yX4_thingsIfAllowed, Cond.instanceMethod yX4_thingsIfAllowed, Cond.selects RX4 yX4_thingsIfAllowed yX4_thingsIfAllowed, Cond.code yX4_thingsIfAllowed cX4_thingsIfAllowed 4 (some .int), Cond.methodLink RL 195 yX5_thingsIfAllowed, Cond.instanceMethod yX5_thingsIfAllowed, Cond.selects RX5 yX5_thingsIfAllowed yX5_thingsIfAllowed, Cond.code yX5_thingsIfAllowed cX5_thingsIfAllowed 5 (some .int), Cond.methodLink RL 196 yL_weight, Cond.static yL_weight, Cond.codeWith yL_weight cL_weight 4 (some .int) [(0, 9, 12, 21)], Cond.methodLink RL 85 yX4_weight, Cond.instanceMethod yX4_weight, Cond.selects RX4 yX4_weight yX4_weight, Cond.code yX4_weight cX4_weight 2 (some .int), Cond.methodLink RX4 168 yX1_weigh]
def wsL_law0_r27 : List Cond := [Cond.instanceMethod yX1_weigh, Cond.selects RX1 yX1_weigh yX1_weigh, Cond.code yX1_weigh cX1_weigh 3 (some .int), Cond.methodLink RL 198 yX5_weight, Cond.instanceMethod yX5_weight, Cond.selects RX5 yX5_weight yX5_weight, Cond.code yX5_weight cX5_weight 2 (some .int), Cond.methodLink RX5 132 yX5_weightOf, Cond.instanceMethod yX5_weightOf, Cond.selects RX5 yX5_weightOf yX5_weightOf, Cond.code yX5_weightOf cX5_weightOf 2 (some .int), Cond.methodLink RL 199 yL_fact, Cond.static yL_fact, Cond.codeWith yL_fact cL_fact 5 (some .int) [(0, 10, 13, 21), (0, 10, 17, 46)], Cond.methodLink RL 88 yX4_fact, Cond.instanceMethod yX4_fact, Cond.selects RX4 yX4_fact yX4_fact, Cond.code yX4_fact cX4_fact 4 (some .int), Cond.methodLink RX4 171 yX4_findFirstByOrder, Cond.instanceMethod yX4_findFirstByOrder, Cond.selects RX4 yX4_findFirstByOrder yX4_findFirstByOrder, Cond.code yX4_findFirstByOrder cX4_findFirstByOrder 5 (some .int), Cond.methodLink RX4 236 yX4_orderMembers, Cond.instanceMethod yX4_orderMembers]
def wsL_law0_r28 : List Cond := [Cond.selects RX4 yX4_orderMembers yX4_orderMembers, Cond.code yX4_orderMembers cX4_orderMembers 5 (some .int), Cond.methodLink RX4 239 yX1_isAhead, Cond.instanceMethod yX1_isAhead, Cond.selects RX1 yX1_isAhead yX1_isAhead, Cond.code yX1_isAhead cX1_isAhead 6 (some .boolean), Cond.methodLink RX1 70 yX1_weigh, Cond.methodLink RX4 174 yX4_checkFactRecord, Cond.static yX4_checkFactRecord, Cond.code yX4_checkFactRecord cX4_checkFactRecord 1 none, Cond.methodLink RL 201 yX5_fact, Cond.instanceMethod yX5_fact, Cond.selects RX5 yX5_fact yX5_fact, Cond.code yX5_fact cX5_fact 4 (some .int), Cond.methodLink RX5 138 yX5_teller, Cond.instanceMethod yX5_teller, Cond.selects RX5 yX5_teller yX5_teller, Cond.code yX5_teller cX5_teller 5 (some .int), Cond.methodLink RX5 135 yX5_isAhead, Cond.instanceMethod yX5_isAhead, Cond.selects RX5 yX5_isAhead yX5_isAhead, Cond.code yX5_isAhead cX5_isAhead 3 (some .boolean), Cond.methodLink RL 202 yL_factByPairs, Cond.static yL_factByPairs]
def wsL_law0_r29 : List Cond := [Cond.codeWith yL_factByPairs cL_factByPairs 5 (some .int) [(0, 10, 13, 21), (0, 10, 17, 46)], Cond.methodLink RL 91 yX4_factByPairs, Cond.instanceMethod yX4_factByPairs, Cond.selects RX4 yX4_factByPairs yX4_factByPairs, Cond.code yX4_factByPairs cX4_factByPairs 4 (some .int), Cond.methodLink RX4 177 yX4_findFirstByPairs, Cond.instanceMethod yX4_findFirstByPairs, Cond.selects RX4 yX4_findFirstByPairs yX4_findFirstByPairs, Cond.code yX4_findFirstByPairs cX4_findFirstByPairs 4 (some .int), Cond.methodLink RX4 180 yX4_tellsFact, Cond.instanceMethod yX4_tellsFact, Cond.selects RX4 yX4_tellsFact yX4_tellsFact, Cond.code yX4_tellsFact cX4_tellsFact 4 (some .boolean), Cond.methodLink RX4 242 yX4_isBeaten, Cond.instanceMethod yX4_isBeaten, Cond.selects RX4 yX4_isBeaten yX4_isBeaten, Cond.code yX4_isBeaten cX4_isBeaten 5 (some .boolean), Cond.methodLink RL 204 yX5_factByPairs, Cond.instanceMethod yX5_factByPairs, Cond.selects RX5 yX5_factByPairs yX5_factByPairs, Cond.code yX5_factByPairs cX5_factByPairs 3 (some .int), Cond.methodLink RX5 141 yX5_fact, Cond.methodLink RL 205 yL_factFrom, Cond.static yL_factFrom]
def wsL_law0_r30 : List Cond := [Cond.codeWith yL_factFrom cL_factFrom 5 (some .int) [(0, 10, 13, 21), (0, 10, 17, 46)], Cond.methodLink RL 94 yX4_factFrom, Cond.instanceMethod yX4_factFrom, Cond.selects RX4 yX4_factFrom yX4_factFrom, Cond.code yX4_factFrom cX4_factFrom 4 (some .int), Cond.methodLink RL 207 yX5_factFrom, Cond.instanceMethod yX5_factFrom, Cond.selects RX5 yX5_factFrom yX5_factFrom, Cond.code yX5_factFrom cX5_factFrom 4 (some .int), Cond.methodLink RL 208 yL_agreement, Cond.static yL_agreement, Cond.codeWith yL_agreement cL_agreement 5 (some .int) [(0, 10, 13, 21), (0, 10, 17, 46)], Cond.methodLink RL 97 yX4_agreement, Cond.instanceMethod yX4_agreement, Cond.selects RX4 yX4_agreement yX4_agreement, Cond.code yX4_agreement cX4_agreement 8 (some .float), Cond.methodLink RL 211 yX5_agreement, Cond.instanceMethod yX5_agreement, Cond.selects RX5 yX5_agreement yX5_agreement, Cond.code yX5_agreement cX5_agreement 8 (some .float), Cond.methodLink RL 212 yL_setLimit, Cond.static yL_setLimit, Cond.codeWith yL_setLimit cL_setLimit 4 (some .int) [(0, 9, 12, 13)], Cond.methodLink RL 101 yX4_setLimit]
def wsL_law0_r31 : List Cond := [Cond.instanceMethod yX4_setLimit, Cond.selects RX4 yX4_setLimit yX4_setLimit, Cond.code yX4_setLimit cX4_setLimit 3 (some .int), Cond.methodLink RL 214 yX5_setLimit, Cond.instanceMethod yX5_setLimit, Cond.selects RX5 yX5_setLimit yX5_setLimit, Cond.code yX5_setLimit cX5_setLimit 3 (some .int), Cond.methodLink RL 215 yL_isGhost, Cond.static yL_isGhost, Cond.codeWith yL_isGhost cL_isGhost 4 (some .int) [(0, 16, 19, 21)], Cond.methodLink RL 104 yX4_isGhost, Cond.instanceMethod yX4_isGhost, Cond.selects RX4 yX4_isGhost yX4_isGhost, Cond.code yX4_isGhost cX4_isGhost 2 (some .boolean), Cond.methodLink RX4 184 yX4_isGhostOn, Cond.instanceMethod yX4_isGhostOn, Cond.selects RX4 yX4_isGhostOn yX4_isGhostOn, Cond.code yX4_isGhostOn cX4_isGhostOn 3 (some .boolean), Cond.methodLink RX4 191 yX4_findLastSeen, Cond.instanceMethod yX4_findLastSeen, Cond.selects RX4 yX4_findLastSeen yX4_findLastSeen, Cond.code yX4_findLastSeen cX4_findLastSeen 4 (some .int), Cond.methodLink RX4 245 Lib.Math.max.name, Cond.methodLink RL 217 yX5_isGhost]
def wsL_law0_r32 : List Cond := [Cond.instanceMethod yX5_isGhost, Cond.selects RX5 yX5_isGhost yX5_isGhost, Cond.code yX5_isGhost cX5_isGhost 2 (some .boolean), Cond.methodLink RX5 149 yX5_lastOf, Cond.instanceMethod yX5_lastOf, Cond.selects RX5 yX5_lastOf yX5_lastOf, Cond.code yX5_lastOf cX5_lastOf 4 (some .int), Cond.methodLink RX5 144 Lib.Math.max.name, Cond.methodLink RL 218 yX4_ghosts, Cond.instanceMethod yX4_ghosts, Cond.selects RX4 yX4_ghosts yX4_ghosts, Cond.code yX4_ghosts cX4_ghosts 3 (some .int), Cond.methodLink RL 221 yX5_ghosts, Cond.instanceMethod yX5_ghosts, Cond.selects RX5 yX5_ghosts yX5_ghosts, Cond.code yX5_ghosts cX5_ghosts 3 (some .int), Cond.methodLink RL 222 yX4_nextGhost, Cond.instanceMethod yX4_nextGhost, Cond.selects RX4 yX4_nextGhost yX4_nextGhost, Cond.code yX4_nextGhost cX4_nextGhost 4 (some .int), Cond.methodLink RL 225 yX5_nextGhost, Cond.instanceMethod yX5_nextGhost, Cond.selects RX5 yX5_nextGhost yX5_nextGhost, Cond.code yX5_nextGhost cX5_nextGhost 4 (some .int)]
def wsL_law0_r33 : List Cond := [Cond.methodLink RL 226 yX4_nextGhostByDays, Cond.instanceMethod yX4_nextGhostByDays, Cond.selects RX4 yX4_nextGhostByDays yX4_nextGhostByDays, Cond.code yX4_nextGhostByDays cX4_nextGhostByDays 3 (some .int), Cond.methodLink RX4 194 Lib.Math.min.name, Cond.methodLink RX4 199 yX4_becomesGhostOn, Cond.instanceMethod yX4_becomesGhostOn, Cond.selects RX4 yX4_becomesGhostOn yX4_becomesGhostOn, Cond.code yX4_becomesGhostOn cX4_becomesGhostOn 3 (some .boolean), Cond.methodLink RL 229 yX5_nextGhostByDays, Cond.instanceMethod yX5_nextGhostByDays, Cond.selects RX5 yX5_nextGhostByDays yX5_nextGhostByDays, Cond.code yX5_nextGhostByDays cX5_nextGhostByDays 1 (some .int), Cond.methodLink RX5 152 yX5_nextGhost, Cond.methodLink RL 230 yL_pass, Cond.static yL_pass, Cond.codeWith yL_pass cL_pass 4 (some .int) [(0, 9, 12, 13)], Cond.methodLink RL 108 yX4_pass, Cond.instanceMethod yX4_pass, Cond.selects RX4 yX4_pass yX4_pass, Cond.code yX4_pass cX4_pass 2 (some .int), Cond.methodLink RL 232 yX5_pass, Cond.instanceMethod yX5_pass, Cond.selects RX5 yX5_pass yX5_pass]
def wsL_law0_r34 : List Cond := [Cond.code yX5_pass cX5_pass 2 (some .int), Cond.methodLink RL 233 yX4_today, Cond.instanceMethod yX4_today, Cond.selects RX4 yX4_today yX4_today, Cond.code yX4_today cX4_today 1 (some .int), Cond.methodLink RL 236 yX5_today, Cond.instanceMethod yX5_today, Cond.selects RX5 yX5_today yX5_today, Cond.code yX5_today cX5_today 1 (some .int), Cond.methodLink RL 237 yX4_mark, Cond.instanceMethod yX4_mark, Cond.selects RX4 yX4_mark yX4_mark, Cond.code yX4_mark cX4_mark 6 (some .long), Cond.methodLink RX4 202 yX4_sumMembers, Cond.instanceMethod yX4_sumMembers, Cond.selects RX4 yX4_sumMembers yX4_sumMembers, Cond.code yX4_sumMembers cX4_sumMembers 4 (some .int), Cond.methodLink RL 241 yX5_mark, Cond.instanceMethod yX5_mark, Cond.selects RX5 yX5_mark yX5_mark, Cond.code yX5_mark cX5_mark 9 (some .long)]
def wsL_law0 : List Cond := (wsL_law0_r1 ++ (wsL_law0_r2 ++ (wsL_law0_r3 ++ (wsL_law0_r4 ++ (wsL_law0_r5 ++ (wsL_law0_r6 ++ (wsL_law0_r7 ++ (wsL_law0_r8 ++ (wsL_law0_r9 ++ (wsL_law0_r10 ++ (wsL_law0_r11 ++ (wsL_law0_r12 ++ (wsL_law0_r13 ++ (wsL_law0_r14 ++ (wsL_law0_r15 ++ (wsL_law0_r16 ++ (wsL_law0_r17 ++ (wsL_law0_r18 ++ (wsL_law0_r19 ++ (wsL_law0_r20 ++ (wsL_law0_r21 ++ (wsL_law0_r22 ++ (wsL_law0_r23 ++ (wsL_law0_r24 ++ (wsL_law0_r25 ++ (wsL_law0_r26 ++ (wsL_law0_r27 ++ (wsL_law0_r28 ++ (wsL_law0_r29 ++ (wsL_law0_r30 ++ (wsL_law0_r31 ++ (wsL_law0_r32 ++ (wsL_law0_r33 ++ wsL_law0_r34))))))))))))))))))))))))))))))))) ++ wsX40 ++ wsX50 ++ wsX10 ++ wsX20 ++ wsX30 ++ ([] : List Cond)
end
section
/-! all words in one list -/
def zR : List Cond := wsL_law0_r1 ++ (wsL_law0_r2 ++ (wsL_law0_r3 ++ (wsL_law0_r4 ++ (wsL_law0_r5 ++ (wsL_law0_r6 ++ (wsL_law0_r7 ++ (wsL_law0_r8 ++ (wsL_law0_r9 ++ (wsL_law0_r10 ++ (wsL_law0_r11 ++ (wsL_law0_r12 ++ (wsL_law0_r13 ++ (wsL_law0_r14 ++ (wsL_law0_r15 ++ (wsL_law0_r16 ++ (wsL_law0_r17 ++ (wsL_law0_r18 ++ (wsL_law0_r19 ++ (wsL_law0_r20 ++ (wsL_law0_r21 ++ (wsL_law0_r22 ++ (wsL_law0_r23 ++ (wsL_law0_r24 ++ (wsL_law0_r25 ++ (wsL_law0_r26 ++ (wsL_law0_r27 ++ (wsL_law0_r28 ++ (wsL_law0_r29 ++ (wsL_law0_r30 ++ (wsL_law0_r31 ++ (wsL_law0_r32 ++ (wsL_law0_r33 ++ (wsL_law0_r34)))))))))))))))))))))))))))))))))
def zAll : List Cond := zR ++ (wsX40 ++ (wsX50 ++ (wsX10 ++ (wsX20 ++ wsX30))))
theorem zin_R : ∀ w ∈ zR, w ∈ zAll := fun _ h => List.mem_append_left _ h
theorem zin_X4 : ∀ w ∈ wsX40, w ∈ zAll := fun _ h => List.mem_append_right _ (List.mem_append_left _ h)
theorem zin_X5 : ∀ w ∈ wsX50, w ∈ zAll := fun _ h => List.mem_append_right _ (List.mem_append_right _ (List.mem_append_left _ h))
theorem zin_X1 : ∀ w ∈ wsX10, w ∈ zAll := fun _ h => List.mem_append_right _ (List.mem_append_right _ (List.mem_append_right _ (List.mem_append_left _ h)))
theorem zin_X2 : ∀ w ∈ wsX20, w ∈ zAll := fun _ h => List.mem_append_right _ (List.mem_append_right _ (List.mem_append_right _ (List.mem_append_right _ (List.mem_append_left _ h))))
theorem zin_X3 : ∀ w ∈ wsX30, w ∈ zAll := fun _ h => List.mem_append_right _ (List.mem_append_right _ (List.mem_append_right _ (List.mem_append_right _ (List.mem_append_right _ h))))
theorem zin_r1 : ∀ w ∈ wsL_law0_r1, w ∈ zAll := fun _ h => zin_R _ (List.mem_append_left _ h)
theorem zin_r2 : ∀ w ∈ wsL_law0_r2, w ∈ zAll := fun _ h => zin_R _ (List.mem_append_right _ (List.mem_append_left _ h))
theorem zin_r3 : ∀ w ∈ wsL_law0_r3, w ∈ zAll := fun _ h => zin_R _ (List.mem_append_right _ (List.mem_append_right _ (List.mem_append_left _ h)))
theorem zin_r4 : ∀ w ∈ wsL_law0_r4, w ∈ zAll := fun _ h => zin_R _ (List.mem_append_right _ (List.mem_append_right _ (List.mem_append_right _ (List.mem_append_left _ h))))
theorem zin_r5 : ∀ w ∈ wsL_law0_r5, w ∈ zAll := fun _ h => zin_R _ (List.mem_append_right _ (List.mem_append_right _ (List.mem_append_right _ (List.mem_append_right _ (List.mem_append_left _ h)))))
theorem zin_r6 : ∀ w ∈ wsL_law0_r6, w ∈ zAll := fun _ h => zin_R _ (List.mem_append_right _ (List.mem_append_right _ (List.mem_append_right _ (List.mem_append_right _ (List.mem_append_right _ (List.mem_append_left _ h))))))
theorem zin_r7 : ∀ w ∈ wsL_law0_r7, w ∈ zAll := fun _ h => zin_R _ (List.mem_append_right _ (List.mem_append_right _ (List.mem_append_right _ (List.mem_append_right _ (List.mem_append_right _ (List.mem_append_right _ (List.mem_append_left _ h)))))))
theorem zin_r8 : ∀ w ∈ wsL_law0_r8, w ∈ zAll := fun _ h => zin_R _ (List.mem_append_right _ (List.mem_append_right _ (List.mem_append_right _ (List.mem_append_right _ (List.mem_append_right _ (List.mem_append_right _ (List.mem_append_right _ (List.mem_append_left _ h))))))))
theorem zin_r9 : ∀ w ∈ wsL_law0_r9, w ∈ zAll := fun _ h => zin_R _ (List.mem_append_right _ (List.mem_append_right _ (List.mem_append_right _ (List.mem_append_right _ (List.mem_append_right _ (List.mem_append_right _ (List.mem_append_right _ (List.mem_append_right _ (List.mem_append_left _ h)))))))))
theorem zin_r10 : ∀ w ∈ wsL_law0_r10, w ∈ zAll := fun _ h => zin_R _ (List.mem_append_right _ (List.mem_append_right _ (List.mem_append_right _ (List.mem_append_right _ (List.mem_append_right _ (List.mem_append_right _ (List.mem_append_right _ (List.mem_append_right _ (List.mem_append_right _ (List.mem_append_left _ h))))))))))
theorem zin_r11 : ∀ w ∈ wsL_law0_r11, w ∈ zAll := fun _ h => zin_R _ (List.mem_append_right _ (List.mem_append_right _ (List.mem_append_right _ (List.mem_append_right _ (List.mem_append_right _ (List.mem_append_right _ (List.mem_append_right _ (List.mem_append_right _ (List.mem_append_right _ (List.mem_append_right _ (List.mem_append_left _ h)))))))))))
theorem zin_r12 : ∀ w ∈ wsL_law0_r12, w ∈ zAll := fun _ h => zin_R _ (List.mem_append_right _ (List.mem_append_right _ (List.mem_append_right _ (List.mem_append_right _ (List.mem_append_right _ (List.mem_append_right _ (List.mem_append_right _ (List.mem_append_right _ (List.mem_append_right _ (List.mem_append_right _ (List.mem_append_right _ (List.mem_append_left _ h))))))))))))
theorem zin_r13 : ∀ w ∈ wsL_law0_r13, w ∈ zAll := fun _ h => zin_R _ (List.mem_append_right _ (List.mem_append_right _ (List.mem_append_right _ (List.mem_append_right _ (List.mem_append_right _ (List.mem_append_right _ (List.mem_append_right _ (List.mem_append_right _ (List.mem_append_right _ (List.mem_append_right _ (List.mem_append_right _ (List.mem_append_right _ (List.mem_append_left _ h)))))))))))))
theorem zin_r14 : ∀ w ∈ wsL_law0_r14, w ∈ zAll := fun _ h => zin_R _ (List.mem_append_right _ (List.mem_append_right _ (List.mem_append_right _ (List.mem_append_right _ (List.mem_append_right _ (List.mem_append_right _ (List.mem_append_right _ (List.mem_append_right _ (List.mem_append_right _ (List.mem_append_right _ (List.mem_append_right _ (List.mem_append_right _ (List.mem_append_right _ (List.mem_append_left _ h))))))))))))))
theorem zin_r15 : ∀ w ∈ wsL_law0_r15, w ∈ zAll := fun _ h => zin_R _ (List.mem_append_right _ (List.mem_append_right _ (List.mem_append_right _ (List.mem_append_right _ (List.mem_append_right _ (List.mem_append_right _ (List.mem_append_right _ (List.mem_append_right _ (List.mem_append_right _ (List.mem_append_right _ (List.mem_append_right _ (List.mem_append_right _ (List.mem_append_right _ (List.mem_append_right _ (List.mem_append_left _ h)))))))))))))))
theorem zin_r16 : ∀ w ∈ wsL_law0_r16, w ∈ zAll := fun _ h => zin_R _ (List.mem_append_right _ (List.mem_append_right _ (List.mem_append_right _ (List.mem_append_right _ (List.mem_append_right _ (List.mem_append_right _ (List.mem_append_right _ (List.mem_append_right _ (List.mem_append_right _ (List.mem_append_right _ (List.mem_append_right _ (List.mem_append_right _ (List.mem_append_right _ (List.mem_append_right _ (List.mem_append_right _ (List.mem_append_left _ h))))))))))))))))
theorem zin_r17 : ∀ w ∈ wsL_law0_r17, w ∈ zAll := fun _ h => zin_R _ (List.mem_append_right _ (List.mem_append_right _ (List.mem_append_right _ (List.mem_append_right _ (List.mem_append_right _ (List.mem_append_right _ (List.mem_append_right _ (List.mem_append_right _ (List.mem_append_right _ (List.mem_append_right _ (List.mem_append_right _ (List.mem_append_right _ (List.mem_append_right _ (List.mem_append_right _ (List.mem_append_right _ (List.mem_append_right _ (List.mem_append_left _ h)))))))))))))))))
theorem zin_r18 : ∀ w ∈ wsL_law0_r18, w ∈ zAll := fun _ h => zin_R _ (List.mem_append_right _ (List.mem_append_right _ (List.mem_append_right _ (List.mem_append_right _ (List.mem_append_right _ (List.mem_append_right _ (List.mem_append_right _ (List.mem_append_right _ (List.mem_append_right _ (List.mem_append_right _ (List.mem_append_right _ (List.mem_append_right _ (List.mem_append_right _ (List.mem_append_right _ (List.mem_append_right _ (List.mem_append_right _ (List.mem_append_right _ (List.mem_append_left _ h))))))))))))))))))
theorem zin_r19 : ∀ w ∈ wsL_law0_r19, w ∈ zAll := fun _ h => zin_R _ (List.mem_append_right _ (List.mem_append_right _ (List.mem_append_right _ (List.mem_append_right _ (List.mem_append_right _ (List.mem_append_right _ (List.mem_append_right _ (List.mem_append_right _ (List.mem_append_right _ (List.mem_append_right _ (List.mem_append_right _ (List.mem_append_right _ (List.mem_append_right _ (List.mem_append_right _ (List.mem_append_right _ (List.mem_append_right _ (List.mem_append_right _ (List.mem_append_right _ (List.mem_append_left _ h)))))))))))))))))))
theorem zin_r20 : ∀ w ∈ wsL_law0_r20, w ∈ zAll := fun _ h => zin_R _ (List.mem_append_right _ (List.mem_append_right _ (List.mem_append_right _ (List.mem_append_right _ (List.mem_append_right _ (List.mem_append_right _ (List.mem_append_right _ (List.mem_append_right _ (List.mem_append_right _ (List.mem_append_right _ (List.mem_append_right _ (List.mem_append_right _ (List.mem_append_right _ (List.mem_append_right _ (List.mem_append_right _ (List.mem_append_right _ (List.mem_append_right _ (List.mem_append_right _ (List.mem_append_right _ (List.mem_append_left _ h))))))))))))))))))))
theorem zin_r21 : ∀ w ∈ wsL_law0_r21, w ∈ zAll := fun _ h => zin_R _ (List.mem_append_right _ (List.mem_append_right _ (List.mem_append_right _ (List.mem_append_right _ (List.mem_append_right _ (List.mem_append_right _ (List.mem_append_right _ (List.mem_append_right _ (List.mem_append_right _ (List.mem_append_right _ (List.mem_append_right _ (List.mem_append_right _ (List.mem_append_right _ (List.mem_append_right _ (List.mem_append_right _ (List.mem_append_right _ (List.mem_append_right _ (List.mem_append_right _ (List.mem_append_right _ (List.mem_append_right _ (List.mem_append_left _ h)))))))))))))))))))))
theorem zin_r22 : ∀ w ∈ wsL_law0_r22, w ∈ zAll := fun _ h => zin_R _ (List.mem_append_right _ (List.mem_append_right _ (List.mem_append_right _ (List.mem_append_right _ (List.mem_append_right _ (List.mem_append_right _ (List.mem_append_right _ (List.mem_append_right _ (List.mem_append_right _ (List.mem_append_right _ (List.mem_append_right _ (List.mem_append_right _ (List.mem_append_right _ (List.mem_append_right _ (List.mem_append_right _ (List.mem_append_right _ (List.mem_append_right _ (List.mem_append_right _ (List.mem_append_right _ (List.mem_append_right _ (List.mem_append_right _ (List.mem_append_left _ h))))))))))))))))))))))
theorem zin_r23 : ∀ w ∈ wsL_law0_r23, w ∈ zAll := fun _ h => zin_R _ (List.mem_append_right _ (List.mem_append_right _ (List.mem_append_right _ (List.mem_append_right _ (List.mem_append_right _ (List.mem_append_right _ (List.mem_append_right _ (List.mem_append_right _ (List.mem_append_right _ (List.mem_append_right _ (List.mem_append_right _ (List.mem_append_right _ (List.mem_append_right _ (List.mem_append_right _ (List.mem_append_right _ (List.mem_append_right _ (List.mem_append_right _ (List.mem_append_right _ (List.mem_append_right _ (List.mem_append_right _ (List.mem_append_right _ (List.mem_append_right _ (List.mem_append_left _ h)))))))))))))))))))))))
theorem zin_r24 : ∀ w ∈ wsL_law0_r24, w ∈ zAll := fun _ h => zin_R _ (List.mem_append_right _ (List.mem_append_right _ (List.mem_append_right _ (List.mem_append_right _ (List.mem_append_right _ (List.mem_append_right _ (List.mem_append_right _ (List.mem_append_right _ (List.mem_append_right _ (List.mem_append_right _ (List.mem_append_right _ (List.mem_append_right _ (List.mem_append_right _ (List.mem_append_right _ (List.mem_append_right _ (List.mem_append_right _ (List.mem_append_right _ (List.mem_append_right _ (List.mem_append_right _ (List.mem_append_right _ (List.mem_append_right _ (List.mem_append_right _ (List.mem_append_right _ (List.mem_append_left _ h))))))))))))))))))))))))
theorem zin_r25 : ∀ w ∈ wsL_law0_r25, w ∈ zAll := fun _ h => zin_R _ (List.mem_append_right _ (List.mem_append_right _ (List.mem_append_right _ (List.mem_append_right _ (List.mem_append_right _ (List.mem_append_right _ (List.mem_append_right _ (List.mem_append_right _ (List.mem_append_right _ (List.mem_append_right _ (List.mem_append_right _ (List.mem_append_right _ (List.mem_append_right _ (List.mem_append_right _ (List.mem_append_right _ (List.mem_append_right _ (List.mem_append_right _ (List.mem_append_right _ (List.mem_append_right _ (List.mem_append_right _ (List.mem_append_right _ (List.mem_append_right _ (List.mem_append_right _ (List.mem_append_right _ (List.mem_append_left _ h)))))))))))))))))))))))))
theorem zin_r26 : ∀ w ∈ wsL_law0_r26, w ∈ zAll := fun _ h => zin_R _ (List.mem_append_right _ (List.mem_append_right _ (List.mem_append_right _ (List.mem_append_right _ (List.mem_append_right _ (List.mem_append_right _ (List.mem_append_right _ (List.mem_append_right _ (List.mem_append_right _ (List.mem_append_right _ (List.mem_append_right _ (List.mem_append_right _ (List.mem_append_right _ (List.mem_append_right _ (List.mem_append_right _ (List.mem_append_right _ (List.mem_append_right _ (List.mem_append_right _ (List.mem_append_right _ (List.mem_append_right _ (List.mem_append_right _ (List.mem_append_right _ (List.mem_append_right _ (List.mem_append_right _ (List.mem_append_right _ (List.mem_append_left _ h))))))))))))))))))))))))))
theorem zin_r27 : ∀ w ∈ wsL_law0_r27, w ∈ zAll := fun _ h => zin_R _ (List.mem_append_right _ (List.mem_append_right _ (List.mem_append_right _ (List.mem_append_right _ (List.mem_append_right _ (List.mem_append_right _ (List.mem_append_right _ (List.mem_append_right _ (List.mem_append_right _ (List.mem_append_right _ (List.mem_append_right _ (List.mem_append_right _ (List.mem_append_right _ (List.mem_append_right _ (List.mem_append_right _ (List.mem_append_right _ (List.mem_append_right _ (List.mem_append_right _ (List.mem_append_right _ (List.mem_append_right _ (List.mem_append_right _ (List.mem_append_right _ (List.mem_append_right _ (List.mem_append_right _ (List.mem_append_right _ (List.mem_append_right _ (List.mem_append_left _ h)))))))))))))))))))))))))))
theorem zin_r28 : ∀ w ∈ wsL_law0_r28, w ∈ zAll := fun _ h => zin_R _ (List.mem_append_right _ (List.mem_append_right _ (List.mem_append_right _ (List.mem_append_right _ (List.mem_append_right _ (List.mem_append_right _ (List.mem_append_right _ (List.mem_append_right _ (List.mem_append_right _ (List.mem_append_right _ (List.mem_append_right _ (List.mem_append_right _ (List.mem_append_right _ (List.mem_append_right _ (List.mem_append_right _ (List.mem_append_right _ (List.mem_append_right _ (List.mem_append_right _ (List.mem_append_right _ (List.mem_append_right _ (List.mem_append_right _ (List.mem_append_right _ (List.mem_append_right _ (List.mem_append_right _ (List.mem_append_right _ (List.mem_append_right _ (List.mem_append_right _ (List.mem_append_left _ h))))))))))))))))))))))))))))
theorem zin_r29 : ∀ w ∈ wsL_law0_r29, w ∈ zAll := fun _ h => zin_R _ (List.mem_append_right _ (List.mem_append_right _ (List.mem_append_right _ (List.mem_append_right _ (List.mem_append_right _ (List.mem_append_right _ (List.mem_append_right _ (List.mem_append_right _ (List.mem_append_right _ (List.mem_append_right _ (List.mem_append_right _ (List.mem_append_right _ (List.mem_append_right _ (List.mem_append_right _ (List.mem_append_right _ (List.mem_append_right _ (List.mem_append_right _ (List.mem_append_right _ (List.mem_append_right _ (List.mem_append_right _ (List.mem_append_right _ (List.mem_append_right _ (List.mem_append_right _ (List.mem_append_right _ (List.mem_append_right _ (List.mem_append_right _ (List.mem_append_right _ (List.mem_append_right _ (List.mem_append_left _ h)))))))))))))))))))))))))))))
theorem zin_r30 : ∀ w ∈ wsL_law0_r30, w ∈ zAll := fun _ h => zin_R _ (List.mem_append_right _ (List.mem_append_right _ (List.mem_append_right _ (List.mem_append_right _ (List.mem_append_right _ (List.mem_append_right _ (List.mem_append_right _ (List.mem_append_right _ (List.mem_append_right _ (List.mem_append_right _ (List.mem_append_right _ (List.mem_append_right _ (List.mem_append_right _ (List.mem_append_right _ (List.mem_append_right _ (List.mem_append_right _ (List.mem_append_right _ (List.mem_append_right _ (List.mem_append_right _ (List.mem_append_right _ (List.mem_append_right _ (List.mem_append_right _ (List.mem_append_right _ (List.mem_append_right _ (List.mem_append_right _ (List.mem_append_right _ (List.mem_append_right _ (List.mem_append_right _ (List.mem_append_right _ (List.mem_append_left _ h))))))))))))))))))))))))))))))
theorem zin_r31 : ∀ w ∈ wsL_law0_r31, w ∈ zAll := fun _ h => zin_R _ (List.mem_append_right _ (List.mem_append_right _ (List.mem_append_right _ (List.mem_append_right _ (List.mem_append_right _ (List.mem_append_right _ (List.mem_append_right _ (List.mem_append_right _ (List.mem_append_right _ (List.mem_append_right _ (List.mem_append_right _ (List.mem_append_right _ (List.mem_append_right _ (List.mem_append_right _ (List.mem_append_right _ (List.mem_append_right _ (List.mem_append_right _ (List.mem_append_right _ (List.mem_append_right _ (List.mem_append_right _ (List.mem_append_right _ (List.mem_append_right _ (List.mem_append_right _ (List.mem_append_right _ (List.mem_append_right _ (List.mem_append_right _ (List.mem_append_right _ (List.mem_append_right _ (List.mem_append_right _ (List.mem_append_right _ (List.mem_append_left _ h)))))))))))))))))))))))))))))))
theorem zin_r32 : ∀ w ∈ wsL_law0_r32, w ∈ zAll := fun _ h => zin_R _ (List.mem_append_right _ (List.mem_append_right _ (List.mem_append_right _ (List.mem_append_right _ (List.mem_append_right _ (List.mem_append_right _ (List.mem_append_right _ (List.mem_append_right _ (List.mem_append_right _ (List.mem_append_right _ (List.mem_append_right _ (List.mem_append_right _ (List.mem_append_right _ (List.mem_append_right _ (List.mem_append_right _ (List.mem_append_right _ (List.mem_append_right _ (List.mem_append_right _ (List.mem_append_right _ (List.mem_append_right _ (List.mem_append_right _ (List.mem_append_right _ (List.mem_append_right _ (List.mem_append_right _ (List.mem_append_right _ (List.mem_append_right _ (List.mem_append_right _ (List.mem_append_right _ (List.mem_append_right _ (List.mem_append_right _ (List.mem_append_right _ (List.mem_append_left _ h))))))))))))))))))))))))))))))))
theorem zin_r33 : ∀ w ∈ wsL_law0_r33, w ∈ zAll := fun _ h => zin_R _ (List.mem_append_right _ (List.mem_append_right _ (List.mem_append_right _ (List.mem_append_right _ (List.mem_append_right _ (List.mem_append_right _ (List.mem_append_right _ (List.mem_append_right _ (List.mem_append_right _ (List.mem_append_right _ (List.mem_append_right _ (List.mem_append_right _ (List.mem_append_right _ (List.mem_append_right _ (List.mem_append_right _ (List.mem_append_right _ (List.mem_append_right _ (List.mem_append_right _ (List.mem_append_right _ (List.mem_append_right _ (List.mem_append_right _ (List.mem_append_right _ (List.mem_append_right _ (List.mem_append_right _ (List.mem_append_right _ (List.mem_append_right _ (List.mem_append_right _ (List.mem_append_right _ (List.mem_append_right _ (List.mem_append_right _ (List.mem_append_right _ (List.mem_append_right _ (List.mem_append_left _ h)))))))))))))))))))))))))))))))))
theorem zin_r34 : ∀ w ∈ wsL_law0_r34, w ∈ zAll := fun _ h => zin_R _ (List.mem_append_right _ (List.mem_append_right _ (List.mem_append_right _ (List.mem_append_right _ (List.mem_append_right _ (List.mem_append_right _ (List.mem_append_right _ (List.mem_append_right _ (List.mem_append_right _ (List.mem_append_right _ (List.mem_append_right _ (List.mem_append_right _ (List.mem_append_right _ (List.mem_append_right _ (List.mem_append_right _ (List.mem_append_right _ (List.mem_append_right _ (List.mem_append_right _ (List.mem_append_right _ (List.mem_append_right _ (List.mem_append_right _ (List.mem_append_right _ (List.mem_append_right _ (List.mem_append_right _ (List.mem_append_right _ (List.mem_append_right _ (List.mem_append_right _ (List.mem_append_right _ (List.mem_append_right _ (List.mem_append_right _ (List.mem_append_right _ (List.mem_append_right _ (List.mem_append_right _ h)))))))))))))))))))))))))))))))))
theorem aw_1_0 : Cond.classLink RL 8 RX4 ∈ zAll := zin_r1 _ (List.mem_of_getElem? (i := 0) rfl)
theorem aw_1_1 : Cond.instantiable RX4 6 ∈ zAll := zin_r1 _ (List.mem_of_getElem? (i := 1) rfl)
theorem aw_1_2 : Cond.initialized RX4 ∈ zAll := zin_r1 _ (List.mem_of_getElem? (i := 2) rfl)
theorem aw_1_3 : Cond.classLink RL 112 RX5 ∈ zAll := zin_r1 _ (List.mem_of_getElem? (i := 3) rfl)
theorem aw_1_4 : Cond.instantiable RX5 18 ∈ zAll := zin_r1 _ (List.mem_of_getElem? (i := 4) rfl)
theorem aw_1_5 : Cond.initialized RX5 ∈ zAll := zin_r1 _ (List.mem_of_getElem? (i := 5) rfl)
theorem aw_1_6 : Cond.arrayClass .long ∈ zAll := zin_r1 _ (List.mem_of_getElem? (i := 6) rfl)
theorem aw_1_7 : Cond.arrayClass .double ∈ zAll := zin_r1 _ (List.mem_of_getElem? (i := 7) rfl)
theorem aw_1_8 : Cond.methodLink RL 111 yX4_init ∈ zAll := zin_r1 _ (List.mem_of_getElem? (i := 8) rfl)
theorem aw_1_9 : Cond.instanceMethod yX4_init ∈ zAll := zin_r1 _ (List.mem_of_getElem? (i := 9) rfl)
theorem aw_1_10 : Cond.code yX4_init cX4_init 1 none ∈ zAll := zin_r1 _ (List.mem_of_getElem? (i := 10) rfl)
theorem aw_1_11 : Cond.methodLink RX4 3 objectInit ∈ zAll := zin_r1 _ (List.mem_of_getElem? (i := 11) rfl)
theorem aw_1_12 : Cond.instanceMethod objectInit ∈ zAll := zin_r1 _ (List.mem_of_getElem? (i := 12) rfl)
theorem aw_1_13 : Cond.code objectInit ⟨#[0xb1]⟩ 1 none ∈ zAll := zin_r1 _ (List.mem_of_getElem? (i := 13) rfl)
theorem aw_1_14 : Cond.classLink RX4 9 RX1 ∈ zAll := zin_r1 _ (List.mem_of_getElem? (i := 14) rfl)
theorem aw_1_15 : Cond.instantiable RX1 10 ∈ zAll := zin_r1 _ (List.mem_of_getElem? (i := 15) rfl)
theorem aw_1_16 : Cond.initialized RX1 ∈ zAll := zin_r1 _ (List.mem_of_getElem? (i := 16) rfl)
theorem aw_1_17 : Cond.fieldLink RX4 12 "Assetmerge" "inventory" "LAssetmerge$Inventory;" ∈ zAll := zin_r1 _ (List.mem_of_getElem? (i := 17) rfl)
theorem aw_1_18 : Cond.classLink RX4 16 RX2 ∈ zAll := zin_r1 _ (List.mem_of_getElem? (i := 18) rfl)
theorem aw_1_19 : Cond.instantiable RX2 2 ∈ zAll := zin_r1 _ (List.mem_of_getElem? (i := 19) rfl)
theorem aw_1_20 : Cond.initialized RX2 ∈ zAll := zin_r1 _ (List.mem_of_getElem? (i := 20) rfl)
theorem aw_1_21 : Cond.fieldLink RX4 19 "Assetmerge" "joining" "LAssetmerge$Joining;" ∈ zAll := zin_r1 _ (List.mem_of_getElem? (i := 21) rfl)
theorem aw_1_22 : Cond.classLink RX4 23 RX3 ∈ zAll := zin_r1 _ (List.mem_of_getElem? (i := 22) rfl)
theorem aw_1_23 : Cond.instantiable RX3 2 ∈ zAll := zin_r1 _ (List.mem_of_getElem? (i := 23) rfl)
theorem aw_2_0 : Cond.initialized RX3 ∈ zAll := zin_r2 _ (List.mem_of_getElem? (i := 0) rfl)
theorem aw_2_1 : Cond.fieldLink RX4 26 "Assetmerge" "spreading" "LAssetmerge$Spreading;" ∈ zAll := zin_r2 _ (List.mem_of_getElem? (i := 1) rfl)
theorem aw_2_2 : Cond.arrayClass .int ∈ zAll := zin_r2 _ (List.mem_of_getElem? (i := 2) rfl)
theorem aw_2_3 : Cond.fieldLink RX4 30 "Assetmerge" "order" "[I" ∈ zAll := zin_r2 _ (List.mem_of_getElem? (i := 3) rfl)
theorem aw_2_4 : Cond.fieldLink RX4 34 "Assetmerge" "limit" "I" ∈ zAll := zin_r2 _ (List.mem_of_getElem? (i := 4) rfl)
theorem aw_2_5 : Cond.instanceMethod yX1_init ∈ zAll := zin_r2 _ (List.mem_of_getElem? (i := 5) rfl)
theorem aw_2_6 : Cond.code yX1_init cX1_init 1 none ∈ zAll := zin_r2 _ (List.mem_of_getElem? (i := 6) rfl)
theorem aw_2_7 : Cond.methodLink RX1 3 objectInit ∈ zAll := zin_r2 _ (List.mem_of_getElem? (i := 7) rfl)
theorem aw_2_8 : Cond.fieldLink RX1 9 "Assetmerge$Inventory" "trusts" "[I" ∈ zAll := zin_r2 _ (List.mem_of_getElem? (i := 8) rfl)
theorem aw_2_9 : Cond.fieldLink RX1 15 "Assetmerge$Inventory" "sources" "[I" ∈ zAll := zin_r2 _ (List.mem_of_getElem? (i := 9) rfl)
theorem aw_2_10 : Cond.fieldLink RX1 18 "Assetmerge$Inventory" "seenDays" "[I" ∈ zAll := zin_r2 _ (List.mem_of_getElem? (i := 10) rfl)
theorem aw_2_11 : Cond.classLink RX1 21 "[[I" ∈ zAll := zin_r2 _ (List.mem_of_getElem? (i := 11) rfl)
theorem aw_2_12 : Cond.fieldLink RX1 23 "Assetmerge$Inventory" "keys" "[[I" ∈ zAll := zin_r2 _ (List.mem_of_getElem? (i := 12) rfl)
theorem aw_2_13 : Cond.fieldLink RX1 26 "Assetmerge$Inventory" "facts" "[[I" ∈ zAll := zin_r2 _ (List.mem_of_getElem? (i := 13) rfl)
theorem aw_2_14 : Cond.fieldLink RX1 29 "Assetmerge$Inventory" "forbidden" "[I" ∈ zAll := zin_r2 _ (List.mem_of_getElem? (i := 14) rfl)
theorem aw_2_15 : Cond.instanceMethod yX2_init ∈ zAll := zin_r2 _ (List.mem_of_getElem? (i := 15) rfl)
theorem aw_2_16 : Cond.code yX2_init cX2_init 1 none ∈ zAll := zin_r2 _ (List.mem_of_getElem? (i := 16) rfl)
theorem aw_2_17 : Cond.instanceMethod yX0_init ∈ zAll := zin_r2 _ (List.mem_of_getElem? (i := 17) rfl)
theorem aw_2_18 : Cond.initialized RX0 ∈ zAll := zin_r2 _ (List.mem_of_getElem? (i := 18) rfl)
theorem aw_2_19 : Cond.code yX0_init cX0_init 1 none ∈ zAll := zin_r2 _ (List.mem_of_getElem? (i := 19) rfl)
theorem aw_2_20 : Cond.methodLink RX0 3 objectInit ∈ zAll := zin_r2 _ (List.mem_of_getElem? (i := 20) rfl)
theorem aw_2_21 : Cond.classLink RX0 9 "[[I" ∈ zAll := zin_r2 _ (List.mem_of_getElem? (i := 21) rfl)
theorem aw_2_22 : Cond.fieldLink RX0 11 "Assetmerge$Finder" "groups" "[[I" ∈ zAll := zin_r2 _ (List.mem_of_getElem? (i := 22) rfl)
theorem aw_2_23 : Cond.fieldLink RX0 16 "Assetmerge$Finder" "clusters" "[I" ∈ zAll := zin_r2 _ (List.mem_of_getElem? (i := 23) rfl)
theorem aw_3_0 : Cond.instanceMethod yX3_init ∈ zAll := zin_r3 _ (List.mem_of_getElem? (i := 0) rfl)
theorem aw_3_1 : Cond.code yX3_init cX3_init 1 none ∈ zAll := zin_r3 _ (List.mem_of_getElem? (i := 1) rfl)
theorem aw_3_2 : Cond.methodLink RL 114 yX5_init ∈ zAll := zin_r3 _ (List.mem_of_getElem? (i := 2) rfl)
theorem aw_3_3 : Cond.instanceMethod yX5_init ∈ zAll := zin_r3 _ (List.mem_of_getElem? (i := 3) rfl)
theorem aw_3_4 : Cond.code yX5_init cX5_init 1 none ∈ zAll := zin_r3 _ (List.mem_of_getElem? (i := 4) rfl)
theorem aw_3_5 : Cond.methodLink RX5 1 objectInit ∈ zAll := zin_r3 _ (List.mem_of_getElem? (i := 5) rfl)
theorem aw_3_6 : Cond.fieldLink RX5 9 "AssetmergeModel" "trusts" "[I" ∈ zAll := zin_r3 _ (List.mem_of_getElem? (i := 6) rfl)
theorem aw_3_7 : Cond.fieldLink RX5 13 "AssetmergeModel" "sourceOf" "[I" ∈ zAll := zin_r3 _ (List.mem_of_getElem? (i := 7) rfl)
theorem aw_3_8 : Cond.fieldLink RX5 16 "AssetmergeModel" "seen" "[I" ∈ zAll := zin_r3 _ (List.mem_of_getElem? (i := 8) rfl)
theorem aw_3_9 : Cond.classLink RX5 19 "[[I" ∈ zAll := zin_r3 _ (List.mem_of_getElem? (i := 9) rfl)
theorem aw_3_10 : Cond.fieldLink RX5 21 "AssetmergeModel" "keys" "[[I" ∈ zAll := zin_r3 _ (List.mem_of_getElem? (i := 10) rfl)
theorem aw_3_11 : Cond.fieldLink RX5 24 "AssetmergeModel" "facts" "[[I" ∈ zAll := zin_r3 _ (List.mem_of_getElem? (i := 11) rfl)
theorem aw_3_12 : Cond.arrayClass .boolean ∈ zAll := zin_r3 _ (List.mem_of_getElem? (i := 12) rfl)
theorem aw_3_13 : Cond.fieldLink RX5 27 "AssetmergeModel" "isDropped" "[Z" ∈ zAll := zin_r3 _ (List.mem_of_getElem? (i := 13) rfl)
theorem aw_3_14 : Cond.fieldLink RX5 31 "AssetmergeModel" "ones" "[I" ∈ zAll := zin_r3 _ (List.mem_of_getElem? (i := 14) rfl)
theorem aw_3_15 : Cond.fieldLink RX5 34 "AssetmergeModel" "others" "[I" ∈ zAll := zin_r3 _ (List.mem_of_getElem? (i := 15) rfl)
theorem aw_3_16 : Cond.fieldLink RX5 37 "AssetmergeModel" "limit" "I" ∈ zAll := zin_r3 _ (List.mem_of_getElem? (i := 16) rfl)
theorem aw_3_17 : Cond.fieldLink RX5 41 "AssetmergeModel" "groups" "[I" ∈ zAll := zin_r3 _ (List.mem_of_getElem? (i := 17) rfl)
theorem aw_3_18 : Cond.fieldLink RX5 44 "AssetmergeModel" "clusters" "[I" ∈ zAll := zin_r3 _ (List.mem_of_getElem? (i := 18) rfl)
theorem aw_3_19 : Cond.fieldLink RX5 47 "AssetmergeModel" "without" "I" ∈ zAll := zin_r3 _ (List.mem_of_getElem? (i := 19) rfl)
theorem aw_3_20 : Cond.fieldLink RX5 50 "AssetmergeModel" "freed" "I" ∈ zAll := zin_r3 _ (List.mem_of_getElem? (i := 20) rfl)
theorem aw_3_21 : Cond.methodLink RL 115 yL_addSource ∈ zAll := zin_r3 _ (List.mem_of_getElem? (i := 21) rfl)
theorem aw_3_22 : Cond.static yL_addSource ∈ zAll := zin_r3 _ (List.mem_of_getElem? (i := 22) rfl)
theorem aw_3_23 : Cond.initialized RL ∈ zAll := zin_r3 _ (List.mem_of_getElem? (i := 23) rfl)
theorem aw_4_0 : Cond.codeWith yL_addSource cL_addSource 4 (some .int) [(0, 9, 12, 13), (0, 9, 15, 15)] ∈ zAll := zin_r4 _ (List.mem_of_getElem? (i := 0) rfl)
theorem aw_4_1 : Cond.classLink RL 13 "java/lang/IllegalArgumentException" ∈ zAll := zin_r4 _ (List.mem_of_getElem? (i := 1) rfl)
theorem aw_4_2 : Cond.classLink RL 15 "java/lang/IllegalStateException" ∈ zAll := zin_r4 _ (List.mem_of_getElem? (i := 2) rfl)
theorem aw_4_3 : Cond.methodLink RL 7 yX4_addSource ∈ zAll := zin_r4 _ (List.mem_of_getElem? (i := 3) rfl)
theorem aw_4_4 : Cond.instanceMethod yX4_addSource ∈ zAll := zin_r4 _ (List.mem_of_getElem? (i := 4) rfl)
theorem aw_4_5 : Cond.selects RX4 yX4_addSource yX4_addSource ∈ zAll := zin_r4 _ (List.mem_of_getElem? (i := 5) rfl)
theorem aw_4_6 : Cond.code yX4_addSource cX4_addSource 2 (some .int) ∈ zAll := zin_r4 _ (List.mem_of_getElem? (i := 6) rfl)
theorem aw_4_7 : Cond.classLink RX4 45 "java/lang/IllegalStateException" ∈ zAll := zin_r4 _ (List.mem_of_getElem? (i := 7) rfl)
theorem aw_4_8 : Cond.initialized "java/lang/IllegalStateException" ∈ zAll := zin_r4 _ (List.mem_of_getElem? (i := 8) rfl)
theorem aw_4_9 : Cond.fieldLink RX4 42 "Assetmerge$Inventory" "sourceCount" "I" ∈ zAll := zin_r4 _ (List.mem_of_getElem? (i := 9) rfl)
theorem aw_4_10 : Cond.methodLink RX4 38 yX4_checkRange ∈ zAll := zin_r4 _ (List.mem_of_getElem? (i := 10) rfl)
theorem aw_4_11 : Cond.static yX4_checkRange ∈ zAll := zin_r4 _ (List.mem_of_getElem? (i := 11) rfl)
theorem aw_4_12 : Cond.code yX4_checkRange cX4_checkRange 3 none ∈ zAll := zin_r4 _ (List.mem_of_getElem? (i := 12) rfl)
theorem aw_4_13 : Cond.classLink RX4 219 "java/lang/IllegalArgumentException" ∈ zAll := zin_r4 _ (List.mem_of_getElem? (i := 13) rfl)
theorem aw_4_14 : Cond.initialized "java/lang/IllegalArgumentException" ∈ zAll := zin_r4 _ (List.mem_of_getElem? (i := 14) rfl)
theorem aw_4_15 : Cond.methodLink RX4 52 yX1_putSource ∈ zAll := zin_r4 _ (List.mem_of_getElem? (i := 15) rfl)
theorem aw_4_16 : Cond.instanceMethod yX1_putSource ∈ zAll := zin_r4 _ (List.mem_of_getElem? (i := 16) rfl)
theorem aw_4_17 : Cond.selects RX1 yX1_putSource yX1_putSource ∈ zAll := zin_r4 _ (List.mem_of_getElem? (i := 17) rfl)
theorem aw_4_18 : Cond.code yX1_putSource cX1_putSource 3 (some .int) ∈ zAll := zin_r4 _ (List.mem_of_getElem? (i := 18) rfl)
theorem aw_4_19 : Cond.fieldLink RX1 32 "Assetmerge$Inventory" "sourceCount" "I" ∈ zAll := zin_r4 _ (List.mem_of_getElem? (i := 19) rfl)
theorem aw_4_20 : Cond.methodLink RL 120 yX5_addSource ∈ zAll := zin_r4 _ (List.mem_of_getElem? (i := 20) rfl)
theorem aw_4_21 : Cond.instanceMethod yX5_addSource ∈ zAll := zin_r4 _ (List.mem_of_getElem? (i := 21) rfl)
theorem aw_4_22 : Cond.selects RX5 yX5_addSource yX5_addSource ∈ zAll := zin_r4 _ (List.mem_of_getElem? (i := 22) rfl)
theorem aw_4_23 : Cond.code yX5_addSource cX5_addSource 2 (some .int) ∈ zAll := zin_r4 _ (List.mem_of_getElem? (i := 23) rfl)
theorem aw_5_0 : Cond.fieldLink RX5 67 "AssetmergeModel" "sources" "I" ∈ zAll := zin_r5 _ (List.mem_of_getElem? (i := 0) rfl)
theorem aw_5_1 : Cond.fieldLink RX5 53 "AssetmergeModel" "thrown" "I" ∈ zAll := zin_r5 _ (List.mem_of_getElem? (i := 1) rfl)
theorem aw_5_2 : Cond.methodLink RX5 59 yX5_in ∈ zAll := zin_r5 _ (List.mem_of_getElem? (i := 2) rfl)
theorem aw_5_3 : Cond.static yX5_in ∈ zAll := zin_r5 _ (List.mem_of_getElem? (i := 3) rfl)
theorem aw_5_4 : Cond.code yX5_in cX5_in 3 (some .boolean) ∈ zAll := zin_r5 _ (List.mem_of_getElem? (i := 4) rfl)
theorem aw_5_5 : Cond.methodLink RL 121 yX5_thrown ∈ zAll := zin_r5 _ (List.mem_of_getElem? (i := 5) rfl)
theorem aw_5_6 : Cond.instanceMethod yX5_thrown ∈ zAll := zin_r5 _ (List.mem_of_getElem? (i := 6) rfl)
theorem aw_5_7 : Cond.selects RX5 yX5_thrown yX5_thrown ∈ zAll := zin_r5 _ (List.mem_of_getElem? (i := 7) rfl)
theorem aw_5_8 : Cond.code yX5_thrown cX5_thrown 1 (some .int) ∈ zAll := zin_r5 _ (List.mem_of_getElem? (i := 8) rfl)
theorem aw_5_9 : Cond.methodLink RL 125 yL_setTrust ∈ zAll := zin_r5 _ (List.mem_of_getElem? (i := 9) rfl)
theorem aw_5_10 : Cond.static yL_setTrust ∈ zAll := zin_r5 _ (List.mem_of_getElem? (i := 10) rfl)
theorem aw_5_11 : Cond.codeWith yL_setTrust cL_setTrust 5 (some .int) [(0, 10, 13, 21), (0, 10, 17, 13)] ∈ zAll := zin_r5 _ (List.mem_of_getElem? (i := 11) rfl)
theorem aw_5_12 : Cond.classLink RL 21 "java/lang/IndexOutOfBoundsException" ∈ zAll := zin_r5 _ (List.mem_of_getElem? (i := 12) rfl)
theorem aw_5_13 : Cond.methodLink RL 17 yX4_setTrust ∈ zAll := zin_r5 _ (List.mem_of_getElem? (i := 13) rfl)
theorem aw_5_14 : Cond.instanceMethod yX4_setTrust ∈ zAll := zin_r5 _ (List.mem_of_getElem? (i := 14) rfl)
theorem aw_5_15 : Cond.selects RX4 yX4_setTrust yX4_setTrust ∈ zAll := zin_r5 _ (List.mem_of_getElem? (i := 15) rfl)
theorem aw_5_16 : Cond.code yX4_setTrust cX4_setTrust 4 (some .int) ∈ zAll := zin_r5 _ (List.mem_of_getElem? (i := 16) rfl)
theorem aw_5_17 : Cond.fieldLink RX4 60 "Assetmerge$Inventory" "trusts" "[I" ∈ zAll := zin_r5 _ (List.mem_of_getElem? (i := 17) rfl)
theorem aw_5_18 : Cond.methodLink RX4 56 yX4_checkSource ∈ zAll := zin_r5 _ (List.mem_of_getElem? (i := 18) rfl)
theorem aw_5_19 : Cond.instanceMethod yX4_checkSource ∈ zAll := zin_r5 _ (List.mem_of_getElem? (i := 19) rfl)
theorem aw_5_20 : Cond.selects RX4 yX4_checkSource yX4_checkSource ∈ zAll := zin_r5 _ (List.mem_of_getElem? (i := 20) rfl)
theorem aw_5_21 : Cond.code yX4_checkSource cX4_checkSource 2 none ∈ zAll := zin_r5 _ (List.mem_of_getElem? (i := 21) rfl)
theorem aw_5_22 : Cond.classLink RX4 205 "java/lang/IndexOutOfBoundsException" ∈ zAll := zin_r5 _ (List.mem_of_getElem? (i := 22) rfl)
theorem aw_5_23 : Cond.initialized "java/lang/IndexOutOfBoundsException" ∈ zAll := zin_r5 _ (List.mem_of_getElem? (i := 23) rfl)
theorem aw_6_0 : Cond.methodLink RL 128 yX5_setTrust ∈ zAll := zin_r6 _ (List.mem_of_getElem? (i := 0) rfl)
theorem aw_6_1 : Cond.instanceMethod yX5_setTrust ∈ zAll := zin_r6 _ (List.mem_of_getElem? (i := 1) rfl)
theorem aw_6_2 : Cond.selects RX5 yX5_setTrust yX5_setTrust ∈ zAll := zin_r6 _ (List.mem_of_getElem? (i := 2) rfl)
theorem aw_6_3 : Cond.code yX5_setTrust cX5_setTrust 4 (some .int) ∈ zAll := zin_r6 _ (List.mem_of_getElem? (i := 3) rfl)
theorem aw_6_4 : Cond.methodLink RL 129 yL_addRecord ∈ zAll := zin_r6 _ (List.mem_of_getElem? (i := 4) rfl)
theorem aw_6_5 : Cond.static yL_addRecord ∈ zAll := zin_r6 _ (List.mem_of_getElem? (i := 5) rfl)
theorem aw_6_6 : Cond.codeWith yL_addRecord cL_addRecord 7 (some .int) [(0, 14, 17, 21), (0, 14, 21, 13), (0, 14, 25, 15)] ∈ zAll := zin_r6 _ (List.mem_of_getElem? (i := 6) rfl)
theorem aw_6_7 : Cond.methodLink RL 23 yX4_addRecord ∈ zAll := zin_r6 _ (List.mem_of_getElem? (i := 7) rfl)
theorem aw_6_8 : Cond.instanceMethod yX4_addRecord ∈ zAll := zin_r6 _ (List.mem_of_getElem? (i := 8) rfl)
theorem aw_6_9 : Cond.selects RX4 yX4_addRecord yX4_addRecord ∈ zAll := zin_r6 _ (List.mem_of_getElem? (i := 9) rfl)
theorem aw_6_10 : Cond.code yX4_addRecord cX4_addRecord 6 (some .int) ∈ zAll := zin_r6 _ (List.mem_of_getElem? (i := 10) rfl)
theorem aw_6_11 : Cond.fieldLink RX4 63 "Assetmerge$Inventory" "recordCount" "I" ∈ zAll := zin_r6 _ (List.mem_of_getElem? (i := 11) rfl)
theorem aw_6_12 : Cond.fieldLink RX4 68 "Assetmerge" "day" "I" ∈ zAll := zin_r6 _ (List.mem_of_getElem? (i := 12) rfl)
theorem aw_6_13 : Cond.fieldLink RX4 75 "Assetmerge$Inventory" "keys" "[[I" ∈ zAll := zin_r6 _ (List.mem_of_getElem? (i := 13) rfl)
theorem aw_6_14 : Cond.methodLink RX4 71 yX1_putRecord ∈ zAll := zin_r6 _ (List.mem_of_getElem? (i := 14) rfl)
theorem aw_6_15 : Cond.instanceMethod yX1_putRecord ∈ zAll := zin_r6 _ (List.mem_of_getElem? (i := 15) rfl)
theorem aw_6_16 : Cond.selects RX1 yX1_putRecord yX1_putRecord ∈ zAll := zin_r6 _ (List.mem_of_getElem? (i := 16) rfl)
theorem aw_6_17 : Cond.code yX1_putRecord cX1_putRecord 5 (some .int) ∈ zAll := zin_r6 _ (List.mem_of_getElem? (i := 17) rfl)
theorem aw_6_18 : Cond.fieldLink RX1 36 "Assetmerge$Inventory" "recordCount" "I" ∈ zAll := zin_r6 _ (List.mem_of_getElem? (i := 18) rfl)
theorem aw_6_19 : Cond.methodLink RX1 39 yX1_unhide ∈ zAll := zin_r6 _ (List.mem_of_getElem? (i := 19) rfl)
theorem aw_6_20 : Cond.instanceMethod yX1_unhide ∈ zAll := zin_r6 _ (List.mem_of_getElem? (i := 20) rfl)
theorem aw_6_21 : Cond.selects RX1 yX1_unhide yX1_unhide ∈ zAll := zin_r6 _ (List.mem_of_getElem? (i := 21) rfl)
theorem aw_6_22 : Cond.code yX1_unhide cX1_unhide 2 none ∈ zAll := zin_r6 _ (List.mem_of_getElem? (i := 22) rfl)
theorem aw_6_23 : Cond.fieldLink RX1 43 "Assetmerge$Inventory" "live" "I" ∈ zAll := zin_r6 _ (List.mem_of_getElem? (i := 23) rfl)
theorem aw_7_0 : Cond.methodLink RL 132 yX5_addRecord ∈ zAll := zin_r7 _ (List.mem_of_getElem? (i := 0) rfl)
theorem aw_7_1 : Cond.instanceMethod yX5_addRecord ∈ zAll := zin_r7 _ (List.mem_of_getElem? (i := 1) rfl)
theorem aw_7_2 : Cond.selects RX5 yX5_addRecord yX5_addRecord ∈ zAll := zin_r7 _ (List.mem_of_getElem? (i := 2) rfl)
theorem aw_7_3 : Cond.code yX5_addRecord cX5_addRecord 7 (some .int) ∈ zAll := zin_r7 _ (List.mem_of_getElem? (i := 3) rfl)
theorem aw_7_4 : Cond.fieldLink RX5 56 "AssetmergeModel" "records" "I" ∈ zAll := zin_r7 _ (List.mem_of_getElem? (i := 4) rfl)
theorem aw_7_5 : Cond.fieldLink RX5 73 "AssetmergeModel" "today" "I" ∈ zAll := zin_r7 _ (List.mem_of_getElem? (i := 5) rfl)
theorem aw_7_6 : Cond.methodLink RX5 70 yX5_isKey ∈ zAll := zin_r7 _ (List.mem_of_getElem? (i := 6) rfl)
theorem aw_7_7 : Cond.static yX5_isKey ∈ zAll := zin_r7 _ (List.mem_of_getElem? (i := 7) rfl)
theorem aw_7_8 : Cond.code yX5_isKey cX5_isKey 1 (some .boolean) ∈ zAll := zin_r7 _ (List.mem_of_getElem? (i := 8) rfl)
theorem aw_7_9 : Cond.methodLink RL 133 yL_setKey ∈ zAll := zin_r7 _ (List.mem_of_getElem? (i := 9) rfl)
theorem aw_7_10 : Cond.static yL_setKey ∈ zAll := zin_r7 _ (List.mem_of_getElem? (i := 10) rfl)
theorem aw_7_11 : Cond.codeWith yL_setKey cL_setKey 6 (some .int) [(0, 12, 15, 21), (0, 12, 19, 13)] ∈ zAll := zin_r7 _ (List.mem_of_getElem? (i := 11) rfl)
theorem aw_7_12 : Cond.methodLink RL 27 yX4_setKey ∈ zAll := zin_r7 _ (List.mem_of_getElem? (i := 12) rfl)
theorem aw_7_13 : Cond.instanceMethod yX4_setKey ∈ zAll := zin_r7 _ (List.mem_of_getElem? (i := 13) rfl)
theorem aw_7_14 : Cond.selects RX4 yX4_setKey yX4_setKey ∈ zAll := zin_r7 _ (List.mem_of_getElem? (i := 14) rfl)
theorem aw_7_15 : Cond.code yX4_setKey cX4_setKey 5 (some .int) ∈ zAll := zin_r7 _ (List.mem_of_getElem? (i := 15) rfl)
theorem aw_7_16 : Cond.methodLink RX4 79 yX4_checkRecord ∈ zAll := zin_r7 _ (List.mem_of_getElem? (i := 16) rfl)
theorem aw_7_17 : Cond.instanceMethod yX4_checkRecord ∈ zAll := zin_r7 _ (List.mem_of_getElem? (i := 17) rfl)
theorem aw_7_18 : Cond.selects RX4 yX4_checkRecord yX4_checkRecord ∈ zAll := zin_r7 _ (List.mem_of_getElem? (i := 18) rfl)
theorem aw_7_19 : Cond.code yX4_checkRecord cX4_checkRecord 2 none ∈ zAll := zin_r7 _ (List.mem_of_getElem? (i := 19) rfl)
theorem aw_7_20 : Cond.methodLink RX4 210 yX1_holds ∈ zAll := zin_r7 _ (List.mem_of_getElem? (i := 20) rfl)
theorem aw_7_21 : Cond.instanceMethod yX1_holds ∈ zAll := zin_r7 _ (List.mem_of_getElem? (i := 21) rfl)
theorem aw_7_22 : Cond.selects RX1 yX1_holds yX1_holds ∈ zAll := zin_r7 _ (List.mem_of_getElem? (i := 22) rfl)
theorem aw_7_23 : Cond.code yX1_holds cX1_holds 2 (some .boolean) ∈ zAll := zin_r7 _ (List.mem_of_getElem? (i := 23) rfl)
theorem aw_8_0 : Cond.methodLink RX1 46 yX1_isIn ∈ zAll := zin_r8 _ (List.mem_of_getElem? (i := 0) rfl)
theorem aw_8_1 : Cond.static yX1_isIn ∈ zAll := zin_r8 _ (List.mem_of_getElem? (i := 1) rfl)
theorem aw_8_2 : Cond.code yX1_isIn cX1_isIn 2 (some .boolean) ∈ zAll := zin_r8 _ (List.mem_of_getElem? (i := 2) rfl)
theorem aw_8_3 : Cond.methodLink RX4 82 yX4_checkKind ∈ zAll := zin_r8 _ (List.mem_of_getElem? (i := 3) rfl)
theorem aw_8_4 : Cond.static yX4_checkKind ∈ zAll := zin_r8 _ (List.mem_of_getElem? (i := 4) rfl)
theorem aw_8_5 : Cond.code yX4_checkKind cX4_checkKind 1 none ∈ zAll := zin_r8 _ (List.mem_of_getElem? (i := 5) rfl)
theorem aw_8_6 : Cond.methodLink RL 136 yX5_setKey ∈ zAll := zin_r8 _ (List.mem_of_getElem? (i := 6) rfl)
theorem aw_8_7 : Cond.instanceMethod yX5_setKey ∈ zAll := zin_r8 _ (List.mem_of_getElem? (i := 7) rfl)
theorem aw_8_8 : Cond.selects RX5 yX5_setKey yX5_setKey ∈ zAll := zin_r8 _ (List.mem_of_getElem? (i := 8) rfl)
theorem aw_8_9 : Cond.code yX5_setKey cX5_setKey 5 (some .int) ∈ zAll := zin_r8 _ (List.mem_of_getElem? (i := 9) rfl)
theorem aw_8_10 : Cond.methodLink RX5 63 yX5_isRecord ∈ zAll := zin_r8 _ (List.mem_of_getElem? (i := 10) rfl)
theorem aw_8_11 : Cond.instanceMethod yX5_isRecord ∈ zAll := zin_r8 _ (List.mem_of_getElem? (i := 11) rfl)
theorem aw_8_12 : Cond.selects RX5 yX5_isRecord yX5_isRecord ∈ zAll := zin_r8 _ (List.mem_of_getElem? (i := 12) rfl)
theorem aw_8_13 : Cond.code yX5_isRecord cX5_isRecord 2 (some .boolean) ∈ zAll := zin_r8 _ (List.mem_of_getElem? (i := 13) rfl)
theorem aw_8_14 : Cond.methodLink RL 137 yL_setFact ∈ zAll := zin_r8 _ (List.mem_of_getElem? (i := 14) rfl)
theorem aw_8_15 : Cond.static yL_setFact ∈ zAll := zin_r8 _ (List.mem_of_getElem? (i := 15) rfl)
theorem aw_8_16 : Cond.codeWith yL_setFact cL_setFact 6 (some .int) [(0, 12, 15, 21), (0, 12, 19, 13)] ∈ zAll := zin_r8 _ (List.mem_of_getElem? (i := 16) rfl)
theorem aw_8_17 : Cond.methodLink RL 31 yX4_setFact ∈ zAll := zin_r8 _ (List.mem_of_getElem? (i := 17) rfl)
theorem aw_8_18 : Cond.instanceMethod yX4_setFact ∈ zAll := zin_r8 _ (List.mem_of_getElem? (i := 18) rfl)
theorem aw_8_19 : Cond.selects RX4 yX4_setFact yX4_setFact ∈ zAll := zin_r8 _ (List.mem_of_getElem? (i := 19) rfl)
theorem aw_8_20 : Cond.code yX4_setFact cX4_setFact 5 (some .int) ∈ zAll := zin_r8 _ (List.mem_of_getElem? (i := 20) rfl)
theorem aw_8_21 : Cond.fieldLink RX4 88 "Assetmerge$Inventory" "facts" "[[I" ∈ zAll := zin_r8 _ (List.mem_of_getElem? (i := 21) rfl)
theorem aw_8_22 : Cond.methodLink RX4 85 yX4_checkField ∈ zAll := zin_r8 _ (List.mem_of_getElem? (i := 22) rfl)
theorem aw_8_23 : Cond.static yX4_checkField ∈ zAll := zin_r8 _ (List.mem_of_getElem? (i := 23) rfl)
theorem aw_9_0 : Cond.code yX4_checkField cX4_checkField 1 none ∈ zAll := zin_r9 _ (List.mem_of_getElem? (i := 0) rfl)
theorem aw_9_1 : Cond.methodLink RL 139 yX5_setFact ∈ zAll := zin_r9 _ (List.mem_of_getElem? (i := 1) rfl)
theorem aw_9_2 : Cond.instanceMethod yX5_setFact ∈ zAll := zin_r9 _ (List.mem_of_getElem? (i := 2) rfl)
theorem aw_9_3 : Cond.selects RX5 yX5_setFact yX5_setFact ∈ zAll := zin_r9 _ (List.mem_of_getElem? (i := 3) rfl)
theorem aw_9_4 : Cond.code yX5_setFact cX5_setFact 5 (some .int) ∈ zAll := zin_r9 _ (List.mem_of_getElem? (i := 4) rfl)
theorem aw_9_5 : Cond.methodLink RL 140 yL_see ∈ zAll := zin_r9 _ (List.mem_of_getElem? (i := 5) rfl)
theorem aw_9_6 : Cond.static yL_see ∈ zAll := zin_r9 _ (List.mem_of_getElem? (i := 6) rfl)
theorem aw_9_7 : Cond.codeWith yL_see cL_see 4 (some .int) [(0, 9, 12, 21)] ∈ zAll := zin_r9 _ (List.mem_of_getElem? (i := 7) rfl)
theorem aw_9_8 : Cond.methodLink RL 34 yX4_see ∈ zAll := zin_r9 _ (List.mem_of_getElem? (i := 8) rfl)
theorem aw_9_9 : Cond.instanceMethod yX4_see ∈ zAll := zin_r9 _ (List.mem_of_getElem? (i := 9) rfl)
theorem aw_9_10 : Cond.selects RX4 yX4_see yX4_see ∈ zAll := zin_r9 _ (List.mem_of_getElem? (i := 10) rfl)
theorem aw_9_11 : Cond.code yX4_see cX4_see 3 (some .int) ∈ zAll := zin_r9 _ (List.mem_of_getElem? (i := 11) rfl)
theorem aw_9_12 : Cond.fieldLink RX4 91 "Assetmerge$Inventory" "seenDays" "[I" ∈ zAll := zin_r9 _ (List.mem_of_getElem? (i := 12) rfl)
theorem aw_9_13 : Cond.methodLink RL 142 yX5_see ∈ zAll := zin_r9 _ (List.mem_of_getElem? (i := 13) rfl)
theorem aw_9_14 : Cond.instanceMethod yX5_see ∈ zAll := zin_r9 _ (List.mem_of_getElem? (i := 14) rfl)
theorem aw_9_15 : Cond.selects RX5 yX5_see yX5_see ∈ zAll := zin_r9 _ (List.mem_of_getElem? (i := 15) rfl)
theorem aw_9_16 : Cond.code yX5_see cX5_see 3 (some .int) ∈ zAll := zin_r9 _ (List.mem_of_getElem? (i := 16) rfl)
theorem aw_9_17 : Cond.methodLink RX5 76 yX5_lacks ∈ zAll := zin_r9 _ (List.mem_of_getElem? (i := 17) rfl)
theorem aw_9_18 : Cond.instanceMethod yX5_lacks ∈ zAll := zin_r9 _ (List.mem_of_getElem? (i := 18) rfl)
theorem aw_9_19 : Cond.selects RX5 yX5_lacks yX5_lacks ∈ zAll := zin_r9 _ (List.mem_of_getElem? (i := 19) rfl)
theorem aw_9_20 : Cond.code yX5_lacks cX5_lacks 2 (some .boolean) ∈ zAll := zin_r9 _ (List.mem_of_getElem? (i := 20) rfl)
theorem aw_9_21 : Cond.methodLink RL 143 yL_drop ∈ zAll := zin_r9 _ (List.mem_of_getElem? (i := 21) rfl)
theorem aw_9_22 : Cond.static yL_drop ∈ zAll := zin_r9 _ (List.mem_of_getElem? (i := 22) rfl)
theorem aw_9_23 : Cond.codeWith yL_drop cL_drop 4 (some .int) [(0, 9, 12, 21)] ∈ zAll := zin_r9 _ (List.mem_of_getElem? (i := 23) rfl)
theorem aw_10_0 : Cond.methodLink RL 37 yX4_drop ∈ zAll := zin_r10 _ (List.mem_of_getElem? (i := 0) rfl)
theorem aw_10_1 : Cond.instanceMethod yX4_drop ∈ zAll := zin_r10 _ (List.mem_of_getElem? (i := 1) rfl)
theorem aw_10_2 : Cond.selects RX4 yX4_drop yX4_drop ∈ zAll := zin_r10 _ (List.mem_of_getElem? (i := 2) rfl)
theorem aw_10_3 : Cond.code yX4_drop cX4_drop 2 (some .int) ∈ zAll := zin_r10 _ (List.mem_of_getElem? (i := 3) rfl)
theorem aw_10_4 : Cond.methodLink RX4 94 yX1_hide ∈ zAll := zin_r10 _ (List.mem_of_getElem? (i := 4) rfl)
theorem aw_10_5 : Cond.instanceMethod yX1_hide ∈ zAll := zin_r10 _ (List.mem_of_getElem? (i := 5) rfl)
theorem aw_10_6 : Cond.selects RX1 yX1_hide yX1_hide ∈ zAll := zin_r10 _ (List.mem_of_getElem? (i := 6) rfl)
theorem aw_10_7 : Cond.code yX1_hide cX1_hide 2 none ∈ zAll := zin_r10 _ (List.mem_of_getElem? (i := 7) rfl)
theorem aw_10_8 : Cond.methodLink RX4 97 yX1_countRecords ∈ zAll := zin_r10 _ (List.mem_of_getElem? (i := 8) rfl)
theorem aw_10_9 : Cond.instanceMethod yX1_countRecords ∈ zAll := zin_r10 _ (List.mem_of_getElem? (i := 9) rfl)
theorem aw_10_10 : Cond.selects RX1 yX1_countRecords yX1_countRecords ∈ zAll := zin_r10 _ (List.mem_of_getElem? (i := 10) rfl)
theorem aw_10_11 : Cond.code yX1_countRecords cX1_countRecords 1 (some .int) ∈ zAll := zin_r10 _ (List.mem_of_getElem? (i := 11) rfl)
theorem aw_10_12 : Cond.methodLink RX1 50 yJ6_bitCount_0f7a4 ∈ zAll := zin_r10 _ (List.mem_of_getElem? (i := 12) rfl)
theorem aw_10_13 : Cond.static yJ6_bitCount_0f7a4 ∈ zAll := zin_r10 _ (List.mem_of_getElem? (i := 13) rfl)
theorem aw_10_14 : Cond.initialized RJ6 ∈ zAll := zin_r10 _ (List.mem_of_getElem? (i := 14) rfl)
theorem aw_10_15 : Cond.code yJ6_bitCount_0f7a4 cJ6_bitCount_0f7a4 1 (some .int) ∈ zAll := zin_r10 _ (List.mem_of_getElem? (i := 15) rfl)
theorem aw_10_16 : Cond.constant RJ6 265 (1431655765) ∈ zAll := zin_r10 _ (List.mem_of_getElem? (i := 16) rfl)
theorem aw_10_17 : Cond.constant RJ6 266 (858993459) ∈ zAll := zin_r10 _ (List.mem_of_getElem? (i := 17) rfl)
theorem aw_10_18 : Cond.constant RJ6 267 (252645135) ∈ zAll := zin_r10 _ (List.mem_of_getElem? (i := 18) rfl)
theorem aw_10_19 : Cond.methodLink RL 145 yX5_drop ∈ zAll := zin_r10 _ (List.mem_of_getElem? (i := 19) rfl)
theorem aw_10_20 : Cond.instanceMethod yX5_drop ∈ zAll := zin_r10 _ (List.mem_of_getElem? (i := 20) rfl)
theorem aw_10_21 : Cond.selects RX5 yX5_drop yX5_drop ∈ zAll := zin_r10 _ (List.mem_of_getElem? (i := 21) rfl)
theorem aw_10_22 : Cond.code yX5_drop cX5_drop 2 (some .int) ∈ zAll := zin_r10 _ (List.mem_of_getElem? (i := 22) rfl)
theorem aw_10_23 : Cond.methodLink RX5 79 yX5_left ∈ zAll := zin_r10 _ (List.mem_of_getElem? (i := 23) rfl)
theorem aw_11_0 : Cond.instanceMethod yX5_left ∈ zAll := zin_r11 _ (List.mem_of_getElem? (i := 0) rfl)
theorem aw_11_1 : Cond.selects RX5 yX5_left yX5_left ∈ zAll := zin_r11 _ (List.mem_of_getElem? (i := 1) rfl)
theorem aw_11_2 : Cond.code yX5_left cX5_left 3 (some .int) ∈ zAll := zin_r11 _ (List.mem_of_getElem? (i := 2) rfl)
theorem aw_11_3 : Cond.methodLink RL 146 yL_forbid ∈ zAll := zin_r11 _ (List.mem_of_getElem? (i := 3) rfl)
theorem aw_11_4 : Cond.static yL_forbid ∈ zAll := zin_r11 _ (List.mem_of_getElem? (i := 4) rfl)
theorem aw_11_5 : Cond.codeWith yL_forbid cL_forbid 5 (some .int) [(0, 10, 13, 21), (0, 10, 17, 13), (0, 10, 21, 15)] ∈ zAll := zin_r11 _ (List.mem_of_getElem? (i := 5) rfl)
theorem aw_11_6 : Cond.methodLink RL 40 yX4_forbid ∈ zAll := zin_r11 _ (List.mem_of_getElem? (i := 6) rfl)
theorem aw_11_7 : Cond.instanceMethod yX4_forbid ∈ zAll := zin_r11 _ (List.mem_of_getElem? (i := 7) rfl)
theorem aw_11_8 : Cond.selects RX4 yX4_forbid yX4_forbid ∈ zAll := zin_r11 _ (List.mem_of_getElem? (i := 8) rfl)
theorem aw_11_9 : Cond.code yX4_forbid cX4_forbid 3 (some .int) ∈ zAll := zin_r11 _ (List.mem_of_getElem? (i := 9) rfl)
theorem aw_11_10 : Cond.fieldLink RX4 111 "Assetmerge$Inventory" "pairCount" "I" ∈ zAll := zin_r11 _ (List.mem_of_getElem? (i := 10) rfl)
theorem aw_11_11 : Cond.methodLink RX4 101 yX4_checkDifferent ∈ zAll := zin_r11 _ (List.mem_of_getElem? (i := 11) rfl)
theorem aw_11_12 : Cond.static yX4_checkDifferent ∈ zAll := zin_r11 _ (List.mem_of_getElem? (i := 12) rfl)
theorem aw_11_13 : Cond.code yX4_checkDifferent cX4_checkDifferent 2 none ∈ zAll := zin_r11 _ (List.mem_of_getElem? (i := 13) rfl)
theorem aw_11_14 : Cond.methodLink RX4 105 yX1_isForbidden ∈ zAll := zin_r11 _ (List.mem_of_getElem? (i := 14) rfl)
theorem aw_11_15 : Cond.instanceMethod yX1_isForbidden ∈ zAll := zin_r11 _ (List.mem_of_getElem? (i := 15) rfl)
theorem aw_11_16 : Cond.selects RX1 yX1_isForbidden yX1_isForbidden ∈ zAll := zin_r11 _ (List.mem_of_getElem? (i := 16) rfl)
theorem aw_11_17 : Cond.code yX1_isForbidden cX1_isForbidden 3 (some .boolean) ∈ zAll := zin_r11 _ (List.mem_of_getElem? (i := 17) rfl)
theorem aw_11_18 : Cond.methodLink RX4 116 yX1_part ∈ zAll := zin_r11 _ (List.mem_of_getElem? (i := 18) rfl)
theorem aw_11_19 : Cond.instanceMethod yX1_part ∈ zAll := zin_r11 _ (List.mem_of_getElem? (i := 19) rfl)
theorem aw_11_20 : Cond.selects RX1 yX1_part yX1_part ∈ zAll := zin_r11 _ (List.mem_of_getElem? (i := 20) rfl)
theorem aw_11_21 : Cond.code yX1_part cX1_part 3 none ∈ zAll := zin_r11 _ (List.mem_of_getElem? (i := 21) rfl)
theorem aw_11_22 : Cond.methodLink RX4 119 yX1_countPairs ∈ zAll := zin_r11 _ (List.mem_of_getElem? (i := 22) rfl)
theorem aw_11_23 : Cond.instanceMethod yX1_countPairs ∈ zAll := zin_r11 _ (List.mem_of_getElem? (i := 23) rfl)
theorem aw_12_0 : Cond.selects RX1 yX1_countPairs yX1_countPairs ∈ zAll := zin_r12 _ (List.mem_of_getElem? (i := 0) rfl)
theorem aw_12_1 : Cond.code yX1_countPairs cX1_countPairs 3 (some .int) ∈ zAll := zin_r12 _ (List.mem_of_getElem? (i := 1) rfl)
theorem aw_12_2 : Cond.methodLink RX1 56 yX1_holds ∈ zAll := zin_r12 _ (List.mem_of_getElem? (i := 2) rfl)
theorem aw_12_3 : Cond.methodLink RL 148 yX5_forbid ∈ zAll := zin_r12 _ (List.mem_of_getElem? (i := 3) rfl)
theorem aw_12_4 : Cond.instanceMethod yX5_forbid ∈ zAll := zin_r12 _ (List.mem_of_getElem? (i := 4) rfl)
theorem aw_12_5 : Cond.selects RX5 yX5_forbid yX5_forbid ∈ zAll := zin_r12 _ (List.mem_of_getElem? (i := 5) rfl)
theorem aw_12_6 : Cond.code yX5_forbid cX5_forbid 3 (some .int) ∈ zAll := zin_r12 _ (List.mem_of_getElem? (i := 6) rfl)
theorem aw_12_7 : Cond.fieldLink RX5 83 "AssetmergeModel" "pairs" "I" ∈ zAll := zin_r12 _ (List.mem_of_getElem? (i := 7) rfl)
theorem aw_12_8 : Cond.methodLink RX5 86 yX5_pair ∈ zAll := zin_r12 _ (List.mem_of_getElem? (i := 8) rfl)
theorem aw_12_9 : Cond.instanceMethod yX5_pair ∈ zAll := zin_r12 _ (List.mem_of_getElem? (i := 9) rfl)
theorem aw_12_10 : Cond.selects RX5 yX5_pair yX5_pair ∈ zAll := zin_r12 _ (List.mem_of_getElem? (i := 10) rfl)
theorem aw_12_11 : Cond.code yX5_pair cX5_pair 4 (some .int) ∈ zAll := zin_r12 _ (List.mem_of_getElem? (i := 11) rfl)
theorem aw_12_12 : Cond.methodLink RX5 90 yX5_countedPairs ∈ zAll := zin_r12 _ (List.mem_of_getElem? (i := 12) rfl)
theorem aw_12_13 : Cond.instanceMethod yX5_countedPairs ∈ zAll := zin_r12 _ (List.mem_of_getElem? (i := 13) rfl)
theorem aw_12_14 : Cond.selects RX5 yX5_countedPairs yX5_countedPairs ∈ zAll := zin_r12 _ (List.mem_of_getElem? (i := 14) rfl)
theorem aw_12_15 : Cond.code yX5_countedPairs cX5_countedPairs 3 (some .int) ∈ zAll := zin_r12 _ (List.mem_of_getElem? (i := 15) rfl)
theorem aw_12_16 : Cond.methodLink RL 149 yL_allow ∈ zAll := zin_r12 _ (List.mem_of_getElem? (i := 16) rfl)
theorem aw_12_17 : Cond.static yL_allow ∈ zAll := zin_r12 _ (List.mem_of_getElem? (i := 17) rfl)
theorem aw_12_18 : Cond.codeWith yL_allow cL_allow 5 (some .int) [(0, 10, 13, 21), (0, 10, 17, 46)] ∈ zAll := zin_r12 _ (List.mem_of_getElem? (i := 18) rfl)
theorem aw_12_19 : Cond.classLink RL 46 "java/util/NoSuchElementException" ∈ zAll := zin_r12 _ (List.mem_of_getElem? (i := 19) rfl)
theorem aw_12_20 : Cond.methodLink RL 43 yX4_allow ∈ zAll := zin_r12 _ (List.mem_of_getElem? (i := 20) rfl)
theorem aw_12_21 : Cond.instanceMethod yX4_allow ∈ zAll := zin_r12 _ (List.mem_of_getElem? (i := 21) rfl)
theorem aw_12_22 : Cond.selects RX4 yX4_allow yX4_allow ∈ zAll := zin_r12 _ (List.mem_of_getElem? (i := 22) rfl)
theorem aw_12_23 : Cond.code yX4_allow cX4_allow 3 (some .int) ∈ zAll := zin_r12 _ (List.mem_of_getElem? (i := 23) rfl)
theorem aw_13_0 : Cond.methodLink RX4 122 yX4_checkForbidden ∈ zAll := zin_r13 _ (List.mem_of_getElem? (i := 0) rfl)
theorem aw_13_1 : Cond.instanceMethod yX4_checkForbidden ∈ zAll := zin_r13 _ (List.mem_of_getElem? (i := 1) rfl)
theorem aw_13_2 : Cond.selects RX4 yX4_checkForbidden yX4_checkForbidden ∈ zAll := zin_r13 _ (List.mem_of_getElem? (i := 2) rfl)
theorem aw_13_3 : Cond.code yX4_checkForbidden cX4_checkForbidden 3 none ∈ zAll := zin_r13 _ (List.mem_of_getElem? (i := 3) rfl)
theorem aw_13_4 : Cond.classLink RX4 147 "java/util/NoSuchElementException" ∈ zAll := zin_r13 _ (List.mem_of_getElem? (i := 4) rfl)
theorem aw_13_5 : Cond.initialized "java/util/NoSuchElementException" ∈ zAll := zin_r13 _ (List.mem_of_getElem? (i := 5) rfl)
theorem aw_13_6 : Cond.methodLink RX4 125 yX1_unpart ∈ zAll := zin_r13 _ (List.mem_of_getElem? (i := 6) rfl)
theorem aw_13_7 : Cond.instanceMethod yX1_unpart ∈ zAll := zin_r13 _ (List.mem_of_getElem? (i := 7) rfl)
theorem aw_13_8 : Cond.selects RX1 yX1_unpart yX1_unpart ∈ zAll := zin_r13 _ (List.mem_of_getElem? (i := 8) rfl)
theorem aw_13_9 : Cond.code yX1_unpart cX1_unpart 3 none ∈ zAll := zin_r13 _ (List.mem_of_getElem? (i := 9) rfl)
theorem aw_13_10 : Cond.methodLink RL 151 yX5_allow ∈ zAll := zin_r13 _ (List.mem_of_getElem? (i := 10) rfl)
theorem aw_13_11 : Cond.instanceMethod yX5_allow ∈ zAll := zin_r13 _ (List.mem_of_getElem? (i := 11) rfl)
theorem aw_13_12 : Cond.selects RX5 yX5_allow yX5_allow ∈ zAll := zin_r13 _ (List.mem_of_getElem? (i := 12) rfl)
theorem aw_13_13 : Cond.code yX5_allow cX5_allow 4 (some .int) ∈ zAll := zin_r13 _ (List.mem_of_getElem? (i := 13) rfl)
theorem aw_13_14 : Cond.methodLink RX5 93 yX5_raises ∈ zAll := zin_r13 _ (List.mem_of_getElem? (i := 14) rfl)
theorem aw_13_15 : Cond.instanceMethod yX5_raises ∈ zAll := zin_r13 _ (List.mem_of_getElem? (i := 15) rfl)
theorem aw_13_16 : Cond.selects RX5 yX5_raises yX5_raises ∈ zAll := zin_r13 _ (List.mem_of_getElem? (i := 16) rfl)
theorem aw_13_17 : Cond.code yX5_raises cX5_raises 2 (some .int) ∈ zAll := zin_r13 _ (List.mem_of_getElem? (i := 17) rfl)
theorem aw_13_18 : Cond.methodLink RL 152 yX4_records ∈ zAll := zin_r13 _ (List.mem_of_getElem? (i := 18) rfl)
theorem aw_13_19 : Cond.instanceMethod yX4_records ∈ zAll := zin_r13 _ (List.mem_of_getElem? (i := 19) rfl)
theorem aw_13_20 : Cond.selects RX4 yX4_records yX4_records ∈ zAll := zin_r13 _ (List.mem_of_getElem? (i := 20) rfl)
theorem aw_13_21 : Cond.code yX4_records cX4_records 1 (some .int) ∈ zAll := zin_r13 _ (List.mem_of_getElem? (i := 21) rfl)
theorem aw_13_22 : Cond.methodLink RL 155 yX5_records ∈ zAll := zin_r13 _ (List.mem_of_getElem? (i := 22) rfl)
theorem aw_13_23 : Cond.instanceMethod yX5_records ∈ zAll := zin_r13 _ (List.mem_of_getElem? (i := 23) rfl)
theorem aw_14_0 : Cond.selects RX5 yX5_records yX5_records ∈ zAll := zin_r14 _ (List.mem_of_getElem? (i := 0) rfl)
theorem aw_14_1 : Cond.code yX5_records cX5_records 1 (some .int) ∈ zAll := zin_r14 _ (List.mem_of_getElem? (i := 1) rfl)
theorem aw_14_2 : Cond.methodLink RL 156 yL_key ∈ zAll := zin_r14 _ (List.mem_of_getElem? (i := 2) rfl)
theorem aw_14_3 : Cond.static yL_key ∈ zAll := zin_r14 _ (List.mem_of_getElem? (i := 3) rfl)
theorem aw_14_4 : Cond.codeWith yL_key cL_key 5 (some .int) [(0, 10, 13, 21)] ∈ zAll := zin_r14 _ (List.mem_of_getElem? (i := 4) rfl)
theorem aw_14_5 : Cond.methodLink RL 48 yX4_key ∈ zAll := zin_r14 _ (List.mem_of_getElem? (i := 5) rfl)
theorem aw_14_6 : Cond.instanceMethod yX4_key ∈ zAll := zin_r14 _ (List.mem_of_getElem? (i := 6) rfl)
theorem aw_14_7 : Cond.selects RX4 yX4_key yX4_key ∈ zAll := zin_r14 _ (List.mem_of_getElem? (i := 7) rfl)
theorem aw_14_8 : Cond.code yX4_key cX4_key 3 (some .int) ∈ zAll := zin_r14 _ (List.mem_of_getElem? (i := 8) rfl)
theorem aw_14_9 : Cond.methodLink RL 158 yX5_key ∈ zAll := zin_r14 _ (List.mem_of_getElem? (i := 9) rfl)
theorem aw_14_10 : Cond.instanceMethod yX5_key ∈ zAll := zin_r14 _ (List.mem_of_getElem? (i := 10) rfl)
theorem aw_14_11 : Cond.selects RX5 yX5_key yX5_key ∈ zAll := zin_r14 _ (List.mem_of_getElem? (i := 11) rfl)
theorem aw_14_12 : Cond.code yX5_key cX5_key 3 (some .int) ∈ zAll := zin_r14 _ (List.mem_of_getElem? (i := 12) rfl)
theorem aw_14_13 : Cond.methodLink RL 159 yL_seen ∈ zAll := zin_r14 _ (List.mem_of_getElem? (i := 13) rfl)
theorem aw_14_14 : Cond.static yL_seen ∈ zAll := zin_r14 _ (List.mem_of_getElem? (i := 14) rfl)
theorem aw_14_15 : Cond.codeWith yL_seen cL_seen 4 (some .int) [(0, 9, 12, 21)] ∈ zAll := zin_r14 _ (List.mem_of_getElem? (i := 15) rfl)
theorem aw_14_16 : Cond.methodLink RL 51 yX4_seen ∈ zAll := zin_r14 _ (List.mem_of_getElem? (i := 16) rfl)
theorem aw_14_17 : Cond.instanceMethod yX4_seen ∈ zAll := zin_r14 _ (List.mem_of_getElem? (i := 17) rfl)
theorem aw_14_18 : Cond.selects RX4 yX4_seen yX4_seen ∈ zAll := zin_r14 _ (List.mem_of_getElem? (i := 18) rfl)
theorem aw_14_19 : Cond.code yX4_seen cX4_seen 2 (some .int) ∈ zAll := zin_r14 _ (List.mem_of_getElem? (i := 19) rfl)
theorem aw_14_20 : Cond.methodLink RL 161 yX5_seen ∈ zAll := zin_r14 _ (List.mem_of_getElem? (i := 20) rfl)
theorem aw_14_21 : Cond.instanceMethod yX5_seen ∈ zAll := zin_r14 _ (List.mem_of_getElem? (i := 21) rfl)
theorem aw_14_22 : Cond.selects RX5 yX5_seen yX5_seen ∈ zAll := zin_r14 _ (List.mem_of_getElem? (i := 22) rfl)
theorem aw_14_23 : Cond.code yX5_seen cX5_seen 2 (some .int) ∈ zAll := zin_r14 _ (List.mem_of_getElem? (i := 23) rfl)
theorem aw_15_0 : Cond.methodLink RL 162 yL_thing ∈ zAll := zin_r15 _ (List.mem_of_getElem? (i := 0) rfl)
theorem aw_15_1 : Cond.static yL_thing ∈ zAll := zin_r15 _ (List.mem_of_getElem? (i := 1) rfl)
theorem aw_15_2 : Cond.codeWith yL_thing cL_thing 4 (some .int) [(0, 9, 12, 21)] ∈ zAll := zin_r15 _ (List.mem_of_getElem? (i := 2) rfl)
theorem aw_15_3 : Cond.methodLink RL 54 yX4_thing ∈ zAll := zin_r15 _ (List.mem_of_getElem? (i := 3) rfl)
theorem aw_15_4 : Cond.instanceMethod yX4_thing ∈ zAll := zin_r15 _ (List.mem_of_getElem? (i := 4) rfl)
theorem aw_15_5 : Cond.selects RX4 yX4_thing yX4_thing ∈ zAll := zin_r15 _ (List.mem_of_getElem? (i := 5) rfl)
theorem aw_15_6 : Cond.code yX4_thing cX4_thing 2 (some .int) ∈ zAll := zin_r15 _ (List.mem_of_getElem? (i := 6) rfl)
theorem aw_15_7 : Cond.methodLink RX4 128 yX4_findThing ∈ zAll := zin_r15 _ (List.mem_of_getElem? (i := 7) rfl)
theorem aw_15_8 : Cond.instanceMethod yX4_findThing ∈ zAll := zin_r15 _ (List.mem_of_getElem? (i := 8) rfl)
theorem aw_15_9 : Cond.selects RX4 yX4_findThing yX4_findThing ∈ zAll := zin_r15 _ (List.mem_of_getElem? (i := 9) rfl)
theorem aw_15_10 : Cond.code yX4_findThing cX4_findThing 2 (some .int) ∈ zAll := zin_r15 _ (List.mem_of_getElem? (i := 10) rfl)
theorem aw_15_11 : Cond.fieldLink RX4 152 "Assetmerge$Joining" "groups" "[[I" ∈ zAll := zin_r15 _ (List.mem_of_getElem? (i := 11) rfl)
theorem aw_15_12 : Cond.sameField "Assetmerge$Joining" "Assetmerge$Finder" "groups" "[[I" ∈ zAll := zin_r15 _ (List.mem_of_getElem? (i := 12) rfl)
theorem aw_15_13 : Cond.methodLink RX4 158 ⟨"Assetmerge$Joining", "findGroups", "(LAssetmerge$Inventory;)V"⟩ ∈ zAll := zin_r15 _ (List.mem_of_getElem? (i := 13) rfl)
theorem aw_15_14 : Cond.sameMethod "Assetmerge$Joining" "Assetmerge$Finder" "findGroups" "(LAssetmerge$Inventory;)V" ∈ zAll := zin_r15 _ (List.mem_of_getElem? (i := 14) rfl)
theorem aw_15_15 : Cond.selects RX2 ⟨"Assetmerge$Joining", "findGroups", "(LAssetmerge$Inventory;)V"⟩ yX0_findGroups ∈ zAll := zin_r15 _ (List.mem_of_getElem? (i := 15) rfl)
theorem aw_15_16 : Cond.instanceMethod yX0_findGroups ∈ zAll := zin_r15 _ (List.mem_of_getElem? (i := 16) rfl)
theorem aw_15_17 : Cond.code yX0_findGroups cX0_findGroups 4 none ∈ zAll := zin_r15 _ (List.mem_of_getElem? (i := 17) rfl)
theorem aw_15_18 : Cond.fieldLink RX0 20 "Assetmerge$Inventory" "recordCount" "I" ∈ zAll := zin_r15 _ (List.mem_of_getElem? (i := 18) rfl)
theorem aw_15_19 : Cond.methodLink RX0 26 ⟨"Assetmerge$Finder", "groupBefore", "(II)I"⟩ ∈ zAll := zin_r15 _ (List.mem_of_getElem? (i := 19) rfl)
theorem aw_15_20 : Cond.sameMethod "Assetmerge$Finder" "Assetmerge$Finder" "groupBefore" "(II)I" ∈ zAll := zin_r15 _ (List.mem_of_getElem? (i := 20) rfl)
theorem aw_15_21 : Cond.selects RX2 ⟨"Assetmerge$Finder", "groupBefore", "(II)I"⟩ yX0_groupBefore ∈ zAll := zin_r15 _ (List.mem_of_getElem? (i := 21) rfl)
theorem aw_15_22 : Cond.instanceMethod yX0_groupBefore ∈ zAll := zin_r15 _ (List.mem_of_getElem? (i := 22) rfl)
theorem aw_15_23 : Cond.code yX0_groupBefore cX0_groupBefore 3 (some .int) ∈ zAll := zin_r15 _ (List.mem_of_getElem? (i := 23) rfl)
theorem aw_16_0 : Cond.selects RX3 ⟨"Assetmerge$Finder", "groupBefore", "(II)I"⟩ yX0_groupBefore ∈ zAll := zin_r16 _ (List.mem_of_getElem? (i := 0) rfl)
theorem aw_16_1 : Cond.methodLink RX0 30 ⟨"Assetmerge$Finder", "findClusters", "(LAssetmerge$Inventory;I)V"⟩ ∈ zAll := zin_r16 _ (List.mem_of_getElem? (i := 1) rfl)
theorem aw_16_2 : Cond.sameMethod "Assetmerge$Finder" "Assetmerge$Finder" "findClusters" "(LAssetmerge$Inventory;I)V" ∈ zAll := zin_r16 _ (List.mem_of_getElem? (i := 2) rfl)
theorem aw_16_3 : Cond.selects RX2 ⟨"Assetmerge$Finder", "findClusters", "(LAssetmerge$Inventory;I)V"⟩ yX2_findClusters ∈ zAll := zin_r16 _ (List.mem_of_getElem? (i := 3) rfl)
theorem aw_16_4 : Cond.instanceMethod yX2_findClusters ∈ zAll := zin_r16 _ (List.mem_of_getElem? (i := 4) rfl)
theorem aw_16_5 : Cond.code yX2_findClusters cX2_findClusters 5 none ∈ zAll := zin_r16 _ (List.mem_of_getElem? (i := 5) rfl)
theorem aw_16_6 : Cond.fieldLink RX2 7 "Assetmerge$Inventory" "recordCount" "I" ∈ zAll := zin_r16 _ (List.mem_of_getElem? (i := 6) rfl)
theorem aw_16_7 : Cond.fieldLink RX2 17 "Assetmerge$Joining" "clusters" "[I" ∈ zAll := zin_r16 _ (List.mem_of_getElem? (i := 7) rfl)
theorem aw_16_8 : Cond.sameField "Assetmerge$Joining" "Assetmerge$Finder" "clusters" "[I" ∈ zAll := zin_r16 _ (List.mem_of_getElem? (i := 8) rfl)
theorem aw_16_9 : Cond.methodLink RX2 13 yX1_haveSameKey ∈ zAll := zin_r16 _ (List.mem_of_getElem? (i := 9) rfl)
theorem aw_16_10 : Cond.instanceMethod yX1_haveSameKey ∈ zAll := zin_r16 _ (List.mem_of_getElem? (i := 10) rfl)
theorem aw_16_11 : Cond.selects RX1 yX1_haveSameKey yX1_haveSameKey ∈ zAll := zin_r16 _ (List.mem_of_getElem? (i := 11) rfl)
theorem aw_16_12 : Cond.code yX1_haveSameKey cX1_haveSameKey 4 (some .boolean) ∈ zAll := zin_r16 _ (List.mem_of_getElem? (i := 12) rfl)
theorem aw_16_13 : Cond.methodLink RX2 23 yX2_joinTwo ∈ zAll := zin_r16 _ (List.mem_of_getElem? (i := 13) rfl)
theorem aw_16_14 : Cond.instanceMethod yX2_joinTwo ∈ zAll := zin_r16 _ (List.mem_of_getElem? (i := 14) rfl)
theorem aw_16_15 : Cond.selects RX2 yX2_joinTwo yX2_joinTwo ∈ zAll := zin_r16 _ (List.mem_of_getElem? (i := 15) rfl)
theorem aw_16_16 : Cond.code yX2_joinTwo cX2_joinTwo 7 none ∈ zAll := zin_r16 _ (List.mem_of_getElem? (i := 16) rfl)
theorem aw_16_17 : Cond.methodLink RX2 27 Lib.Math.min.name ∈ zAll := zin_r16 _ (List.mem_of_getElem? (i := 17) rfl)
theorem aw_16_18 : Cond.static Lib.Math.min.name ∈ zAll := zin_r16 _ (List.mem_of_getElem? (i := 18) rfl)
theorem aw_16_19 : Cond.initialized "java/lang/Math" ∈ zAll := zin_r16 _ (List.mem_of_getElem? (i := 19) rfl)
theorem aw_16_20 : Cond.code Lib.Math.min.name Lib.Math.min.code 2 (some .int) ∈ zAll := zin_r16 _ (List.mem_of_getElem? (i := 20) rfl)
theorem aw_16_21 : Cond.methodLink RX2 33 Lib.Math.max.name ∈ zAll := zin_r16 _ (List.mem_of_getElem? (i := 21) rfl)
theorem aw_16_22 : Cond.static Lib.Math.max.name ∈ zAll := zin_r16 _ (List.mem_of_getElem? (i := 22) rfl)
theorem aw_16_23 : Cond.code Lib.Math.max.name Lib.Math.max.code 2 (some .int) ∈ zAll := zin_r16 _ (List.mem_of_getElem? (i := 23) rfl)
theorem aw_17_0 : Cond.selects RX3 ⟨"Assetmerge$Finder", "findClusters", "(LAssetmerge$Inventory;I)V"⟩ yX3_findClusters ∈ zAll := zin_r17 _ (List.mem_of_getElem? (i := 0) rfl)
theorem aw_17_1 : Cond.instanceMethod yX3_findClusters ∈ zAll := zin_r17 _ (List.mem_of_getElem? (i := 1) rfl)
theorem aw_17_2 : Cond.code yX3_findClusters cX3_findClusters 5 none ∈ zAll := zin_r17 _ (List.mem_of_getElem? (i := 2) rfl)
theorem aw_17_3 : Cond.methodLink RX3 9 yX3_spreadOnce ∈ zAll := zin_r17 _ (List.mem_of_getElem? (i := 3) rfl)
theorem aw_17_4 : Cond.instanceMethod yX3_spreadOnce ∈ zAll := zin_r17 _ (List.mem_of_getElem? (i := 4) rfl)
theorem aw_17_5 : Cond.selects RX3 yX3_spreadOnce yX3_spreadOnce ∈ zAll := zin_r17 _ (List.mem_of_getElem? (i := 5) rfl)
theorem aw_17_6 : Cond.code yX3_spreadOnce cX3_spreadOnce 6 (some .boolean) ∈ zAll := zin_r17 _ (List.mem_of_getElem? (i := 6) rfl)
theorem aw_17_7 : Cond.fieldLink RX3 15 "Assetmerge$Inventory" "recordCount" "I" ∈ zAll := zin_r17 _ (List.mem_of_getElem? (i := 7) rfl)
theorem aw_17_8 : Cond.fieldLink RX3 21 "Assetmerge$Spreading" "clusters" "[I" ∈ zAll := zin_r17 _ (List.mem_of_getElem? (i := 8) rfl)
theorem aw_17_9 : Cond.sameField "Assetmerge$Spreading" "Assetmerge$Finder" "clusters" "[I" ∈ zAll := zin_r17 _ (List.mem_of_getElem? (i := 9) rfl)
theorem aw_17_10 : Cond.methodLink RX3 25 yX3_areLinked ∈ zAll := zin_r17 _ (List.mem_of_getElem? (i := 10) rfl)
theorem aw_17_11 : Cond.instanceMethod yX3_areLinked ∈ zAll := zin_r17 _ (List.mem_of_getElem? (i := 11) rfl)
theorem aw_17_12 : Cond.selects RX3 yX3_areLinked yX3_areLinked ∈ zAll := zin_r17 _ (List.mem_of_getElem? (i := 12) rfl)
theorem aw_17_13 : Cond.code yX3_areLinked cX3_areLinked 5 (some .boolean) ∈ zAll := zin_r17 _ (List.mem_of_getElem? (i := 13) rfl)
theorem aw_17_14 : Cond.methodLink RX3 29 ⟨"Assetmerge$Spreading", "groupBefore", "(II)I"⟩ ∈ zAll := zin_r17 _ (List.mem_of_getElem? (i := 14) rfl)
theorem aw_17_15 : Cond.sameMethod "Assetmerge$Spreading" "Assetmerge$Finder" "groupBefore" "(II)I" ∈ zAll := zin_r17 _ (List.mem_of_getElem? (i := 15) rfl)
theorem aw_17_16 : Cond.selects RX3 ⟨"Assetmerge$Spreading", "groupBefore", "(II)I"⟩ yX0_groupBefore ∈ zAll := zin_r17 _ (List.mem_of_getElem? (i := 16) rfl)
theorem aw_17_17 : Cond.methodLink RX3 33 yX1_haveSameKey ∈ zAll := zin_r17 _ (List.mem_of_getElem? (i := 17) rfl)
theorem aw_17_18 : Cond.methodLink RX0 34 ⟨"Assetmerge$Finder", "joinClusters", "(LAssetmerge$Inventory;I)V"⟩ ∈ zAll := zin_r17 _ (List.mem_of_getElem? (i := 18) rfl)
theorem aw_17_19 : Cond.sameMethod "Assetmerge$Finder" "Assetmerge$Finder" "joinClusters" "(LAssetmerge$Inventory;I)V" ∈ zAll := zin_r17 _ (List.mem_of_getElem? (i := 19) rfl)
theorem aw_17_20 : Cond.selects RX2 ⟨"Assetmerge$Finder", "joinClusters", "(LAssetmerge$Inventory;I)V"⟩ yX0_joinClusters ∈ zAll := zin_r17 _ (List.mem_of_getElem? (i := 20) rfl)
theorem aw_17_21 : Cond.instanceMethod yX0_joinClusters ∈ zAll := zin_r17 _ (List.mem_of_getElem? (i := 21) rfl)
theorem aw_17_22 : Cond.code yX0_joinClusters cX0_joinClusters 5 none ∈ zAll := zin_r17 _ (List.mem_of_getElem? (i := 22) rfl)
theorem aw_17_23 : Cond.methodLink RX0 37 ⟨"Assetmerge$Finder", "membersOf", "(ILAssetmerge$Inventory;)I"⟩ ∈ zAll := zin_r17 _ (List.mem_of_getElem? (i := 23) rfl)
theorem aw_18_0 : Cond.sameMethod "Assetmerge$Finder" "Assetmerge$Finder" "membersOf" "(ILAssetmerge$Inventory;)I" ∈ zAll := zin_r18 _ (List.mem_of_getElem? (i := 0) rfl)
theorem aw_18_1 : Cond.selects RX2 ⟨"Assetmerge$Finder", "membersOf", "(ILAssetmerge$Inventory;)I"⟩ yX0_membersOf ∈ zAll := zin_r18 _ (List.mem_of_getElem? (i := 1) rfl)
theorem aw_18_2 : Cond.instanceMethod yX0_membersOf ∈ zAll := zin_r18 _ (List.mem_of_getElem? (i := 2) rfl)
theorem aw_18_3 : Cond.code yX0_membersOf cX0_membersOf 5 (some .int) ∈ zAll := zin_r18 _ (List.mem_of_getElem? (i := 3) rfl)
theorem aw_18_4 : Cond.methodLink RX0 45 yX1_holds ∈ zAll := zin_r18 _ (List.mem_of_getElem? (i := 4) rfl)
theorem aw_18_5 : Cond.selects RX3 ⟨"Assetmerge$Finder", "membersOf", "(ILAssetmerge$Inventory;)I"⟩ yX0_membersOf ∈ zAll := zin_r18 _ (List.mem_of_getElem? (i := 5) rfl)
theorem aw_18_6 : Cond.methodLink RX0 41 yX1_mayJoin ∈ zAll := zin_r18 _ (List.mem_of_getElem? (i := 6) rfl)
theorem aw_18_7 : Cond.instanceMethod yX1_mayJoin ∈ zAll := zin_r18 _ (List.mem_of_getElem? (i := 7) rfl)
theorem aw_18_8 : Cond.selects RX1 yX1_mayJoin yX1_mayJoin ∈ zAll := zin_r18 _ (List.mem_of_getElem? (i := 8) rfl)
theorem aw_18_9 : Cond.code yX1_mayJoin cX1_mayJoin 4 (some .boolean) ∈ zAll := zin_r18 _ (List.mem_of_getElem? (i := 9) rfl)
theorem aw_18_10 : Cond.methodLink RX1 64 yX1_haveTwoKeys ∈ zAll := zin_r18 _ (List.mem_of_getElem? (i := 10) rfl)
theorem aw_18_11 : Cond.instanceMethod yX1_haveTwoKeys ∈ zAll := zin_r18 _ (List.mem_of_getElem? (i := 11) rfl)
theorem aw_18_12 : Cond.selects RX1 yX1_haveTwoKeys yX1_haveTwoKeys ∈ zAll := zin_r18 _ (List.mem_of_getElem? (i := 12) rfl)
theorem aw_18_13 : Cond.code yX1_haveTwoKeys cX1_haveTwoKeys 6 (some .boolean) ∈ zAll := zin_r18 _ (List.mem_of_getElem? (i := 13) rfl)
theorem aw_18_14 : Cond.methodLink RX1 67 yX1_haveForbiddenPair ∈ zAll := zin_r18 _ (List.mem_of_getElem? (i := 14) rfl)
theorem aw_18_15 : Cond.instanceMethod yX1_haveForbiddenPair ∈ zAll := zin_r18 _ (List.mem_of_getElem? (i := 15) rfl)
theorem aw_18_16 : Cond.selects RX1 yX1_haveForbiddenPair yX1_haveForbiddenPair ∈ zAll := zin_r18 _ (List.mem_of_getElem? (i := 16) rfl)
theorem aw_18_17 : Cond.code yX1_haveForbiddenPair cX1_haveForbiddenPair 3 (some .boolean) ∈ zAll := zin_r18 _ (List.mem_of_getElem? (i := 17) rfl)
theorem aw_18_18 : Cond.selects RX3 ⟨"Assetmerge$Finder", "joinClusters", "(LAssetmerge$Inventory;I)V"⟩ yX0_joinClusters ∈ zAll := zin_r18 _ (List.mem_of_getElem? (i := 18) rfl)
theorem aw_18_19 : Cond.methodLink RL 164 yX5_thing ∈ zAll := zin_r18 _ (List.mem_of_getElem? (i := 19) rfl)
theorem aw_18_20 : Cond.instanceMethod yX5_thing ∈ zAll := zin_r18 _ (List.mem_of_getElem? (i := 20) rfl)
theorem aw_18_21 : Cond.selects RX5 yX5_thing yX5_thing ∈ zAll := zin_r18 _ (List.mem_of_getElem? (i := 21) rfl)
theorem aw_18_22 : Cond.code yX5_thing cX5_thing 2 (some .int) ∈ zAll := zin_r18 _ (List.mem_of_getElem? (i := 22) rfl)
theorem aw_18_23 : Cond.methodLink RX5 113 yX5_finds ∈ zAll := zin_r18 _ (List.mem_of_getElem? (i := 23) rfl)
theorem aw_19_0 : Cond.instanceMethod yX5_finds ∈ zAll := zin_r19 _ (List.mem_of_getElem? (i := 0) rfl)
theorem aw_19_1 : Cond.selects RX5 yX5_finds yX5_finds ∈ zAll := zin_r19 _ (List.mem_of_getElem? (i := 1) rfl)
theorem aw_19_2 : Cond.code yX5_finds cX5_finds 3 none ∈ zAll := zin_r19 _ (List.mem_of_getElem? (i := 2) rfl)
theorem aw_19_3 : Cond.methodLink RX5 110 yX5_joins ∈ zAll := zin_r19 _ (List.mem_of_getElem? (i := 3) rfl)
theorem aw_19_4 : Cond.instanceMethod yX5_joins ∈ zAll := zin_r19 _ (List.mem_of_getElem? (i := 4) rfl)
theorem aw_19_5 : Cond.selects RX5 yX5_joins yX5_joins ∈ zAll := zin_r19 _ (List.mem_of_getElem? (i := 5) rfl)
theorem aw_19_6 : Cond.code yX5_joins cX5_joins 4 none ∈ zAll := zin_r19 _ (List.mem_of_getElem? (i := 6) rfl)
theorem aw_19_7 : Cond.methodLink RX5 103 yX5_clusters ∈ zAll := zin_r19 _ (List.mem_of_getElem? (i := 7) rfl)
theorem aw_19_8 : Cond.instanceMethod yX5_clusters ∈ zAll := zin_r19 _ (List.mem_of_getElem? (i := 8) rfl)
theorem aw_19_9 : Cond.selects RX5 yX5_clusters yX5_clusters ∈ zAll := zin_r19 _ (List.mem_of_getElem? (i := 9) rfl)
theorem aw_19_10 : Cond.code yX5_clusters cX5_clusters 5 none ∈ zAll := zin_r19 _ (List.mem_of_getElem? (i := 10) rfl)
theorem aw_19_11 : Cond.methodLink RX5 97 yX5_counts ∈ zAll := zin_r19 _ (List.mem_of_getElem? (i := 11) rfl)
theorem aw_19_12 : Cond.instanceMethod yX5_counts ∈ zAll := zin_r19 _ (List.mem_of_getElem? (i := 12) rfl)
theorem aw_19_13 : Cond.selects RX5 yX5_counts yX5_counts ∈ zAll := zin_r19 _ (List.mem_of_getElem? (i := 13) rfl)
theorem aw_19_14 : Cond.code yX5_counts cX5_counts 2 (some .boolean) ∈ zAll := zin_r19 _ (List.mem_of_getElem? (i := 14) rfl)
theorem aw_19_15 : Cond.methodLink RX5 100 yX5_areLinked ∈ zAll := zin_r19 _ (List.mem_of_getElem? (i := 15) rfl)
theorem aw_19_16 : Cond.instanceMethod yX5_areLinked ∈ zAll := zin_r19 _ (List.mem_of_getElem? (i := 16) rfl)
theorem aw_19_17 : Cond.selects RX5 yX5_areLinked yX5_areLinked ∈ zAll := zin_r19 _ (List.mem_of_getElem? (i := 17) rfl)
theorem aw_19_18 : Cond.code yX5_areLinked cX5_areLinked 4 (some .boolean) ∈ zAll := zin_r19 _ (List.mem_of_getElem? (i := 18) rfl)
theorem aw_19_19 : Cond.methodLink RX5 106 yX5_mayJoin ∈ zAll := zin_r19 _ (List.mem_of_getElem? (i := 19) rfl)
theorem aw_19_20 : Cond.instanceMethod yX5_mayJoin ∈ zAll := zin_r19 _ (List.mem_of_getElem? (i := 20) rfl)
theorem aw_19_21 : Cond.selects RX5 yX5_mayJoin yX5_mayJoin ∈ zAll := zin_r19 _ (List.mem_of_getElem? (i := 21) rfl)
theorem aw_19_22 : Cond.code yX5_mayJoin cX5_mayJoin 6 (some .boolean) ∈ zAll := zin_r19 _ (List.mem_of_getElem? (i := 22) rfl)
theorem aw_19_23 : Cond.methodLink RL 165 yL_thingByRounds ∈ zAll := zin_r19 _ (List.mem_of_getElem? (i := 23) rfl)
theorem aw_20_0 : Cond.static yL_thingByRounds ∈ zAll := zin_r20 _ (List.mem_of_getElem? (i := 0) rfl)
theorem aw_20_1 : Cond.codeWith yL_thingByRounds cL_thingByRounds 4 (some .int) [(0, 9, 12, 21)] ∈ zAll := zin_r20 _ (List.mem_of_getElem? (i := 1) rfl)
theorem aw_20_2 : Cond.methodLink RL 57 yX4_thingByRounds ∈ zAll := zin_r20 _ (List.mem_of_getElem? (i := 2) rfl)
theorem aw_20_3 : Cond.instanceMethod yX4_thingByRounds ∈ zAll := zin_r20 _ (List.mem_of_getElem? (i := 3) rfl)
theorem aw_20_4 : Cond.selects RX4 yX4_thingByRounds yX4_thingByRounds ∈ zAll := zin_r20 _ (List.mem_of_getElem? (i := 4) rfl)
theorem aw_20_5 : Cond.code yX4_thingByRounds cX4_thingByRounds 2 (some .int) ∈ zAll := zin_r20 _ (List.mem_of_getElem? (i := 5) rfl)
theorem aw_20_6 : Cond.fieldLink RX4 135 "Assetmerge$Spreading" "groups" "[[I" ∈ zAll := zin_r20 _ (List.mem_of_getElem? (i := 6) rfl)
theorem aw_20_7 : Cond.sameField "Assetmerge$Spreading" "Assetmerge$Finder" "groups" "[[I" ∈ zAll := zin_r20 _ (List.mem_of_getElem? (i := 7) rfl)
theorem aw_20_8 : Cond.methodLink RX4 131 ⟨"Assetmerge$Spreading", "findGroups", "(LAssetmerge$Inventory;)V"⟩ ∈ zAll := zin_r20 _ (List.mem_of_getElem? (i := 8) rfl)
theorem aw_20_9 : Cond.sameMethod "Assetmerge$Spreading" "Assetmerge$Finder" "findGroups" "(LAssetmerge$Inventory;)V" ∈ zAll := zin_r20 _ (List.mem_of_getElem? (i := 9) rfl)
theorem aw_20_10 : Cond.selects RX3 ⟨"Assetmerge$Spreading", "findGroups", "(LAssetmerge$Inventory;)V"⟩ yX0_findGroups ∈ zAll := zin_r20 _ (List.mem_of_getElem? (i := 10) rfl)
theorem aw_20_11 : Cond.methodLink RL 167 yX5_thingByRounds ∈ zAll := zin_r20 _ (List.mem_of_getElem? (i := 11) rfl)
theorem aw_20_12 : Cond.instanceMethod yX5_thingByRounds ∈ zAll := zin_r20 _ (List.mem_of_getElem? (i := 12) rfl)
theorem aw_20_13 : Cond.selects RX5 yX5_thingByRounds yX5_thingByRounds ∈ zAll := zin_r20 _ (List.mem_of_getElem? (i := 13) rfl)
theorem aw_20_14 : Cond.code yX5_thingByRounds cX5_thingByRounds 2 (some .int) ∈ zAll := zin_r20 _ (List.mem_of_getElem? (i := 14) rfl)
theorem aw_20_15 : Cond.methodLink RX5 116 yX5_thing ∈ zAll := zin_r20 _ (List.mem_of_getElem? (i := 15) rfl)
theorem aw_20_16 : Cond.methodLink RL 168 yX4_things ∈ zAll := zin_r20 _ (List.mem_of_getElem? (i := 16) rfl)
theorem aw_20_17 : Cond.instanceMethod yX4_things ∈ zAll := zin_r20 _ (List.mem_of_getElem? (i := 17) rfl)
theorem aw_20_18 : Cond.selects RX4 yX4_things yX4_things ∈ zAll := zin_r20 _ (List.mem_of_getElem? (i := 18) rfl)
theorem aw_20_19 : Cond.code yX4_things cX4_things 1 (some .int) ∈ zAll := zin_r20 _ (List.mem_of_getElem? (i := 19) rfl)
theorem aw_20_20 : Cond.methodLink RX4 138 yX4_countThings ∈ zAll := zin_r20 _ (List.mem_of_getElem? (i := 20) rfl)
theorem aw_20_21 : Cond.instanceMethod yX4_countThings ∈ zAll := zin_r20 _ (List.mem_of_getElem? (i := 21) rfl)
theorem aw_20_22 : Cond.selects RX4 yX4_countThings yX4_countThings ∈ zAll := zin_r20 _ (List.mem_of_getElem? (i := 22) rfl)
theorem aw_20_23 : Cond.code yX4_countThings cX4_countThings 3 (some .int) ∈ zAll := zin_r20 _ (List.mem_of_getElem? (i := 23) rfl)
theorem aw_21_0 : Cond.methodLink RX4 187 yX4_isThing ∈ zAll := zin_r21 _ (List.mem_of_getElem? (i := 0) rfl)
theorem aw_21_1 : Cond.instanceMethod yX4_isThing ∈ zAll := zin_r21 _ (List.mem_of_getElem? (i := 1) rfl)
theorem aw_21_2 : Cond.selects RX4 yX4_isThing yX4_isThing ∈ zAll := zin_r21 _ (List.mem_of_getElem? (i := 2) rfl)
theorem aw_21_3 : Cond.code yX4_isThing cX4_isThing 2 (some .boolean) ∈ zAll := zin_r21 _ (List.mem_of_getElem? (i := 3) rfl)
theorem aw_21_4 : Cond.methodLink RX4 230 yX4_isMember ∈ zAll := zin_r21 _ (List.mem_of_getElem? (i := 4) rfl)
theorem aw_21_5 : Cond.instanceMethod yX4_isMember ∈ zAll := zin_r21 _ (List.mem_of_getElem? (i := 5) rfl)
theorem aw_21_6 : Cond.selects RX4 yX4_isMember yX4_isMember ∈ zAll := zin_r21 _ (List.mem_of_getElem? (i := 6) rfl)
theorem aw_21_7 : Cond.code yX4_isMember cX4_isMember 3 (some .boolean) ∈ zAll := zin_r21 _ (List.mem_of_getElem? (i := 7) rfl)
theorem aw_21_8 : Cond.methodLink RL 171 yX5_things ∈ zAll := zin_r21 _ (List.mem_of_getElem? (i := 8) rfl)
theorem aw_21_9 : Cond.instanceMethod yX5_things ∈ zAll := zin_r21 _ (List.mem_of_getElem? (i := 9) rfl)
theorem aw_21_10 : Cond.selects RX5 yX5_things yX5_things ∈ zAll := zin_r21 _ (List.mem_of_getElem? (i := 10) rfl)
theorem aw_21_11 : Cond.code yX5_things cX5_things 1 (some .int) ∈ zAll := zin_r21 _ (List.mem_of_getElem? (i := 11) rfl)
theorem aw_21_12 : Cond.methodLink RX5 119 yX5_thingMany ∈ zAll := zin_r21 _ (List.mem_of_getElem? (i := 12) rfl)
theorem aw_21_13 : Cond.instanceMethod yX5_thingMany ∈ zAll := zin_r21 _ (List.mem_of_getElem? (i := 13) rfl)
theorem aw_21_14 : Cond.selects RX5 yX5_thingMany yX5_thingMany ∈ zAll := zin_r21 _ (List.mem_of_getElem? (i := 14) rfl)
theorem aw_21_15 : Cond.code yX5_thingMany cX5_thingMany 3 (some .int) ∈ zAll := zin_r21 _ (List.mem_of_getElem? (i := 15) rfl)
theorem aw_21_16 : Cond.methodLink RL 172 yL_size ∈ zAll := zin_r21 _ (List.mem_of_getElem? (i := 16) rfl)
theorem aw_21_17 : Cond.static yL_size ∈ zAll := zin_r21 _ (List.mem_of_getElem? (i := 17) rfl)
theorem aw_21_18 : Cond.codeWith yL_size cL_size 4 (some .int) [(0, 9, 12, 21)] ∈ zAll := zin_r21 _ (List.mem_of_getElem? (i := 18) rfl)
theorem aw_21_19 : Cond.methodLink RL 60 yX4_size ∈ zAll := zin_r21 _ (List.mem_of_getElem? (i := 19) rfl)
theorem aw_21_20 : Cond.instanceMethod yX4_size ∈ zAll := zin_r21 _ (List.mem_of_getElem? (i := 20) rfl)
theorem aw_21_21 : Cond.selects RX4 yX4_size yX4_size ∈ zAll := zin_r21 _ (List.mem_of_getElem? (i := 21) rfl)
theorem aw_21_22 : Cond.code yX4_size cX4_size 2 (some .int) ∈ zAll := zin_r21 _ (List.mem_of_getElem? (i := 22) rfl)
theorem aw_21_23 : Cond.methodLink RX4 141 yX4_countMembers ∈ zAll := zin_r21 _ (List.mem_of_getElem? (i := 23) rfl)
theorem aw_22_0 : Cond.instanceMethod yX4_countMembers ∈ zAll := zin_r22 _ (List.mem_of_getElem? (i := 0) rfl)
theorem aw_22_1 : Cond.selects RX4 yX4_countMembers yX4_countMembers ∈ zAll := zin_r22 _ (List.mem_of_getElem? (i := 1) rfl)
theorem aw_22_2 : Cond.code yX4_countMembers cX4_countMembers 4 (some .int) ∈ zAll := zin_r22 _ (List.mem_of_getElem? (i := 2) rfl)
theorem aw_22_3 : Cond.methodLink RL 174 yX5_size ∈ zAll := zin_r22 _ (List.mem_of_getElem? (i := 3) rfl)
theorem aw_22_4 : Cond.instanceMethod yX5_size ∈ zAll := zin_r22 _ (List.mem_of_getElem? (i := 4) rfl)
theorem aw_22_5 : Cond.selects RX5 yX5_size yX5_size ∈ zAll := zin_r22 _ (List.mem_of_getElem? (i := 5) rfl)
theorem aw_22_6 : Cond.code yX5_size cX5_size 4 (some .int) ∈ zAll := zin_r22 _ (List.mem_of_getElem? (i := 6) rfl)
theorem aw_22_7 : Cond.methodLink RX5 122 yX5_isOf ∈ zAll := zin_r22 _ (List.mem_of_getElem? (i := 7) rfl)
theorem aw_22_8 : Cond.instanceMethod yX5_isOf ∈ zAll := zin_r22 _ (List.mem_of_getElem? (i := 8) rfl)
theorem aw_22_9 : Cond.selects RX5 yX5_isOf yX5_isOf ∈ zAll := zin_r22 _ (List.mem_of_getElem? (i := 9) rfl)
theorem aw_22_10 : Cond.code yX5_isOf cX5_isOf 3 (some .boolean) ∈ zAll := zin_r22 _ (List.mem_of_getElem? (i := 10) rfl)
theorem aw_22_11 : Cond.methodLink RL 175 yL_member ∈ zAll := zin_r22 _ (List.mem_of_getElem? (i := 11) rfl)
theorem aw_22_12 : Cond.static yL_member ∈ zAll := zin_r22 _ (List.mem_of_getElem? (i := 12) rfl)
theorem aw_22_13 : Cond.codeWith yL_member cL_member 5 (some .int) [(0, 10, 13, 21), (0, 10, 17, 46)] ∈ zAll := zin_r22 _ (List.mem_of_getElem? (i := 13) rfl)
theorem aw_22_14 : Cond.methodLink RL 63 yX4_member ∈ zAll := zin_r22 _ (List.mem_of_getElem? (i := 14) rfl)
theorem aw_22_15 : Cond.instanceMethod yX4_member ∈ zAll := zin_r22 _ (List.mem_of_getElem? (i := 15) rfl)
theorem aw_22_16 : Cond.selects RX4 yX4_member yX4_member ∈ zAll := zin_r22 _ (List.mem_of_getElem? (i := 16) rfl)
theorem aw_22_17 : Cond.code yX4_member cX4_member 4 (some .int) ∈ zAll := zin_r22 _ (List.mem_of_getElem? (i := 17) rfl)
theorem aw_22_18 : Cond.methodLink RX4 144 yX4_findMember ∈ zAll := zin_r22 _ (List.mem_of_getElem? (i := 18) rfl)
theorem aw_22_19 : Cond.instanceMethod yX4_findMember ∈ zAll := zin_r22 _ (List.mem_of_getElem? (i := 19) rfl)
theorem aw_22_20 : Cond.selects RX4 yX4_findMember yX4_findMember ∈ zAll := zin_r22 _ (List.mem_of_getElem? (i := 20) rfl)
theorem aw_22_21 : Cond.code yX4_findMember cX4_findMember 5 (some .int) ∈ zAll := zin_r22 _ (List.mem_of_getElem? (i := 21) rfl)
theorem aw_22_22 : Cond.methodLink RL 177 yX5_member ∈ zAll := zin_r22 _ (List.mem_of_getElem? (i := 22) rfl)
theorem aw_22_23 : Cond.instanceMethod yX5_member ∈ zAll := zin_r22 _ (List.mem_of_getElem? (i := 23) rfl)
theorem aw_23_0 : Cond.selects RX5 yX5_member yX5_member ∈ zAll := zin_r23 _ (List.mem_of_getElem? (i := 0) rfl)
theorem aw_23_1 : Cond.code yX5_member cX5_member 5 (some .int) ∈ zAll := zin_r23 _ (List.mem_of_getElem? (i := 1) rfl)
theorem aw_23_2 : Cond.methodLink RL 178 yL_areTogether ∈ zAll := zin_r23 _ (List.mem_of_getElem? (i := 2) rfl)
theorem aw_23_3 : Cond.static yL_areTogether ∈ zAll := zin_r23 _ (List.mem_of_getElem? (i := 3) rfl)
theorem aw_23_4 : Cond.codeWith yL_areTogether cL_areTogether 5 (some .int) [(0, 17, 20, 21)] ∈ zAll := zin_r23 _ (List.mem_of_getElem? (i := 4) rfl)
theorem aw_23_5 : Cond.methodLink RL 66 yX4_areTogether ∈ zAll := zin_r23 _ (List.mem_of_getElem? (i := 5) rfl)
theorem aw_23_6 : Cond.instanceMethod yX4_areTogether ∈ zAll := zin_r23 _ (List.mem_of_getElem? (i := 6) rfl)
theorem aw_23_7 : Cond.selects RX4 yX4_areTogether yX4_areTogether ∈ zAll := zin_r23 _ (List.mem_of_getElem? (i := 7) rfl)
theorem aw_23_8 : Cond.code yX4_areTogether cX4_areTogether 3 (some .boolean) ∈ zAll := zin_r23 _ (List.mem_of_getElem? (i := 8) rfl)
theorem aw_23_9 : Cond.methodLink RL 180 yX5_areTogether ∈ zAll := zin_r23 _ (List.mem_of_getElem? (i := 9) rfl)
theorem aw_23_10 : Cond.instanceMethod yX5_areTogether ∈ zAll := zin_r23 _ (List.mem_of_getElem? (i := 10) rfl)
theorem aw_23_11 : Cond.selects RX5 yX5_areTogether yX5_areTogether ∈ zAll := zin_r23 _ (List.mem_of_getElem? (i := 11) rfl)
theorem aw_23_12 : Cond.code yX5_areTogether cX5_areTogether 3 (some .boolean) ∈ zAll := zin_r23 _ (List.mem_of_getElem? (i := 12) rfl)
theorem aw_23_13 : Cond.methodLink RL 181 yL_step ∈ zAll := zin_r23 _ (List.mem_of_getElem? (i := 13) rfl)
theorem aw_23_14 : Cond.static yL_step ∈ zAll := zin_r23 _ (List.mem_of_getElem? (i := 14) rfl)
theorem aw_23_15 : Cond.codeWith yL_step cL_step 5 (some .int) [(0, 10, 13, 21), (0, 10, 17, 13), (0, 10, 21, 46)] ∈ zAll := zin_r23 _ (List.mem_of_getElem? (i := 15) rfl)
theorem aw_23_16 : Cond.methodLink RL 70 yX4_step ∈ zAll := zin_r23 _ (List.mem_of_getElem? (i := 16) rfl)
theorem aw_23_17 : Cond.instanceMethod yX4_step ∈ zAll := zin_r23 _ (List.mem_of_getElem? (i := 17) rfl)
theorem aw_23_18 : Cond.selects RX4 yX4_step yX4_step ∈ zAll := zin_r23 _ (List.mem_of_getElem? (i := 18) rfl)
theorem aw_23_19 : Cond.code yX4_step cX4_step 4 (some .int) ∈ zAll := zin_r23 _ (List.mem_of_getElem? (i := 19) rfl)
theorem aw_23_20 : Cond.methodLink RX4 153 yX4_findStep ∈ zAll := zin_r23 _ (List.mem_of_getElem? (i := 20) rfl)
theorem aw_23_21 : Cond.instanceMethod yX4_findStep ∈ zAll := zin_r23 _ (List.mem_of_getElem? (i := 21) rfl)
theorem aw_23_22 : Cond.selects RX4 yX4_findStep yX4_findStep ∈ zAll := zin_r23 _ (List.mem_of_getElem? (i := 22) rfl)
theorem aw_23_23 : Cond.code yX4_findStep cX4_findStep 4 (some .int) ∈ zAll := zin_r23 _ (List.mem_of_getElem? (i := 23) rfl)
theorem aw_24_0 : Cond.methodLink RL 183 yX5_step ∈ zAll := zin_r24 _ (List.mem_of_getElem? (i := 0) rfl)
theorem aw_24_1 : Cond.instanceMethod yX5_step ∈ zAll := zin_r24 _ (List.mem_of_getElem? (i := 1) rfl)
theorem aw_24_2 : Cond.selects RX5 yX5_step yX5_step ∈ zAll := zin_r24 _ (List.mem_of_getElem? (i := 2) rfl)
theorem aw_24_3 : Cond.code yX5_step cX5_step 4 (some .int) ∈ zAll := zin_r24 _ (List.mem_of_getElem? (i := 3) rfl)
theorem aw_24_4 : Cond.methodLink RL 184 yL_shared ∈ zAll := zin_r24 _ (List.mem_of_getElem? (i := 4) rfl)
theorem aw_24_5 : Cond.static yL_shared ∈ zAll := zin_r24 _ (List.mem_of_getElem? (i := 5) rfl)
theorem aw_24_6 : Cond.codeWith yL_shared cL_shared 4 (some .int) [(0, 9, 12, 21)] ∈ zAll := zin_r24 _ (List.mem_of_getElem? (i := 6) rfl)
theorem aw_24_7 : Cond.methodLink RL 73 yX4_shared ∈ zAll := zin_r24 _ (List.mem_of_getElem? (i := 7) rfl)
theorem aw_24_8 : Cond.instanceMethod yX4_shared ∈ zAll := zin_r24 _ (List.mem_of_getElem? (i := 8) rfl)
theorem aw_24_9 : Cond.selects RX4 yX4_shared yX4_shared ∈ zAll := zin_r24 _ (List.mem_of_getElem? (i := 9) rfl)
theorem aw_24_10 : Cond.code yX4_shared cX4_shared 4 (some .int) ∈ zAll := zin_r24 _ (List.mem_of_getElem? (i := 10) rfl)
theorem aw_24_11 : Cond.methodLink RX4 159 yX1_isFirstWithKey ∈ zAll := zin_r24 _ (List.mem_of_getElem? (i := 11) rfl)
theorem aw_24_12 : Cond.instanceMethod yX1_isFirstWithKey ∈ zAll := zin_r24 _ (List.mem_of_getElem? (i := 12) rfl)
theorem aw_24_13 : Cond.selects RX1 yX1_isFirstWithKey yX1_isFirstWithKey ∈ zAll := zin_r24 _ (List.mem_of_getElem? (i := 13) rfl)
theorem aw_24_14 : Cond.code yX1_isFirstWithKey cX1_isFirstWithKey 4 (some .boolean) ∈ zAll := zin_r24 _ (List.mem_of_getElem? (i := 14) rfl)
theorem aw_24_15 : Cond.methodLink RX1 60 yX1_haveSameKey ∈ zAll := zin_r24 _ (List.mem_of_getElem? (i := 15) rfl)
theorem aw_24_16 : Cond.methodLink RX4 162 yX4_isKeyElsewhere ∈ zAll := zin_r24 _ (List.mem_of_getElem? (i := 16) rfl)
theorem aw_24_17 : Cond.instanceMethod yX4_isKeyElsewhere ∈ zAll := zin_r24 _ (List.mem_of_getElem? (i := 17) rfl)
theorem aw_24_18 : Cond.selects RX4 yX4_isKeyElsewhere yX4_isKeyElsewhere ∈ zAll := zin_r24 _ (List.mem_of_getElem? (i := 18) rfl)
theorem aw_24_19 : Cond.code yX4_isKeyElsewhere cX4_isKeyElsewhere 5 (some .boolean) ∈ zAll := zin_r24 _ (List.mem_of_getElem? (i := 19) rfl)
theorem aw_24_20 : Cond.methodLink RX4 233 yX1_haveSameKey ∈ zAll := zin_r24 _ (List.mem_of_getElem? (i := 20) rfl)
theorem aw_24_21 : Cond.methodLink RL 186 yX5_shared ∈ zAll := zin_r24 _ (List.mem_of_getElem? (i := 21) rfl)
theorem aw_24_22 : Cond.instanceMethod yX5_shared ∈ zAll := zin_r24 _ (List.mem_of_getElem? (i := 22) rfl)
theorem aw_24_23 : Cond.selects RX5 yX5_shared yX5_shared ∈ zAll := zin_r24 _ (List.mem_of_getElem? (i := 23) rfl)
theorem aw_25_0 : Cond.code yX5_shared cX5_shared 4 (some .int) ∈ zAll := zin_r25 _ (List.mem_of_getElem? (i := 0) rfl)
theorem aw_25_1 : Cond.methodLink RX5 125 yX5_isShared ∈ zAll := zin_r25 _ (List.mem_of_getElem? (i := 1) rfl)
theorem aw_25_2 : Cond.instanceMethod yX5_isShared ∈ zAll := zin_r25 _ (List.mem_of_getElem? (i := 2) rfl)
theorem aw_25_3 : Cond.selects RX5 yX5_isShared yX5_isShared ∈ zAll := zin_r25 _ (List.mem_of_getElem? (i := 3) rfl)
theorem aw_25_4 : Cond.code yX5_isShared cX5_isShared 5 (some .boolean) ∈ zAll := zin_r25 _ (List.mem_of_getElem? (i := 4) rfl)
theorem aw_25_5 : Cond.methodLink RL 187 yL_thingsWithout ∈ zAll := zin_r25 _ (List.mem_of_getElem? (i := 5) rfl)
theorem aw_25_6 : Cond.static yL_thingsWithout ∈ zAll := zin_r25 _ (List.mem_of_getElem? (i := 6) rfl)
theorem aw_25_7 : Cond.codeWith yL_thingsWithout cL_thingsWithout 4 (some .int) [(0, 9, 12, 21)] ∈ zAll := zin_r25 _ (List.mem_of_getElem? (i := 7) rfl)
theorem aw_25_8 : Cond.methodLink RL 76 yX4_thingsWithout ∈ zAll := zin_r25 _ (List.mem_of_getElem? (i := 8) rfl)
theorem aw_25_9 : Cond.instanceMethod yX4_thingsWithout ∈ zAll := zin_r25 _ (List.mem_of_getElem? (i := 9) rfl)
theorem aw_25_10 : Cond.selects RX4 yX4_thingsWithout yX4_thingsWithout ∈ zAll := zin_r25 _ (List.mem_of_getElem? (i := 10) rfl)
theorem aw_25_11 : Cond.code yX4_thingsWithout cX4_thingsWithout 3 (some .int) ∈ zAll := zin_r25 _ (List.mem_of_getElem? (i := 11) rfl)
theorem aw_25_12 : Cond.methodLink RX4 165 yX1_unhide ∈ zAll := zin_r25 _ (List.mem_of_getElem? (i := 12) rfl)
theorem aw_25_13 : Cond.methodLink RL 189 yX5_thingsWithout ∈ zAll := zin_r25 _ (List.mem_of_getElem? (i := 13) rfl)
theorem aw_25_14 : Cond.instanceMethod yX5_thingsWithout ∈ zAll := zin_r25 _ (List.mem_of_getElem? (i := 14) rfl)
theorem aw_25_15 : Cond.selects RX5 yX5_thingsWithout yX5_thingsWithout ∈ zAll := zin_r25 _ (List.mem_of_getElem? (i := 15) rfl)
theorem aw_25_16 : Cond.code yX5_thingsWithout cX5_thingsWithout 3 (some .int) ∈ zAll := zin_r25 _ (List.mem_of_getElem? (i := 16) rfl)
theorem aw_25_17 : Cond.methodLink RL 190 yL_thingsIf ∈ zAll := zin_r25 _ (List.mem_of_getElem? (i := 17) rfl)
theorem aw_25_18 : Cond.static yL_thingsIf ∈ zAll := zin_r25 _ (List.mem_of_getElem? (i := 18) rfl)
theorem aw_25_19 : Cond.codeWith yL_thingsIf cL_thingsIf 6 (some .int) [(0, 12, 15, 21), (0, 12, 19, 13)] ∈ zAll := zin_r25 _ (List.mem_of_getElem? (i := 19) rfl)
theorem aw_25_20 : Cond.methodLink RL 79 yX4_thingsIf ∈ zAll := zin_r25 _ (List.mem_of_getElem? (i := 20) rfl)
theorem aw_25_21 : Cond.instanceMethod yX4_thingsIf ∈ zAll := zin_r25 _ (List.mem_of_getElem? (i := 21) rfl)
theorem aw_25_22 : Cond.selects RX4 yX4_thingsIf yX4_thingsIf ∈ zAll := zin_r25 _ (List.mem_of_getElem? (i := 22) rfl)
theorem aw_25_23 : Cond.code yX4_thingsIf cX4_thingsIf 6 (some .int) ∈ zAll := zin_r25 _ (List.mem_of_getElem? (i := 23) rfl)
theorem aw_26_0 : Cond.methodLink RL 192 yX5_thingsIf ∈ zAll := zin_r26 _ (List.mem_of_getElem? (i := 0) rfl)
theorem aw_26_1 : Cond.instanceMethod yX5_thingsIf ∈ zAll := zin_r26 _ (List.mem_of_getElem? (i := 1) rfl)
theorem aw_26_2 : Cond.selects RX5 yX5_thingsIf yX5_thingsIf ∈ zAll := zin_r26 _ (List.mem_of_getElem? (i := 2) rfl)
theorem aw_26_3 : Cond.code yX5_thingsIf cX5_thingsIf 6 (some .int) ∈ zAll := zin_r26 _ (List.mem_of_getElem? (i := 3) rfl)
theorem aw_26_4 : Cond.methodLink RX5 128 yX5_setKey ∈ zAll := zin_r26 _ (List.mem_of_getElem? (i := 4) rfl)
theorem aw_26_5 : Cond.methodLink RL 193 yL_thingsIfAllowed ∈ zAll := zin_r26 _ (List.mem_of_getElem? (i := 5) rfl)
theorem aw_26_6 : Cond.static yL_thingsIfAllowed ∈ zAll := zin_r26 _ (List.mem_of_getElem? (i := 6) rfl)
theorem aw_26_7 : Cond.codeWith yL_thingsIfAllowed cL_thingsIfAllowed 5 (some .int) [(0, 10, 13, 21), (0, 10, 17, 46)] ∈ zAll := zin_r26 _ (List.mem_of_getElem? (i := 7) rfl)
theorem aw_26_8 : Cond.methodLink RL 82 yX4_thingsIfAllowed ∈ zAll := zin_r26 _ (List.mem_of_getElem? (i := 8) rfl)
theorem aw_26_9 : Cond.instanceMethod yX4_thingsIfAllowed ∈ zAll := zin_r26 _ (List.mem_of_getElem? (i := 9) rfl)
theorem aw_26_10 : Cond.selects RX4 yX4_thingsIfAllowed yX4_thingsIfAllowed ∈ zAll := zin_r26 _ (List.mem_of_getElem? (i := 10) rfl)
theorem aw_26_11 : Cond.code yX4_thingsIfAllowed cX4_thingsIfAllowed 4 (some .int) ∈ zAll := zin_r26 _ (List.mem_of_getElem? (i := 11) rfl)
theorem aw_26_12 : Cond.methodLink RL 195 yX5_thingsIfAllowed ∈ zAll := zin_r26 _ (List.mem_of_getElem? (i := 12) rfl)
theorem aw_26_13 : Cond.instanceMethod yX5_thingsIfAllowed ∈ zAll := zin_r26 _ (List.mem_of_getElem? (i := 13) rfl)
theorem aw_26_14 : Cond.selects RX5 yX5_thingsIfAllowed yX5_thingsIfAllowed ∈ zAll := zin_r26 _ (List.mem_of_getElem? (i := 14) rfl)
theorem aw_26_15 : Cond.code yX5_thingsIfAllowed cX5_thingsIfAllowed 5 (some .int) ∈ zAll := zin_r26 _ (List.mem_of_getElem? (i := 15) rfl)
theorem aw_26_16 : Cond.methodLink RL 196 yL_weight ∈ zAll := zin_r26 _ (List.mem_of_getElem? (i := 16) rfl)
theorem aw_26_17 : Cond.static yL_weight ∈ zAll := zin_r26 _ (List.mem_of_getElem? (i := 17) rfl)
theorem aw_26_18 : Cond.codeWith yL_weight cL_weight 4 (some .int) [(0, 9, 12, 21)] ∈ zAll := zin_r26 _ (List.mem_of_getElem? (i := 18) rfl)
theorem aw_26_19 : Cond.methodLink RL 85 yX4_weight ∈ zAll := zin_r26 _ (List.mem_of_getElem? (i := 19) rfl)
theorem aw_26_20 : Cond.instanceMethod yX4_weight ∈ zAll := zin_r26 _ (List.mem_of_getElem? (i := 20) rfl)
theorem aw_26_21 : Cond.selects RX4 yX4_weight yX4_weight ∈ zAll := zin_r26 _ (List.mem_of_getElem? (i := 21) rfl)
theorem aw_26_22 : Cond.code yX4_weight cX4_weight 2 (some .int) ∈ zAll := zin_r26 _ (List.mem_of_getElem? (i := 22) rfl)
theorem aw_26_23 : Cond.methodLink RX4 168 yX1_weigh ∈ zAll := zin_r26 _ (List.mem_of_getElem? (i := 23) rfl)
theorem aw_27_0 : Cond.instanceMethod yX1_weigh ∈ zAll := zin_r27 _ (List.mem_of_getElem? (i := 0) rfl)
theorem aw_27_1 : Cond.selects RX1 yX1_weigh yX1_weigh ∈ zAll := zin_r27 _ (List.mem_of_getElem? (i := 1) rfl)
theorem aw_27_2 : Cond.code yX1_weigh cX1_weigh 3 (some .int) ∈ zAll := zin_r27 _ (List.mem_of_getElem? (i := 2) rfl)
theorem aw_27_3 : Cond.methodLink RL 198 yX5_weight ∈ zAll := zin_r27 _ (List.mem_of_getElem? (i := 3) rfl)
theorem aw_27_4 : Cond.instanceMethod yX5_weight ∈ zAll := zin_r27 _ (List.mem_of_getElem? (i := 4) rfl)
theorem aw_27_5 : Cond.selects RX5 yX5_weight yX5_weight ∈ zAll := zin_r27 _ (List.mem_of_getElem? (i := 5) rfl)
theorem aw_27_6 : Cond.code yX5_weight cX5_weight 2 (some .int) ∈ zAll := zin_r27 _ (List.mem_of_getElem? (i := 6) rfl)
theorem aw_27_7 : Cond.methodLink RX5 132 yX5_weightOf ∈ zAll := zin_r27 _ (List.mem_of_getElem? (i := 7) rfl)
theorem aw_27_8 : Cond.instanceMethod yX5_weightOf ∈ zAll := zin_r27 _ (List.mem_of_getElem? (i := 8) rfl)
theorem aw_27_9 : Cond.selects RX5 yX5_weightOf yX5_weightOf ∈ zAll := zin_r27 _ (List.mem_of_getElem? (i := 9) rfl)
theorem aw_27_10 : Cond.code yX5_weightOf cX5_weightOf 2 (some .int) ∈ zAll := zin_r27 _ (List.mem_of_getElem? (i := 10) rfl)
theorem aw_27_11 : Cond.methodLink RL 199 yL_fact ∈ zAll := zin_r27 _ (List.mem_of_getElem? (i := 11) rfl)
theorem aw_27_12 : Cond.static yL_fact ∈ zAll := zin_r27 _ (List.mem_of_getElem? (i := 12) rfl)
theorem aw_27_13 : Cond.codeWith yL_fact cL_fact 5 (some .int) [(0, 10, 13, 21), (0, 10, 17, 46)] ∈ zAll := zin_r27 _ (List.mem_of_getElem? (i := 13) rfl)
theorem aw_27_14 : Cond.methodLink RL 88 yX4_fact ∈ zAll := zin_r27 _ (List.mem_of_getElem? (i := 14) rfl)
theorem aw_27_15 : Cond.instanceMethod yX4_fact ∈ zAll := zin_r27 _ (List.mem_of_getElem? (i := 15) rfl)
theorem aw_27_16 : Cond.selects RX4 yX4_fact yX4_fact ∈ zAll := zin_r27 _ (List.mem_of_getElem? (i := 16) rfl)
theorem aw_27_17 : Cond.code yX4_fact cX4_fact 4 (some .int) ∈ zAll := zin_r27 _ (List.mem_of_getElem? (i := 17) rfl)
theorem aw_27_18 : Cond.methodLink RX4 171 yX4_findFirstByOrder ∈ zAll := zin_r27 _ (List.mem_of_getElem? (i := 18) rfl)
theorem aw_27_19 : Cond.instanceMethod yX4_findFirstByOrder ∈ zAll := zin_r27 _ (List.mem_of_getElem? (i := 19) rfl)
theorem aw_27_20 : Cond.selects RX4 yX4_findFirstByOrder yX4_findFirstByOrder ∈ zAll := zin_r27 _ (List.mem_of_getElem? (i := 20) rfl)
theorem aw_27_21 : Cond.code yX4_findFirstByOrder cX4_findFirstByOrder 5 (some .int) ∈ zAll := zin_r27 _ (List.mem_of_getElem? (i := 21) rfl)
theorem aw_27_22 : Cond.methodLink RX4 236 yX4_orderMembers ∈ zAll := zin_r27 _ (List.mem_of_getElem? (i := 22) rfl)
theorem aw_27_23 : Cond.instanceMethod yX4_orderMembers ∈ zAll := zin_r27 _ (List.mem_of_getElem? (i := 23) rfl)
theorem aw_28_0 : Cond.selects RX4 yX4_orderMembers yX4_orderMembers ∈ zAll := zin_r28 _ (List.mem_of_getElem? (i := 0) rfl)
theorem aw_28_1 : Cond.code yX4_orderMembers cX4_orderMembers 5 (some .int) ∈ zAll := zin_r28 _ (List.mem_of_getElem? (i := 1) rfl)
theorem aw_28_2 : Cond.methodLink RX4 239 yX1_isAhead ∈ zAll := zin_r28 _ (List.mem_of_getElem? (i := 2) rfl)
theorem aw_28_3 : Cond.instanceMethod yX1_isAhead ∈ zAll := zin_r28 _ (List.mem_of_getElem? (i := 3) rfl)
theorem aw_28_4 : Cond.selects RX1 yX1_isAhead yX1_isAhead ∈ zAll := zin_r28 _ (List.mem_of_getElem? (i := 4) rfl)
theorem aw_28_5 : Cond.code yX1_isAhead cX1_isAhead 6 (some .boolean) ∈ zAll := zin_r28 _ (List.mem_of_getElem? (i := 5) rfl)
theorem aw_28_6 : Cond.methodLink RX1 70 yX1_weigh ∈ zAll := zin_r28 _ (List.mem_of_getElem? (i := 6) rfl)
theorem aw_28_7 : Cond.methodLink RX4 174 yX4_checkFactRecord ∈ zAll := zin_r28 _ (List.mem_of_getElem? (i := 7) rfl)
theorem aw_28_8 : Cond.static yX4_checkFactRecord ∈ zAll := zin_r28 _ (List.mem_of_getElem? (i := 8) rfl)
theorem aw_28_9 : Cond.code yX4_checkFactRecord cX4_checkFactRecord 1 none ∈ zAll := zin_r28 _ (List.mem_of_getElem? (i := 9) rfl)
theorem aw_28_10 : Cond.methodLink RL 201 yX5_fact ∈ zAll := zin_r28 _ (List.mem_of_getElem? (i := 10) rfl)
theorem aw_28_11 : Cond.instanceMethod yX5_fact ∈ zAll := zin_r28 _ (List.mem_of_getElem? (i := 11) rfl)
theorem aw_28_12 : Cond.selects RX5 yX5_fact yX5_fact ∈ zAll := zin_r28 _ (List.mem_of_getElem? (i := 12) rfl)
theorem aw_28_13 : Cond.code yX5_fact cX5_fact 4 (some .int) ∈ zAll := zin_r28 _ (List.mem_of_getElem? (i := 13) rfl)
theorem aw_28_14 : Cond.methodLink RX5 138 yX5_teller ∈ zAll := zin_r28 _ (List.mem_of_getElem? (i := 14) rfl)
theorem aw_28_15 : Cond.instanceMethod yX5_teller ∈ zAll := zin_r28 _ (List.mem_of_getElem? (i := 15) rfl)
theorem aw_28_16 : Cond.selects RX5 yX5_teller yX5_teller ∈ zAll := zin_r28 _ (List.mem_of_getElem? (i := 16) rfl)
theorem aw_28_17 : Cond.code yX5_teller cX5_teller 5 (some .int) ∈ zAll := zin_r28 _ (List.mem_of_getElem? (i := 17) rfl)
theorem aw_28_18 : Cond.methodLink RX5 135 yX5_isAhead ∈ zAll := zin_r28 _ (List.mem_of_getElem? (i := 18) rfl)
theorem aw_28_19 : Cond.instanceMethod yX5_isAhead ∈ zAll := zin_r28 _ (List.mem_of_getElem? (i := 19) rfl)
theorem aw_28_20 : Cond.selects RX5 yX5_isAhead yX5_isAhead ∈ zAll := zin_r28 _ (List.mem_of_getElem? (i := 20) rfl)
theorem aw_28_21 : Cond.code yX5_isAhead cX5_isAhead 3 (some .boolean) ∈ zAll := zin_r28 _ (List.mem_of_getElem? (i := 21) rfl)
theorem aw_28_22 : Cond.methodLink RL 202 yL_factByPairs ∈ zAll := zin_r28 _ (List.mem_of_getElem? (i := 22) rfl)
theorem aw_28_23 : Cond.static yL_factByPairs ∈ zAll := zin_r28 _ (List.mem_of_getElem? (i := 23) rfl)
theorem aw_29_0 : Cond.codeWith yL_factByPairs cL_factByPairs 5 (some .int) [(0, 10, 13, 21), (0, 10, 17, 46)] ∈ zAll := zin_r29 _ (List.mem_of_getElem? (i := 0) rfl)
theorem aw_29_1 : Cond.methodLink RL 91 yX4_factByPairs ∈ zAll := zin_r29 _ (List.mem_of_getElem? (i := 1) rfl)
theorem aw_29_2 : Cond.instanceMethod yX4_factByPairs ∈ zAll := zin_r29 _ (List.mem_of_getElem? (i := 2) rfl)
theorem aw_29_3 : Cond.selects RX4 yX4_factByPairs yX4_factByPairs ∈ zAll := zin_r29 _ (List.mem_of_getElem? (i := 3) rfl)
theorem aw_29_4 : Cond.code yX4_factByPairs cX4_factByPairs 4 (some .int) ∈ zAll := zin_r29 _ (List.mem_of_getElem? (i := 4) rfl)
theorem aw_29_5 : Cond.methodLink RX4 177 yX4_findFirstByPairs ∈ zAll := zin_r29 _ (List.mem_of_getElem? (i := 5) rfl)
theorem aw_29_6 : Cond.instanceMethod yX4_findFirstByPairs ∈ zAll := zin_r29 _ (List.mem_of_getElem? (i := 6) rfl)
theorem aw_29_7 : Cond.selects RX4 yX4_findFirstByPairs yX4_findFirstByPairs ∈ zAll := zin_r29 _ (List.mem_of_getElem? (i := 7) rfl)
theorem aw_29_8 : Cond.code yX4_findFirstByPairs cX4_findFirstByPairs 4 (some .int) ∈ zAll := zin_r29 _ (List.mem_of_getElem? (i := 8) rfl)
theorem aw_29_9 : Cond.methodLink RX4 180 yX4_tellsFact ∈ zAll := zin_r29 _ (List.mem_of_getElem? (i := 9) rfl)
theorem aw_29_10 : Cond.instanceMethod yX4_tellsFact ∈ zAll := zin_r29 _ (List.mem_of_getElem? (i := 10) rfl)
theorem aw_29_11 : Cond.selects RX4 yX4_tellsFact yX4_tellsFact ∈ zAll := zin_r29 _ (List.mem_of_getElem? (i := 11) rfl)
theorem aw_29_12 : Cond.code yX4_tellsFact cX4_tellsFact 4 (some .boolean) ∈ zAll := zin_r29 _ (List.mem_of_getElem? (i := 12) rfl)
theorem aw_29_13 : Cond.methodLink RX4 242 yX4_isBeaten ∈ zAll := zin_r29 _ (List.mem_of_getElem? (i := 13) rfl)
theorem aw_29_14 : Cond.instanceMethod yX4_isBeaten ∈ zAll := zin_r29 _ (List.mem_of_getElem? (i := 14) rfl)
theorem aw_29_15 : Cond.selects RX4 yX4_isBeaten yX4_isBeaten ∈ zAll := zin_r29 _ (List.mem_of_getElem? (i := 15) rfl)
theorem aw_29_16 : Cond.code yX4_isBeaten cX4_isBeaten 5 (some .boolean) ∈ zAll := zin_r29 _ (List.mem_of_getElem? (i := 16) rfl)
theorem aw_29_17 : Cond.methodLink RL 204 yX5_factByPairs ∈ zAll := zin_r29 _ (List.mem_of_getElem? (i := 17) rfl)
theorem aw_29_18 : Cond.instanceMethod yX5_factByPairs ∈ zAll := zin_r29 _ (List.mem_of_getElem? (i := 18) rfl)
theorem aw_29_19 : Cond.selects RX5 yX5_factByPairs yX5_factByPairs ∈ zAll := zin_r29 _ (List.mem_of_getElem? (i := 19) rfl)
theorem aw_29_20 : Cond.code yX5_factByPairs cX5_factByPairs 3 (some .int) ∈ zAll := zin_r29 _ (List.mem_of_getElem? (i := 20) rfl)
theorem aw_29_21 : Cond.methodLink RX5 141 yX5_fact ∈ zAll := zin_r29 _ (List.mem_of_getElem? (i := 21) rfl)
theorem aw_29_22 : Cond.methodLink RL 205 yL_factFrom ∈ zAll := zin_r29 _ (List.mem_of_getElem? (i := 22) rfl)
theorem aw_29_23 : Cond.static yL_factFrom ∈ zAll := zin_r29 _ (List.mem_of_getElem? (i := 23) rfl)
theorem aw_30_0 : Cond.codeWith yL_factFrom cL_factFrom 5 (some .int) [(0, 10, 13, 21), (0, 10, 17, 46)] ∈ zAll := zin_r30 _ (List.mem_of_getElem? (i := 0) rfl)
theorem aw_30_1 : Cond.methodLink RL 94 yX4_factFrom ∈ zAll := zin_r30 _ (List.mem_of_getElem? (i := 1) rfl)
theorem aw_30_2 : Cond.instanceMethod yX4_factFrom ∈ zAll := zin_r30 _ (List.mem_of_getElem? (i := 2) rfl)
theorem aw_30_3 : Cond.selects RX4 yX4_factFrom yX4_factFrom ∈ zAll := zin_r30 _ (List.mem_of_getElem? (i := 3) rfl)
theorem aw_30_4 : Cond.code yX4_factFrom cX4_factFrom 4 (some .int) ∈ zAll := zin_r30 _ (List.mem_of_getElem? (i := 4) rfl)
theorem aw_30_5 : Cond.methodLink RL 207 yX5_factFrom ∈ zAll := zin_r30 _ (List.mem_of_getElem? (i := 5) rfl)
theorem aw_30_6 : Cond.instanceMethod yX5_factFrom ∈ zAll := zin_r30 _ (List.mem_of_getElem? (i := 6) rfl)
theorem aw_30_7 : Cond.selects RX5 yX5_factFrom yX5_factFrom ∈ zAll := zin_r30 _ (List.mem_of_getElem? (i := 7) rfl)
theorem aw_30_8 : Cond.code yX5_factFrom cX5_factFrom 4 (some .int) ∈ zAll := zin_r30 _ (List.mem_of_getElem? (i := 8) rfl)
theorem aw_30_9 : Cond.methodLink RL 208 yL_agreement ∈ zAll := zin_r30 _ (List.mem_of_getElem? (i := 9) rfl)
theorem aw_30_10 : Cond.static yL_agreement ∈ zAll := zin_r30 _ (List.mem_of_getElem? (i := 10) rfl)
theorem aw_30_11 : Cond.codeWith yL_agreement cL_agreement 5 (some .int) [(0, 10, 13, 21), (0, 10, 17, 46)] ∈ zAll := zin_r30 _ (List.mem_of_getElem? (i := 11) rfl)
theorem aw_30_12 : Cond.methodLink RL 97 yX4_agreement ∈ zAll := zin_r30 _ (List.mem_of_getElem? (i := 12) rfl)
theorem aw_30_13 : Cond.instanceMethod yX4_agreement ∈ zAll := zin_r30 _ (List.mem_of_getElem? (i := 13) rfl)
theorem aw_30_14 : Cond.selects RX4 yX4_agreement yX4_agreement ∈ zAll := zin_r30 _ (List.mem_of_getElem? (i := 14) rfl)
theorem aw_30_15 : Cond.code yX4_agreement cX4_agreement 8 (some .float) ∈ zAll := zin_r30 _ (List.mem_of_getElem? (i := 15) rfl)
theorem aw_30_16 : Cond.methodLink RL 211 yX5_agreement ∈ zAll := zin_r30 _ (List.mem_of_getElem? (i := 16) rfl)
theorem aw_30_17 : Cond.instanceMethod yX5_agreement ∈ zAll := zin_r30 _ (List.mem_of_getElem? (i := 17) rfl)
theorem aw_30_18 : Cond.selects RX5 yX5_agreement yX5_agreement ∈ zAll := zin_r30 _ (List.mem_of_getElem? (i := 18) rfl)
theorem aw_30_19 : Cond.code yX5_agreement cX5_agreement 8 (some .float) ∈ zAll := zin_r30 _ (List.mem_of_getElem? (i := 19) rfl)
theorem aw_30_20 : Cond.methodLink RL 212 yL_setLimit ∈ zAll := zin_r30 _ (List.mem_of_getElem? (i := 20) rfl)
theorem aw_30_21 : Cond.static yL_setLimit ∈ zAll := zin_r30 _ (List.mem_of_getElem? (i := 21) rfl)
theorem aw_30_22 : Cond.codeWith yL_setLimit cL_setLimit 4 (some .int) [(0, 9, 12, 13)] ∈ zAll := zin_r30 _ (List.mem_of_getElem? (i := 22) rfl)
theorem aw_30_23 : Cond.methodLink RL 101 yX4_setLimit ∈ zAll := zin_r30 _ (List.mem_of_getElem? (i := 23) rfl)
theorem aw_31_0 : Cond.instanceMethod yX4_setLimit ∈ zAll := zin_r31 _ (List.mem_of_getElem? (i := 0) rfl)
theorem aw_31_1 : Cond.selects RX4 yX4_setLimit yX4_setLimit ∈ zAll := zin_r31 _ (List.mem_of_getElem? (i := 1) rfl)
theorem aw_31_2 : Cond.code yX4_setLimit cX4_setLimit 3 (some .int) ∈ zAll := zin_r31 _ (List.mem_of_getElem? (i := 2) rfl)
theorem aw_31_3 : Cond.methodLink RL 214 yX5_setLimit ∈ zAll := zin_r31 _ (List.mem_of_getElem? (i := 3) rfl)
theorem aw_31_4 : Cond.instanceMethod yX5_setLimit ∈ zAll := zin_r31 _ (List.mem_of_getElem? (i := 4) rfl)
theorem aw_31_5 : Cond.selects RX5 yX5_setLimit yX5_setLimit ∈ zAll := zin_r31 _ (List.mem_of_getElem? (i := 5) rfl)
theorem aw_31_6 : Cond.code yX5_setLimit cX5_setLimit 3 (some .int) ∈ zAll := zin_r31 _ (List.mem_of_getElem? (i := 6) rfl)
theorem aw_31_7 : Cond.methodLink RL 215 yL_isGhost ∈ zAll := zin_r31 _ (List.mem_of_getElem? (i := 7) rfl)
theorem aw_31_8 : Cond.static yL_isGhost ∈ zAll := zin_r31 _ (List.mem_of_getElem? (i := 8) rfl)
theorem aw_31_9 : Cond.codeWith yL_isGhost cL_isGhost 4 (some .int) [(0, 16, 19, 21)] ∈ zAll := zin_r31 _ (List.mem_of_getElem? (i := 9) rfl)
theorem aw_31_10 : Cond.methodLink RL 104 yX4_isGhost ∈ zAll := zin_r31 _ (List.mem_of_getElem? (i := 10) rfl)
theorem aw_31_11 : Cond.instanceMethod yX4_isGhost ∈ zAll := zin_r31 _ (List.mem_of_getElem? (i := 11) rfl)
theorem aw_31_12 : Cond.selects RX4 yX4_isGhost yX4_isGhost ∈ zAll := zin_r31 _ (List.mem_of_getElem? (i := 12) rfl)
theorem aw_31_13 : Cond.code yX4_isGhost cX4_isGhost 2 (some .boolean) ∈ zAll := zin_r31 _ (List.mem_of_getElem? (i := 13) rfl)
theorem aw_31_14 : Cond.methodLink RX4 184 yX4_isGhostOn ∈ zAll := zin_r31 _ (List.mem_of_getElem? (i := 14) rfl)
theorem aw_31_15 : Cond.instanceMethod yX4_isGhostOn ∈ zAll := zin_r31 _ (List.mem_of_getElem? (i := 15) rfl)
theorem aw_31_16 : Cond.selects RX4 yX4_isGhostOn yX4_isGhostOn ∈ zAll := zin_r31 _ (List.mem_of_getElem? (i := 16) rfl)
theorem aw_31_17 : Cond.code yX4_isGhostOn cX4_isGhostOn 3 (some .boolean) ∈ zAll := zin_r31 _ (List.mem_of_getElem? (i := 17) rfl)
theorem aw_31_18 : Cond.methodLink RX4 191 yX4_findLastSeen ∈ zAll := zin_r31 _ (List.mem_of_getElem? (i := 18) rfl)
theorem aw_31_19 : Cond.instanceMethod yX4_findLastSeen ∈ zAll := zin_r31 _ (List.mem_of_getElem? (i := 19) rfl)
theorem aw_31_20 : Cond.selects RX4 yX4_findLastSeen yX4_findLastSeen ∈ zAll := zin_r31 _ (List.mem_of_getElem? (i := 20) rfl)
theorem aw_31_21 : Cond.code yX4_findLastSeen cX4_findLastSeen 4 (some .int) ∈ zAll := zin_r31 _ (List.mem_of_getElem? (i := 21) rfl)
theorem aw_31_22 : Cond.methodLink RX4 245 Lib.Math.max.name ∈ zAll := zin_r31 _ (List.mem_of_getElem? (i := 22) rfl)
theorem aw_31_23 : Cond.methodLink RL 217 yX5_isGhost ∈ zAll := zin_r31 _ (List.mem_of_getElem? (i := 23) rfl)
theorem aw_32_0 : Cond.instanceMethod yX5_isGhost ∈ zAll := zin_r32 _ (List.mem_of_getElem? (i := 0) rfl)
theorem aw_32_1 : Cond.selects RX5 yX5_isGhost yX5_isGhost ∈ zAll := zin_r32 _ (List.mem_of_getElem? (i := 1) rfl)
theorem aw_32_2 : Cond.code yX5_isGhost cX5_isGhost 2 (some .boolean) ∈ zAll := zin_r32 _ (List.mem_of_getElem? (i := 2) rfl)
theorem aw_32_3 : Cond.methodLink RX5 149 yX5_lastOf ∈ zAll := zin_r32 _ (List.mem_of_getElem? (i := 3) rfl)
theorem aw_32_4 : Cond.instanceMethod yX5_lastOf ∈ zAll := zin_r32 _ (List.mem_of_getElem? (i := 4) rfl)
theorem aw_32_5 : Cond.selects RX5 yX5_lastOf yX5_lastOf ∈ zAll := zin_r32 _ (List.mem_of_getElem? (i := 5) rfl)
theorem aw_32_6 : Cond.code yX5_lastOf cX5_lastOf 4 (some .int) ∈ zAll := zin_r32 _ (List.mem_of_getElem? (i := 6) rfl)
theorem aw_32_7 : Cond.methodLink RX5 144 Lib.Math.max.name ∈ zAll := zin_r32 _ (List.mem_of_getElem? (i := 7) rfl)
theorem aw_32_8 : Cond.methodLink RL 218 yX4_ghosts ∈ zAll := zin_r32 _ (List.mem_of_getElem? (i := 8) rfl)
theorem aw_32_9 : Cond.instanceMethod yX4_ghosts ∈ zAll := zin_r32 _ (List.mem_of_getElem? (i := 9) rfl)
theorem aw_32_10 : Cond.selects RX4 yX4_ghosts yX4_ghosts ∈ zAll := zin_r32 _ (List.mem_of_getElem? (i := 10) rfl)
theorem aw_32_11 : Cond.code yX4_ghosts cX4_ghosts 3 (some .int) ∈ zAll := zin_r32 _ (List.mem_of_getElem? (i := 11) rfl)
theorem aw_32_12 : Cond.methodLink RL 221 yX5_ghosts ∈ zAll := zin_r32 _ (List.mem_of_getElem? (i := 12) rfl)
theorem aw_32_13 : Cond.instanceMethod yX5_ghosts ∈ zAll := zin_r32 _ (List.mem_of_getElem? (i := 13) rfl)
theorem aw_32_14 : Cond.selects RX5 yX5_ghosts yX5_ghosts ∈ zAll := zin_r32 _ (List.mem_of_getElem? (i := 14) rfl)
theorem aw_32_15 : Cond.code yX5_ghosts cX5_ghosts 3 (some .int) ∈ zAll := zin_r32 _ (List.mem_of_getElem? (i := 15) rfl)
theorem aw_32_16 : Cond.methodLink RL 222 yX4_nextGhost ∈ zAll := zin_r32 _ (List.mem_of_getElem? (i := 16) rfl)
theorem aw_32_17 : Cond.instanceMethod yX4_nextGhost ∈ zAll := zin_r32 _ (List.mem_of_getElem? (i := 17) rfl)
theorem aw_32_18 : Cond.selects RX4 yX4_nextGhost yX4_nextGhost ∈ zAll := zin_r32 _ (List.mem_of_getElem? (i := 18) rfl)
theorem aw_32_19 : Cond.code yX4_nextGhost cX4_nextGhost 4 (some .int) ∈ zAll := zin_r32 _ (List.mem_of_getElem? (i := 19) rfl)
theorem aw_32_20 : Cond.methodLink RL 225 yX5_nextGhost ∈ zAll := zin_r32 _ (List.mem_of_getElem? (i := 20) rfl)
theorem aw_32_21 : Cond.instanceMethod yX5_nextGhost ∈ zAll := zin_r32 _ (List.mem_of_getElem? (i := 21) rfl)
theorem aw_32_22 : Cond.selects RX5 yX5_nextGhost yX5_nextGhost ∈ zAll := zin_r32 _ (List.mem_of_getElem? (i := 22) rfl)
theorem aw_32_23 : Cond.code yX5_nextGhost cX5_nextGhost 4 (some .int) ∈ zAll := zin_r32 _ (List.mem_of_getElem? (i := 23) rfl)
theorem aw_33_0 : Cond.methodLink RL 226 yX4_nextGhostByDays ∈ zAll := zin_r33 _ (List.mem_of_getElem? (i := 0) rfl)
theorem aw_33_1 : Cond.instanceMethod yX4_nextGhostByDays ∈ zAll := zin_r33 _ (List.mem_of_getElem? (i := 1) rfl)
theorem aw_33_2 : Cond.selects RX4 yX4_nextGhostByDays yX4_nextGhostByDays ∈ zAll := zin_r33 _ (List.mem_of_getElem? (i := 2) rfl)
theorem aw_33_3 : Cond.code yX4_nextGhostByDays cX4_nextGhostByDays 3 (some .int) ∈ zAll := zin_r33 _ (List.mem_of_getElem? (i := 3) rfl)
theorem aw_33_4 : Cond.methodLink RX4 194 Lib.Math.min.name ∈ zAll := zin_r33 _ (List.mem_of_getElem? (i := 4) rfl)
theorem aw_33_5 : Cond.methodLink RX4 199 yX4_becomesGhostOn ∈ zAll := zin_r33 _ (List.mem_of_getElem? (i := 5) rfl)
theorem aw_33_6 : Cond.instanceMethod yX4_becomesGhostOn ∈ zAll := zin_r33 _ (List.mem_of_getElem? (i := 6) rfl)
theorem aw_33_7 : Cond.selects RX4 yX4_becomesGhostOn yX4_becomesGhostOn ∈ zAll := zin_r33 _ (List.mem_of_getElem? (i := 7) rfl)
theorem aw_33_8 : Cond.code yX4_becomesGhostOn cX4_becomesGhostOn 3 (some .boolean) ∈ zAll := zin_r33 _ (List.mem_of_getElem? (i := 8) rfl)
theorem aw_33_9 : Cond.methodLink RL 229 yX5_nextGhostByDays ∈ zAll := zin_r33 _ (List.mem_of_getElem? (i := 9) rfl)
theorem aw_33_10 : Cond.instanceMethod yX5_nextGhostByDays ∈ zAll := zin_r33 _ (List.mem_of_getElem? (i := 10) rfl)
theorem aw_33_11 : Cond.selects RX5 yX5_nextGhostByDays yX5_nextGhostByDays ∈ zAll := zin_r33 _ (List.mem_of_getElem? (i := 11) rfl)
theorem aw_33_12 : Cond.code yX5_nextGhostByDays cX5_nextGhostByDays 1 (some .int) ∈ zAll := zin_r33 _ (List.mem_of_getElem? (i := 12) rfl)
theorem aw_33_13 : Cond.methodLink RX5 152 yX5_nextGhost ∈ zAll := zin_r33 _ (List.mem_of_getElem? (i := 13) rfl)
theorem aw_33_14 : Cond.methodLink RL 230 yL_pass ∈ zAll := zin_r33 _ (List.mem_of_getElem? (i := 14) rfl)
theorem aw_33_15 : Cond.static yL_pass ∈ zAll := zin_r33 _ (List.mem_of_getElem? (i := 15) rfl)
theorem aw_33_16 : Cond.codeWith yL_pass cL_pass 4 (some .int) [(0, 9, 12, 13)] ∈ zAll := zin_r33 _ (List.mem_of_getElem? (i := 16) rfl)
theorem aw_33_17 : Cond.methodLink RL 108 yX4_pass ∈ zAll := zin_r33 _ (List.mem_of_getElem? (i := 17) rfl)
theorem aw_33_18 : Cond.instanceMethod yX4_pass ∈ zAll := zin_r33 _ (List.mem_of_getElem? (i := 18) rfl)
theorem aw_33_19 : Cond.selects RX4 yX4_pass yX4_pass ∈ zAll := zin_r33 _ (List.mem_of_getElem? (i := 19) rfl)
theorem aw_33_20 : Cond.code yX4_pass cX4_pass 2 (some .int) ∈ zAll := zin_r33 _ (List.mem_of_getElem? (i := 20) rfl)
theorem aw_33_21 : Cond.methodLink RL 232 yX5_pass ∈ zAll := zin_r33 _ (List.mem_of_getElem? (i := 21) rfl)
theorem aw_33_22 : Cond.instanceMethod yX5_pass ∈ zAll := zin_r33 _ (List.mem_of_getElem? (i := 22) rfl)
theorem aw_33_23 : Cond.selects RX5 yX5_pass yX5_pass ∈ zAll := zin_r33 _ (List.mem_of_getElem? (i := 23) rfl)
theorem aw_34_0 : Cond.code yX5_pass cX5_pass 2 (some .int) ∈ zAll := zin_r34 _ (List.mem_of_getElem? (i := 0) rfl)
theorem aw_34_1 : Cond.methodLink RL 233 yX4_today ∈ zAll := zin_r34 _ (List.mem_of_getElem? (i := 1) rfl)
theorem aw_34_2 : Cond.instanceMethod yX4_today ∈ zAll := zin_r34 _ (List.mem_of_getElem? (i := 2) rfl)
theorem aw_34_3 : Cond.selects RX4 yX4_today yX4_today ∈ zAll := zin_r34 _ (List.mem_of_getElem? (i := 3) rfl)
theorem aw_34_4 : Cond.code yX4_today cX4_today 1 (some .int) ∈ zAll := zin_r34 _ (List.mem_of_getElem? (i := 4) rfl)
theorem aw_34_5 : Cond.methodLink RL 236 yX5_today ∈ zAll := zin_r34 _ (List.mem_of_getElem? (i := 5) rfl)
theorem aw_34_6 : Cond.instanceMethod yX5_today ∈ zAll := zin_r34 _ (List.mem_of_getElem? (i := 6) rfl)
theorem aw_34_7 : Cond.selects RX5 yX5_today yX5_today ∈ zAll := zin_r34 _ (List.mem_of_getElem? (i := 7) rfl)
theorem aw_34_8 : Cond.code yX5_today cX5_today 1 (some .int) ∈ zAll := zin_r34 _ (List.mem_of_getElem? (i := 8) rfl)
theorem aw_34_9 : Cond.methodLink RL 237 yX4_mark ∈ zAll := zin_r34 _ (List.mem_of_getElem? (i := 9) rfl)
theorem aw_34_10 : Cond.instanceMethod yX4_mark ∈ zAll := zin_r34 _ (List.mem_of_getElem? (i := 10) rfl)
theorem aw_34_11 : Cond.selects RX4 yX4_mark yX4_mark ∈ zAll := zin_r34 _ (List.mem_of_getElem? (i := 11) rfl)
theorem aw_34_12 : Cond.code yX4_mark cX4_mark 6 (some .long) ∈ zAll := zin_r34 _ (List.mem_of_getElem? (i := 12) rfl)
theorem aw_34_13 : Cond.methodLink RX4 202 yX4_sumMembers ∈ zAll := zin_r34 _ (List.mem_of_getElem? (i := 13) rfl)
theorem aw_34_14 : Cond.instanceMethod yX4_sumMembers ∈ zAll := zin_r34 _ (List.mem_of_getElem? (i := 14) rfl)
theorem aw_34_15 : Cond.selects RX4 yX4_sumMembers yX4_sumMembers ∈ zAll := zin_r34 _ (List.mem_of_getElem? (i := 15) rfl)
theorem aw_34_16 : Cond.code yX4_sumMembers cX4_sumMembers 4 (some .int) ∈ zAll := zin_r34 _ (List.mem_of_getElem? (i := 16) rfl)
theorem aw_34_17 : Cond.methodLink RL 241 yX5_mark ∈ zAll := zin_r34 _ (List.mem_of_getElem? (i := 17) rfl)
theorem aw_34_18 : Cond.instanceMethod yX5_mark ∈ zAll := zin_r34 _ (List.mem_of_getElem? (i := 18) rfl)
theorem aw_34_19 : Cond.selects RX5 yX5_mark yX5_mark ∈ zAll := zin_r34 _ (List.mem_of_getElem? (i := 19) rfl)
theorem aw_34_20 : Cond.code yX5_mark cX5_mark 9 (some .long) ∈ zAll := zin_r34 _ (List.mem_of_getElem? (i := 20) rfl)
theorem zAll_good : zAll.all goodWord = true := by decide +kernel
/-- a callee's words and its link, in a caller's -/
theorem zgood {w : Cond} (h : w ∈ zAll) : (w.onTables && w.keeps) = true ∨ ∃ ty, w = .arrayClass ty := good_of_word (List.all_eq_true.mp zAll_good w h)
theorem zGoodIn {ws : List Cond} (h : ∀ w ∈ ws, w ∈ zAll) : GoodIn zAll ws := fun w hw => ⟨h w hw, zgood (h w hw)⟩
end
section
abbrev vwCl : List vw_C := [(RX1, TX1, 10), (RX2, TX2, 2), (RX3, TX3, 2), (RX4, TX4, 6), (RX5, TX5, 18)]
/-! THE ABSTRACT WALK. The memory of a fixed world of cells is a function: number of the cell, slot, int. 'Wm' says that the method,
standing at pc with these locals and this stack over this memory, comes to its end with Z. References are numbers of cells. -/
abbrev Sg : Type := Nat → Nat → Int32
abbrev Dsc : Type := (Nat × Nat) ⊕ ((Nat × Nat × (Nat → Option Nat)) ⊕ (Nat × List (Option Nat)))
def zu (σ : Sg) (k j : Nat) (x : Int32) : Sg := fun a b => if a = k then (if b = j then x else σ a b) else σ a b
theorem zu_at (σ : Sg) (k j : Nat) (x : Int32) : zu σ k j x k = upd (σ k) j x := by
  funext b
  simp [zu, upd]
theorem zu_ne (σ : Sg) {k a : Nat} (j : Nat) (x : Int32) (h : a ≠ k) : zu σ k j x a = σ a := by
  funext b
  simp [zu, h]
def zv (ad : Nat → Nat) (v : Value) : Value := match v with
  | .ref k => .ref (ad k)
  | v => v
theorem zv_cat (ad : Nat → Nat) (v : Value) : (zv ad v).category = v.category := by cases v <;> rfl
def zfv (ad : Nat → Nat) (r : Nat → Int32) (j : Nat) (f : Option Nat) : Value := match f with
  | none => .int (r j)
  | some k => .ref (ad k)
def zent (cT ad : Nat → Nat) (d : Dsc) (r : Nat → Int32) : va_E := match d with
  | .inl (t, n) => .inl (cT t, n, .inl r)
  | .inr (.inl (t, n, f)) => .inl (cT t, n, .inr (.inr (.inr (.inr (fun i => (f i).map ad)))))
  | .inr (.inr (ci, fs)) => .inr (ci, fs.mapIdx (zfv ad r))
def zw (cT ad : Nat → Nat) (L : List Dsc) (σ : Sg) : va_W := L.mapIdx (fun k d => (ad k, zent cT ad d (σ k)))
theorem zw_len (cT ad : Nat → Nat) (L : List Dsc) (σ : Sg) : (zw cT ad L σ).length = L.length := by simp [zw]
theorem zw_get {cT ad : Nat → Nat} {L : List Dsc} {σ : Sg} {k : Nat} {d : Dsc} (X : va_W) (h : L[k]? = some d) : (zw cT ad L σ ++ X)[k]? = some (ad k, zent cT ad d (σ k)) := by
  have hl : k < L.length := (List.getElem?_eq_some_iff.mp h).1
  rw [List.getElem?_append_left (by rw [zw_len]; exact hl)]
  simp [zw, List.getElem?_mapIdx, h]
theorem zw_set {cT ad : Nat → Nat} {L : List Dsc} {σ : Sg} {k j : Nat} {d : Dsc} {x : Int32} {e : va_E} (X : va_W) (h : L[k]? = some d) (he : e = zent cT ad d (upd (σ k) j x)) : (zw cT ad L σ ++ X).set k (ad k, e) = zw cT ad L (zu σ k j x) ++ X := by
  have hl : k < L.length := (List.getElem?_eq_some_iff.mp h).1
  rw [List.set_append_left _ _ (by rw [zw_len]; exact hl)]
  congr 1
  apply List.ext_getElem?
  intro i
  by_cases hi : i = k
  · subst hi
    rw [List.getElem?_set_self (by rw [zw_len]; exact hl)]
    simp [zw, List.getElem?_mapIdx, h, zu_at, he]
  · rw [List.getElem?_set_ne (Ne.symm hi)]
    simp only [zw, List.getElem?_mapIdx, zu_ne σ j x hi]
theorem zfv_set {ad : Nat → Nat} {r : Nat → Int32} {fs : List (Option Nat)} {j : Nat} {x : Int32} (h : fs[j]? = some none) : (fs.mapIdx (zfv ad r)).set j (.int x) = fs.mapIdx (zfv ad (upd r j x)) := by
  have hl : j < fs.length := (List.getElem?_eq_some_iff.mp h).1
  apply List.ext_getElem?
  intro i
  by_cases hi : i = j
  · subst hi
    rw [List.getElem?_set_self (by simpa using hl)]
    simp [List.getElem?_mapIdx, h, zfv, upd]
  · rw [List.getElem?_set_ne (Ne.symm hi)]
    simp only [List.getElem?_mapIdx]
    cases fs[i]? with
    | none => rfl
    | some f => cases f <;> simp [zfv, upd, hi]
/-- the locals, by their numbers -/
def zl : List (Nat × Value) → Nat → Option Value
  | [], _ => none
  | (j, v) :: t, i => match Nat.beq j i with
    | true => some v
    | false => zl t i
theorem zl_pos : ∀ {ls : List (Nat × Value)} {i : Nat} {v : Value}, zl ls i = some v → ∃ k : Nat, ls[k]? = some (i, v)
  | [], i, v, h => by cases h
  | (j, w) :: t, i, v, h => by
    unfold zl at h
    cases hb : Nat.beq j i with
    | true =>
      rw [hb] at h
      have hj : j = i := Nat.eq_of_beq_eq_true hb
      cases h
      exact ⟨0, by rw [hj]; rfl⟩
    | false =>
      rw [hb] at h
      obtain ⟨k, hk⟩ := zl_pos h
      exact ⟨k + 1, by simpa using hk⟩
abbrev zlm (ad : Nat → Nat) (ls : List (Nat × Value)) : List (Nat × Value) := ls.map (fun q => (q.1, zv ad q.2))
theorem zl_posm {ad : Nat → Nat} {ls : List (Nat × Value)} {i : Nat} {v : Value} (h : zl ls i = some v) : ∃ k : Nat, (zlm ad ls)[k]? = some (i, zv ad v) := by
  obtain ⟨k, hk⟩ := zl_pos h
  exact ⟨k, by simp [zlm, hk]⟩
theorem zl_at {ad : Nat → Nat} {la : Array Slot} {nL : Nat} {ls : List (Nat × Value)} {i : Nat} {v : Value} (hl : lv_has la nL (zlm ad ls)) (h : zl ls i = some v) : la[i]? = some (.val (zv ad v)) := by
  obtain ⟨k, hk⟩ := zl_posm (ad := ad) h
  exact lv_at hl k hk
abbrev zk1 (i : Nat) (ls : List (Nat × Value)) : List (Nat × Value) := ls.filter (fun q => !(q.1 == i) && !(q.1 + 1 == i && q.2.category == 2))
abbrev zk2 (i : Nat) (ls : List (Nat × Value)) : List (Nat × Value) := ls.filter (fun q => !(q.1 == i) && (!(q.1 == i + 1) && !(q.1 + 1 == i && q.2.category == 2)))
theorem zk1_m (ad : Nat → Nat) (i : Nat) (ls : List (Nat × Value)) : zk1 i (zlm ad ls) = zlm ad (zk1 i ls) := by
  induction ls with
  | nil => rfl
  | cons a t ih =>
    simp only [zk1, zlm, List.map_cons, List.filter_cons, zv_cat] at ih ⊢
    split <;> simp_all
theorem zk2_m (ad : Nat → Nat) (i : Nat) (ls : List (Nat × Value)) : zk2 i (zlm ad ls) = zlm ad (zk2 i ls) := by
  induction ls with
  | nil => rfl
  | cons a t ih =>
    simp only [zk2, zlm, List.map_cons, List.filter_cons, zv_cat] at ih ⊢
    split <;> simp_all
def ztys (cT : Nat → Nat) : List (ClassId × FieldType) := [(cT 0, .int), (cT 1, .array .int), (cT 2, .boolean), (cT 3, .long), (cT 4, .double)]
/-- the world: the cells of the layout L and the further ones X, apart, all of A; what isn't of A is as at the start -/
def zW (D : va_G) (cT ad : Nat → Nat) (L : List Dsc) (X : va_W) (A : Nat → Prop) (s : State) (σ : Sg) (H : Heap) (locs : List Loc) : Prop :=
  (∀ q : Nat, s.heap.size ≤ q → A q) ∧ va_K D vwCl (ztys cT) s ∧ va_P D vwCl (zw cT ad L σ ++ X) H ∧ va_D A (zw cT ad L σ ++ X) ∧ va_S A s.heap H locs
def zC (TB : Code → Prop) (own : String) (cc : ByteArray) (nL : Nat) (ret : Option FieldType) (p : Program) (s : State) (m : MethodId) (args : Array Value) (meth : Method) (c : Code) : Prop :=
  p.tables.exec = Jvm.exec ∧ c.code = cc ∧ c.maxLocals = nL ∧ s.vm.findClass own = some m.cls ∧ (∀ w ∈ zAll, w.before args s = true) ∧ meth.sig.returnType = ret ∧ meth.locks = false ∧ TB c
def Wm (TB : Code → Prop) (l : Launch) (R : Room) (own : String) (cc : ByteArray) (nL : Nat) (ret : Option FieldType) (D : va_G) (cT ad : Nat → Nat) (L : List Dsc) (A : Nat → Prop) (Z : List Frame → Array Value → State → State → Prop) (X : va_W) (pc : Nat) (ls : List (Nat × Value)) (st : List Value) (σ : Sg) (k n : Nat) : Prop :=
  ∀ (p : Program) (e : Env) (s : State) (m : MethodId) (args : Array Value) (below : List Frame) (meth : Method) (c : Code) (H : Heap) (locs : List Loc) (la : Array Slot), zC TB own cc nL ret p s m args meth c → zW D cT ad L X A s σ H locs → lv_has la nL (zlm ad ls) →
    W p l e R s m args below meth c H locs k n (Z below args s) (F0 m pc la (st.map (zv ad)))
section WM
variable {TB : Code → Prop} {l : Launch} {R : Room} {own : String} {cc : ByteArray} {nL : Nat} {ret : Option FieldType} {D : va_G} {cT ad : Nat → Nat} {L : List Dsc} {A : Nat → Prop} {Z : List Frame → Array Value → State → State → Prop} {X : va_W} {pc : Nat} {ls : List (Nat × Value)} {st : List Value} {σ : Sg} {k n : Nat}

theorem wm_iadd {x y : Int32} (q : Nat) (hq : pc + 1 = q) (d : decode cc pc = .ok (.iadd, 1)) (kk : Wm TB l R own cc nL ret D cT ad L A Z X q ls (.int (x + y) :: st) σ k n) : Wm TB l R own cc nL ret D cT ad L A Z X pc ls (.int y :: .int x :: st) σ k n := by
  subst hq
  intro p e s m args below meth c H locs la C w hl
  obtain ⟨hx, hb, hml, hown, hts, hr, hlk, hTB⟩ := id C
  exact lv_iadd hx hb d (kk p e s m args below meth c H locs la C w hl)
theorem wm_isub {x y : Int32} (q : Nat) (hq : pc + 1 = q) (d : decode cc pc = .ok (.isub, 1)) (kk : Wm TB l R own cc nL ret D cT ad L A Z X q ls (.int (x - y) :: st) σ k n) : Wm TB l R own cc nL ret D cT ad L A Z X pc ls (.int y :: .int x :: st) σ k n := by
  subst hq
  intro p e s m args below meth c H locs la C w hl
  obtain ⟨hx, hb, hml, hown, hts, hr, hlk, hTB⟩ := id C
  exact lv_isub hx hb d (kk p e s m args below meth c H locs la C w hl)
theorem wm_imul {x y : Int32} (q : Nat) (hq : pc + 1 = q) (d : decode cc pc = .ok (.imul, 1)) (kk : Wm TB l R own cc nL ret D cT ad L A Z X q ls (.int (x * y) :: st) σ k n) : Wm TB l R own cc nL ret D cT ad L A Z X pc ls (.int y :: .int x :: st) σ k n := by
  subst hq
  intro p e s m args below meth c H locs la C w hl
  obtain ⟨hx, hb, hml, hown, hts, hr, hlk, hTB⟩ := id C
  exact lv_imul hx hb d (kk p e s m args below meth c H locs la C w hl)
theorem wm_iand {x y : Int32} (q : Nat) (hq : pc + 1 = q) (d : decode cc pc = .ok (.iand, 1)) (kk : Wm TB l R own cc nL ret D cT ad L A Z X q ls (.int (x &&& y) :: st) σ k n) : Wm TB l R own cc nL ret D cT ad L A Z X pc ls (.int y :: .int x :: st) σ k n := by
  subst hq
  intro p e s m args below meth c H locs la C w hl
  obtain ⟨hx, hb, hml, hown, hts, hr, hlk, hTB⟩ := id C
  exact lv_iand hx hb d (kk p e s m args below meth c H locs la C w hl)
theorem wm_ior {x y : Int32} (q : Nat) (hq : pc + 1 = q) (d : decode cc pc = .ok (.ior, 1)) (kk : Wm TB l R own cc nL ret D cT ad L A Z X q ls (.int (x ||| y) :: st) σ k n) : Wm TB l R own cc nL ret D cT ad L A Z X pc ls (.int y :: .int x :: st) σ k n := by
  subst hq
  intro p e s m args below meth c H locs la C w hl
  obtain ⟨hx, hb, hml, hown, hts, hr, hlk, hTB⟩ := id C
  exact lv_ior hx hb d (kk p e s m args below meth c H locs la C w hl)
theorem wm_ixor {x y : Int32} (q : Nat) (hq : pc + 1 = q) (d : decode cc pc = .ok (.ixor, 1)) (kk : Wm TB l R own cc nL ret D cT ad L A Z X q ls (.int (x ^^^ y) :: st) σ k n) : Wm TB l R own cc nL ret D cT ad L A Z X pc ls (.int y :: .int x :: st) σ k n := by
  subst hq
  intro p e s m args below meth c H locs la C w hl
  obtain ⟨hx, hb, hml, hown, hts, hr, hlk, hTB⟩ := id C
  exact lv_ixor hx hb d (kk p e s m args below meth c H locs la C w hl)
theorem wm_idiv {x y : Int32} (q : Nat) (hq : pc + 1 = q) (d : decode cc pc = .ok (.idiv, 1)) (hne : ¬ y = 0) (kk : Wm TB l R own cc nL ret D cT ad L A Z X q ls (.int (x / y) :: st) σ k n) : Wm TB l R own cc nL ret D cT ad L A Z X pc ls (.int y :: .int x :: st) σ k n := by
  subst hq
  intro p e s m args below meth c H locs la C w hl
  obtain ⟨hx, hb, hml, hown, hts, hr, hlk, hTB⟩ := id C
  exact lv_idiv hx hb d hne (kk p e s m args below meth c H locs la C w hl)
theorem wm_ishl {x y : Int32} (q : Nat) (hq : pc + 1 = q) (d : decode cc pc = .ok (.ishl, 1)) (kk : Wm TB l R own cc nL ret D cT ad L A Z X q ls (.int (x <<< (y &&& 31)) :: st) σ k n) : Wm TB l R own cc nL ret D cT ad L A Z X pc ls (.int y :: .int x :: st) σ k n := by
  subst hq
  intro p e s m args below meth c H locs la C w hl
  obtain ⟨hx, hb, hml, hown, hts, hr, hlk, hTB⟩ := id C
  exact lv_ishl hx hb d (kk p e s m args below meth c H locs la C w hl)
theorem wm_ishr {x y : Int32} (q : Nat) (hq : pc + 1 = q) (d : decode cc pc = .ok (.ishr, 1)) (kk : Wm TB l R own cc nL ret D cT ad L A Z X q ls (.int (x >>> (y &&& 31)) :: st) σ k n) : Wm TB l R own cc nL ret D cT ad L A Z X pc ls (.int y :: .int x :: st) σ k n := by
  subst hq
  intro p e s m args below meth c H locs la C w hl
  obtain ⟨hx, hb, hml, hown, hts, hr, hlk, hTB⟩ := id C
  exact lv_ishr hx hb d (kk p e s m args below meth c H locs la C w hl)
theorem wm_iushr {x y : Int32} (q : Nat) (hq : pc + 1 = q) (d : decode cc pc = .ok (.iushr, 1)) (kk : Wm TB l R own cc nL ret D cT ad L A Z X q ls (.int (x.toUInt32 >>> (y.toUInt32 &&& Int32.toUInt32 31)).toInt32 :: st) σ k n) : Wm TB l R own cc nL ret D cT ad L A Z X pc ls (.int y :: .int x :: st) σ k n := by
  subst hq
  intro p e s m args below meth c H locs la C w hl
  obtain ⟨hx, hb, hml, hown, hts, hr, hlk, hTB⟩ := id C
  exact lv_iushr hx hb d rfl (kk p e s m args below meth c H locs la C w hl)
theorem wm_ladd {x y : Int64} (q : Nat) (hq : pc + 1 = q) (d : decode cc pc = .ok (.ladd, 1)) (kk : Wm TB l R own cc nL ret D cT ad L A Z X q ls (.long (x + y) :: st) σ k n) : Wm TB l R own cc nL ret D cT ad L A Z X pc ls (.long y :: .long x :: st) σ k n := by
  subst hq
  intro p e s m args below meth c H locs la C w hl
  obtain ⟨hx, hb, hml, hown, hts, hr, hlk, hTB⟩ := id C
  exact lv_ladd hx hb d (kk p e s m args below meth c H locs la C w hl)
theorem wm_lsub {x y : Int64} (q : Nat) (hq : pc + 1 = q) (d : decode cc pc = .ok (.lsub, 1)) (kk : Wm TB l R own cc nL ret D cT ad L A Z X q ls (.long (x - y) :: st) σ k n) : Wm TB l R own cc nL ret D cT ad L A Z X pc ls (.long y :: .long x :: st) σ k n := by
  subst hq
  intro p e s m args below meth c H locs la C w hl
  obtain ⟨hx, hb, hml, hown, hts, hr, hlk, hTB⟩ := id C
  exact lv_lsub hx hb d (kk p e s m args below meth c H locs la C w hl)
theorem wm_lmul {x y : Int64} (q : Nat) (hq : pc + 1 = q) (d : decode cc pc = .ok (.lmul, 1)) (kk : Wm TB l R own cc nL ret D cT ad L A Z X q ls (.long (x * y) :: st) σ k n) : Wm TB l R own cc nL ret D cT ad L A Z X pc ls (.long y :: .long x :: st) σ k n := by
  subst hq
  intro p e s m args below meth c H locs la C w hl
  obtain ⟨hx, hb, hml, hown, hts, hr, hlk, hTB⟩ := id C
  exact lv_lmul hx hb d (kk p e s m args below meth c H locs la C w hl)
theorem wm_i2l {x : Int32} (q : Nat) (hq : pc + 1 = q) (d : decode cc pc = .ok (.i2l, 1)) (kk : Wm TB l R own cc nL ret D cT ad L A Z X q ls (.long x.toInt64 :: st) σ k n) : Wm TB l R own cc nL ret D cT ad L A Z X pc ls (.int x :: st) σ k n := by
  subst hq
  intro p e s m args below meth c H locs la C w hl
  obtain ⟨hx, hb, hml, hown, hts, hr, hlk, hTB⟩ := id C
  exact lv_i2l hx hb d rfl (kk p e s m args below meth c H locs la C w hl)
theorem wm_i2f {x : Int32} (q : Nat) (hq : pc + 1 = q) (d : decode cc pc = .ok (.i2f, 1)) (kk : Wm TB l R own cc nL ret D cT ad L A Z X q ls (.float (FP.i2f x) :: st) σ k n) : Wm TB l R own cc nL ret D cT ad L A Z X pc ls (.int x :: st) σ k n := by
  subst hq
  intro p e s m args below meth c H locs la C w hl
  obtain ⟨hx, hb, hml, hown, hts, hr, hlk, hTB⟩ := id C
  exact lv_i2f hx hb d (kk p e s m args below meth c H locs la C w hl)
theorem wm_iconst {v : Int32} {z : Int} (q : Nat) (hq : pc + 1 = q) (d : decode cc pc = .ok (.iconst z, 1)) (hv : Int32.ofInt z = v) (kk : Wm TB l R own cc nL ret D cT ad L A Z X q ls (.int v :: st) σ k n) : Wm TB l R own cc nL ret D cT ad L A Z X pc ls (st) σ k n := by
  subst hq
  intro p e s m args below meth c H locs la C w hl
  obtain ⟨hx, hb, hml, hown, hts, hr, hlk, hTB⟩ := id C
  exact lv_iconst hx hb d hv (kk p e s m args below meth c H locs la C w hl)
theorem wm_bipush {v : Int32} {z : Int} (q : Nat) (hq : pc + 2 = q) (d : decode cc pc = .ok (.bipush z, 2)) (hv : (Int8.ofInt z).toInt32 = v) (kk : Wm TB l R own cc nL ret D cT ad L A Z X q ls (.int v :: st) σ k n) : Wm TB l R own cc nL ret D cT ad L A Z X pc ls (st) σ k n := by
  subst hq
  intro p e s m args below meth c H locs la C w hl
  obtain ⟨hx, hb, hml, hown, hts, hr, hlk, hTB⟩ := id C
  exact lv_bipush hx hb d hv (kk p e s m args below meth c H locs la C w hl)
theorem wm_sipush {v : Int32} {z : Int} (q : Nat) (hq : pc + 3 = q) (d : decode cc pc = .ok (.sipush z, 3)) (hv : (Int16.ofInt z).toInt32 = v) (kk : Wm TB l R own cc nL ret D cT ad L A Z X q ls (.int v :: st) σ k n) : Wm TB l R own cc nL ret D cT ad L A Z X pc ls (st) σ k n := by
  subst hq
  intro p e s m args below meth c H locs la C w hl
  obtain ⟨hx, hb, hml, hown, hts, hr, hlk, hTB⟩ := id C
  exact lv_sipush hx hb d hv (kk p e s m args below meth c H locs la C w hl)
theorem wm_lconst {v : Int64} {z : Fin 2} (q : Nat) (hq : pc + 1 = q) (d : decode cc pc = .ok (.lconst z, 1)) (hv : Int64.ofNat (z : Nat) = v) (kk : Wm TB l R own cc nL ret D cT ad L A Z X q ls (.long v :: st) σ k n) : Wm TB l R own cc nL ret D cT ad L A Z X pc ls (st) σ k n := by
  subst hq
  intro p e s m args below meth c H locs la C w hl
  obtain ⟨hx, hb, hml, hown, hts, hr, hlk, hTB⟩ := id C
  exact lv_lconst hx hb d hv (kk p e s m args below meth c H locs la C w hl)
theorem wm_fconst0 (q : Nat) (hq : pc + 1 = q) (d : decode cc pc = .ok (.fconst 0, 1)) (kk : Wm TB l R own cc nL ret D cT ad L A Z X q ls (.float 0 :: st) σ k n) : Wm TB l R own cc nL ret D cT ad L A Z X pc ls (st) σ k n := by
  subst hq
  intro p e s m args below meth c H locs la C w hl
  obtain ⟨hx, hb, hml, hown, hts, hr, hlk, hTB⟩ := id C
  exact lv_fconst0 hx hb d (kk p e s m args below meth c H locs la C w hl)
theorem wm_lcmp {x y : Int64} (q : Nat) (hq : pc + 1 = q) (d : decode cc pc = .ok (.lcmp, 1)) (kk : Wm TB l R own cc nL ret D cT ad L A Z X q ls (.int (lg_cmp x y) :: st) σ k n) : Wm TB l R own cc nL ret D cT ad L A Z X pc ls (.long y :: .long x :: st) σ k n := by
  subst hq
  intro p e s m args below meth c H locs la C w hl
  obtain ⟨hx, hb, hml, hown, hts, hr, hlk, hTB⟩ := id C
  exact W.lcmp hx hb d (kk p e s m args below meth c H locs la C w hl)
theorem wm_fdiv {x y : UInt32} (q : Nat) (hq : pc + 1 = q) (d : decode cc pc = .ok (.fdiv, 1)) (hne : vf_n32 (FP.fdiv x y)) (kk : Wm TB l R own cc nL ret D cT ad L A Z X q ls (.float (FP.fdiv x y) :: st) σ k n) : Wm TB l R own cc nL ret D cT ad L A Z X pc ls (.float y :: .float x :: st) σ k n := by
  subst hq
  intro p e s m args below meth c H locs la C w hl
  obtain ⟨hx, hb, hml, hown, hts, hr, hlk, hTB⟩ := id C
  exact lv_fdiv hx hb d hne (kk p e s m args below meth c H locs la C w hl)
theorem wm_dup {v : Value} (q : Nat) (hq : pc + 1 = q) (hv : v.category = 1) (d : decode cc pc = .ok (.dup, 1)) (kk : Wm TB l R own cc nL ret D cT ad L A Z X q ls (v :: v :: st) σ k n) : Wm TB l R own cc nL ret D cT ad L A Z X pc ls (v :: st) σ k n := by
  subst hq
  intro p e s m args below meth c H locs la C w hl
  obtain ⟨hx, hb, hml, hown, hts, hr, hlk, hTB⟩ := id C
  exact lv_dup hx hb d ((zv_cat ad v).trans hv) (kk p e s m args below meth c H locs la C w hl)
theorem wm_dup2 {v v2 : Value} (q : Nat) (hq : pc + 1 = q) (hv : v.category = 1) (hv2 : v2.category = 1) (d : decode cc pc = .ok (.dup2, 1)) (kk : Wm TB l R own cc nL ret D cT ad L A Z X q ls (v :: v2 :: v :: v2 :: st) σ k n) : Wm TB l R own cc nL ret D cT ad L A Z X pc ls (v :: v2 :: st) σ k n := by
  subst hq
  intro p e s m args below meth c H locs la C w hl
  obtain ⟨hx, hb, hml, hown, hts, hr, hlk, hTB⟩ := id C
  exact lv_dup2_11 hx hb d ((zv_cat ad v).trans hv) ((zv_cat ad v2).trans hv2) (kk p e s m args below meth c H locs la C w hl)
theorem wm_dup_x1 {v v2 : Value} (q : Nat) (hq : pc + 1 = q) (hv : v.category = 1) (hv2 : v2.category = 1) (d : decode cc pc = .ok (.dup_x1, 1)) (kk : Wm TB l R own cc nL ret D cT ad L A Z X q ls (v :: v2 :: v :: st) σ k n) : Wm TB l R own cc nL ret D cT ad L A Z X pc ls (v :: v2 :: st) σ k n := by
  subst hq
  intro p e s m args below meth c H locs la C w hl
  obtain ⟨hx, hb, hml, hown, hts, hr, hlk, hTB⟩ := id C
  exact lv_dup_x1 hx hb d ((zv_cat ad v).trans hv) ((zv_cat ad v2).trans hv2) (kk p e s m args below meth c H locs la C w hl)
theorem wm_pop {v : Value} (q : Nat) (hq : pc + 1 = q) (hv : v.category = 1) (d : decode cc pc = .ok (.pop, 1)) (kk : Wm TB l R own cc nL ret D cT ad L A Z X q ls (st) σ k n) : Wm TB l R own cc nL ret D cT ad L A Z X pc ls (v :: st) σ k n := by
  subst hq
  intro p e s m args below meth c H locs la C w hl
  obtain ⟨hx, hb, hml, hown, hts, hr, hlk, hTB⟩ := id C
  exact lv_pop hx hb d ((zv_cat ad v).trans hv) (kk p e s m args below meth c H locs la C w hl)
theorem wm_iload_n {x : Int32} {i : Nat} {z : Fin 4} (q : Nat) (hq : pc + 1 = q) (d : decode cc pc = .ok (.iload_n z, 1)) (hi : (z : Nat) = i) (hg : zl ls i = some (.int x)) (kk : Wm TB l R own cc nL ret D cT ad L A Z X q ls (.int x :: st) σ k n) : Wm TB l R own cc nL ret D cT ad L A Z X pc ls (st) σ k n := by
  subst hq
  intro p e s m args below meth c H locs la C w hl
  obtain ⟨hx, hb, hml, hown, hts, hr, hlk, hTB⟩ := id C
  exact lv_iload_n hx hb d hi (zl_at hl hg) (kk p e s m args below meth c H locs la C w hl)
theorem wm_iload {x : Int32} {i : Nat} (q : Nat) (hq : pc + 2 = q) (d : decode cc pc = .ok (.iload i, 2)) (hg : zl ls i = some (.int x)) (kk : Wm TB l R own cc nL ret D cT ad L A Z X q ls (.int x :: st) σ k n) : Wm TB l R own cc nL ret D cT ad L A Z X pc ls (st) σ k n := by
  subst hq
  intro p e s m args below meth c H locs la C w hl
  obtain ⟨hx, hb, hml, hown, hts, hr, hlk, hTB⟩ := id C
  exact lv_iload hx hb d (zl_at hl hg) (kk p e s m args below meth c H locs la C w hl)
theorem wm_lload_n {x : Int64} {i : Nat} {z : Fin 4} (q : Nat) (hq : pc + 1 = q) (d : decode cc pc = .ok (.lload_n z, 1)) (hi : (z : Nat) = i) (hg : zl ls i = some (.long x)) (kk : Wm TB l R own cc nL ret D cT ad L A Z X q ls (.long x :: st) σ k n) : Wm TB l R own cc nL ret D cT ad L A Z X pc ls (st) σ k n := by
  subst hq
  intro p e s m args below meth c H locs la C w hl
  obtain ⟨hx, hb, hml, hown, hts, hr, hlk, hTB⟩ := id C
  exact lv_lload_n hx hb d hi (zl_at hl hg) (kk p e s m args below meth c H locs la C w hl)
theorem wm_lload {x : Int64} {i : Nat} (q : Nat) (hq : pc + 2 = q) (d : decode cc pc = .ok (.lload i, 2)) (hg : zl ls i = some (.long x)) (kk : Wm TB l R own cc nL ret D cT ad L A Z X q ls (.long x :: st) σ k n) : Wm TB l R own cc nL ret D cT ad L A Z X pc ls (st) σ k n := by
  subst hq
  intro p e s m args below meth c H locs la C w hl
  obtain ⟨hx, hb, hml, hown, hts, hr, hlk, hTB⟩ := id C
  exact lv_lload hx hb d (zl_at hl hg) (kk p e s m args below meth c H locs la C w hl)
theorem wm_aload_n {x : Nat} {i : Nat} {z : Fin 4} (q : Nat) (hq : pc + 1 = q) (d : decode cc pc = .ok (.aload_n z, 1)) (hi : (z : Nat) = i) (hg : zl ls i = some (.ref x)) (kk : Wm TB l R own cc nL ret D cT ad L A Z X q ls (.ref x :: st) σ k n) : Wm TB l R own cc nL ret D cT ad L A Z X pc ls (st) σ k n := by
  subst hq
  intro p e s m args below meth c H locs la C w hl
  obtain ⟨hx, hb, hml, hown, hts, hr, hlk, hTB⟩ := id C
  exact lv_aload_n hx hb d hi (zl_at hl hg) (kk p e s m args below meth c H locs la C w hl)
theorem wm_aload {x : Nat} {i : Nat} (q : Nat) (hq : pc + 2 = q) (d : decode cc pc = .ok (.aload i, 2)) (hg : zl ls i = some (.ref x)) (kk : Wm TB l R own cc nL ret D cT ad L A Z X q ls (.ref x :: st) σ k n) : Wm TB l R own cc nL ret D cT ad L A Z X pc ls (st) σ k n := by
  subst hq
  intro p e s m args below meth c H locs la C w hl
  obtain ⟨hx, hb, hml, hown, hts, hr, hlk, hTB⟩ := id C
  exact lv_aload hx hb d (zl_at hl hg) (kk p e s m args below meth c H locs la C w hl)
theorem wm_fload_n {x : UInt32} {i : Nat} {z : Fin 4} (q : Nat) (hq : pc + 1 = q) (d : decode cc pc = .ok (.fload_n z, 1)) (hi : (z : Nat) = i) (hg : zl ls i = some (.float x)) (kk : Wm TB l R own cc nL ret D cT ad L A Z X q ls (.float x :: st) σ k n) : Wm TB l R own cc nL ret D cT ad L A Z X pc ls (st) σ k n := by
  subst hq
  intro p e s m args below meth c H locs la C w hl
  obtain ⟨hx, hb, hml, hown, hts, hr, hlk, hTB⟩ := id C
  exact lv_fload_n hx hb d hi (zl_at hl hg) (kk p e s m args below meth c H locs la C w hl)
theorem wm_fload {x : UInt32} {i : Nat} (q : Nat) (hq : pc + 2 = q) (d : decode cc pc = .ok (.fload i, 2)) (hg : zl ls i = some (.float x)) (kk : Wm TB l R own cc nL ret D cT ad L A Z X q ls (.float x :: st) σ k n) : Wm TB l R own cc nL ret D cT ad L A Z X pc ls (st) σ k n := by
  subst hq
  intro p e s m args below meth c H locs la C w hl
  obtain ⟨hx, hb, hml, hown, hts, hr, hlk, hTB⟩ := id C
  exact lv_fload hx hb d (zl_at hl hg) (kk p e s m args below meth c H locs la C w hl)
theorem wm_istore_n {x : Int32} {i : Nat} {z : Fin 4} {ls' : List (Nat × Value)} (q : Nat) (hq : pc + 1 = q) (d : decode cc pc = .ok (.istore_n z, 1)) (hi : (z : Nat) = i) (hn : i < nL) (hl9 : (i, Value.int x) :: zk1 i ls = ls') (kk : Wm TB l R own cc nL ret D cT ad L A Z X q ls' (st) σ k n) : Wm TB l R own cc nL ret D cT ad L A Z X pc ls (.int x :: st) σ k n := by
  subst hq
  intro p e s m args below meth c H locs la C w hl
  obtain ⟨hx, hb, hml, hown, hts, hr, hlk, hTB⟩ := id C
  exact lv_istore_n (lv' := zlm ad ls') hx hb d hi hl hn (by show _ :: zk1 i (zlm ad ls) = zlm ad ls'; rw [zk1_m, ← hl9]; rfl) (fun la' hl' => kk p e s m args below meth c H locs la' C w hl')
theorem wm_istore {x : Int32} {i : Nat} {ls' : List (Nat × Value)} (q : Nat) (hq : pc + 2 = q) (d : decode cc pc = .ok (.istore i, 2)) (hn : i < nL) (hl9 : (i, Value.int x) :: zk1 i ls = ls') (kk : Wm TB l R own cc nL ret D cT ad L A Z X q ls' (st) σ k n) : Wm TB l R own cc nL ret D cT ad L A Z X pc ls (.int x :: st) σ k n := by
  subst hq
  intro p e s m args below meth c H locs la C w hl
  obtain ⟨hx, hb, hml, hown, hts, hr, hlk, hTB⟩ := id C
  exact lv_istore (lv' := zlm ad ls') hx hb d hl hn (by show _ :: zk1 i (zlm ad ls) = zlm ad ls'; rw [zk1_m, ← hl9]; rfl) (fun la' hl' => kk p e s m args below meth c H locs la' C w hl')
theorem wm_lstore_n {x : Int64} {i : Nat} {z : Fin 4} {ls' : List (Nat × Value)} (q : Nat) (hq : pc + 1 = q) (d : decode cc pc = .ok (.lstore_n z, 1)) (hi : (z : Nat) = i) (hn : i + 1 < nL) (hl9 : (i, Value.long x) :: zk2 i ls = ls') (kk : Wm TB l R own cc nL ret D cT ad L A Z X q ls' (st) σ k n) : Wm TB l R own cc nL ret D cT ad L A Z X pc ls (.long x :: st) σ k n := by
  subst hq
  intro p e s m args below meth c H locs la C w hl
  obtain ⟨hx, hb, hml, hown, hts, hr, hlk, hTB⟩ := id C
  exact lv_lstore_n (lv' := zlm ad ls') hx hb d hi hl hn (by show _ :: zk2 i (zlm ad ls) = zlm ad ls'; rw [zk2_m, ← hl9]; rfl) (fun la' hl' => kk p e s m args below meth c H locs la' C w hl')
theorem wm_lstore {x : Int64} {i : Nat} {ls' : List (Nat × Value)} (q : Nat) (hq : pc + 2 = q) (d : decode cc pc = .ok (.lstore i, 2)) (hn : i + 1 < nL) (hl9 : (i, Value.long x) :: zk2 i ls = ls') (kk : Wm TB l R own cc nL ret D cT ad L A Z X q ls' (st) σ k n) : Wm TB l R own cc nL ret D cT ad L A Z X pc ls (.long x :: st) σ k n := by
  subst hq
  intro p e s m args below meth c H locs la C w hl
  obtain ⟨hx, hb, hml, hown, hts, hr, hlk, hTB⟩ := id C
  exact lv_lstore (lv' := zlm ad ls') hx hb d hl hn (by show _ :: zk2 i (zlm ad ls) = zlm ad ls'; rw [zk2_m, ← hl9]; rfl) (fun la' hl' => kk p e s m args below meth c H locs la' C w hl')
theorem wm_astore_n {x : Nat} {i : Nat} {z : Fin 4} {ls' : List (Nat × Value)} (q : Nat) (hq : pc + 1 = q) (d : decode cc pc = .ok (.astore_n z, 1)) (hi : (z : Nat) = i) (hn : i < nL) (hl9 : (i, Value.ref x) :: zk1 i ls = ls') (kk : Wm TB l R own cc nL ret D cT ad L A Z X q ls' (st) σ k n) : Wm TB l R own cc nL ret D cT ad L A Z X pc ls (.ref x :: st) σ k n := by
  subst hq
  intro p e s m args below meth c H locs la C w hl
  obtain ⟨hx, hb, hml, hown, hts, hr, hlk, hTB⟩ := id C
  exact lv_astore_n (lv' := zlm ad ls') hx hb d hi hl hn (by show _ :: zk1 i (zlm ad ls) = zlm ad ls'; rw [zk1_m, ← hl9]; rfl) (fun la' hl' => kk p e s m args below meth c H locs la' C w hl')
theorem wm_astore {x : Nat} {i : Nat} {ls' : List (Nat × Value)} (q : Nat) (hq : pc + 2 = q) (d : decode cc pc = .ok (.astore i, 2)) (hn : i < nL) (hl9 : (i, Value.ref x) :: zk1 i ls = ls') (kk : Wm TB l R own cc nL ret D cT ad L A Z X q ls' (st) σ k n) : Wm TB l R own cc nL ret D cT ad L A Z X pc ls (.ref x :: st) σ k n := by
  subst hq
  intro p e s m args below meth c H locs la C w hl
  obtain ⟨hx, hb, hml, hown, hts, hr, hlk, hTB⟩ := id C
  exact lv_astore (lv' := zlm ad ls') hx hb d hl hn (by show _ :: zk1 i (zlm ad ls) = zlm ad ls'; rw [zk1_m, ← hl9]; rfl) (fun la' hl' => kk p e s m args below meth c H locs la' C w hl')
theorem wm_fstore_n {x : UInt32} {i : Nat} {z : Fin 4} {ls' : List (Nat × Value)} (q : Nat) (hq : pc + 1 = q) (d : decode cc pc = .ok (.fstore_n z, 1)) (hi : (z : Nat) = i) (hn : i < nL) (hl9 : (i, Value.float x) :: zk1 i ls = ls') (kk : Wm TB l R own cc nL ret D cT ad L A Z X q ls' (st) σ k n) : Wm TB l R own cc nL ret D cT ad L A Z X pc ls (.float x :: st) σ k n := by
  subst hq
  intro p e s m args below meth c H locs la C w hl
  obtain ⟨hx, hb, hml, hown, hts, hr, hlk, hTB⟩ := id C
  exact lv_fstore_n (lv' := zlm ad ls') hx hb d hi hl hn (by show _ :: zk1 i (zlm ad ls) = zlm ad ls'; rw [zk1_m, ← hl9]; rfl) (fun la' hl' => kk p e s m args below meth c H locs la' C w hl')
theorem wm_fstore {x : UInt32} {i : Nat} {ls' : List (Nat × Value)} (q : Nat) (hq : pc + 2 = q) (d : decode cc pc = .ok (.fstore i, 2)) (hn : i < nL) (hl9 : (i, Value.float x) :: zk1 i ls = ls') (kk : Wm TB l R own cc nL ret D cT ad L A Z X q ls' (st) σ k n) : Wm TB l R own cc nL ret D cT ad L A Z X pc ls (.float x :: st) σ k n := by
  subst hq
  intro p e s m args below meth c H locs la C w hl
  obtain ⟨hx, hb, hml, hown, hts, hr, hlk, hTB⟩ := id C
  exact lv_fstore (lv' := zlm ad ls') hx hb d hl hn (by show _ :: zk1 i (zlm ad ls) = zlm ad ls'; rw [zk1_m, ← hl9]; rfl) (fun la' hl' => kk p e s m args below meth c H locs la' C w hl')
theorem wm_iinc {x v : Int32} {i : Nat} {z : Int} {ls' : List (Nat × Value)} (q : Nat) (hq : pc + 3 = q) (d : decode cc pc = .ok (.iinc i z, 3)) (hg : zl ls i = some (.int x)) (hv : x + Int32.ofInt z = v) (hn : i < nL) (hl9 : (i, Value.int v) :: zk1 i ls = ls') (kk : Wm TB l R own cc nL ret D cT ad L A Z X q ls' (st) σ k n) : Wm TB l R own cc nL ret D cT ad L A Z X pc ls (st) σ k n := by
  subst hq
  intro p e s m args below meth c H locs la C w hl
  obtain ⟨hx, hb, hml, hown, hts, hr, hlk, hTB⟩ := id C
  obtain ⟨k9, hk9⟩ := zl_posm (ad := ad) hg
  exact lv_iinc (lv' := zlm ad ls') (v := v) hx hb d hl hk9 hv hn (by show _ :: zk1 i (zlm ad ls) = zlm ad ls'; rw [zk1_m, ← hl9]; rfl) (fun la' hl' => kk p e s m args below meth c H locs la' C w hl')
theorem wm_if_eq {x : Int32} {off : Int} (tgt q : Nat) (hq : pc + 3 = q) (ht : (pc : Int) + off = (tgt : Int)) (d : decode cc pc = .ok (.ifCond .eq off, 3)) (kt : x = 0 → Wm TB l R own cc nL ret D cT ad L A Z X tgt ls (st) σ k n) (kf : ¬ x = 0 → Wm TB l R own cc nL ret D cT ad L A Z X q ls (st) σ k n) : Wm TB l R own cc nL ret D cT ad L A Z X pc ls (.int x :: st) σ k n := by
  subst hq
  intro p e s m args below meth c H locs la C w hl
  obtain ⟨hx, hb, hml, hown, hts, hr, hlk, hTB⟩ := id C
  exact lv_if_eq hx hb d ht (fun h => kt h p e s m args below meth c H locs la C w hl) (fun h => kf h p e s m args below meth c H locs la C w hl)
theorem wm_icmp_eq {x y : Int32} {off : Int} (tgt q : Nat) (hq : pc + 3 = q) (ht : (pc : Int) + off = (tgt : Int)) (d : decode cc pc = .ok (.if_icmp .eq off, 3)) (kt : x = y → Wm TB l R own cc nL ret D cT ad L A Z X tgt ls (st) σ k n) (kf : ¬ x = y → Wm TB l R own cc nL ret D cT ad L A Z X q ls (st) σ k n) : Wm TB l R own cc nL ret D cT ad L A Z X pc ls (.int y :: .int x :: st) σ k n := by
  subst hq
  intro p e s m args below meth c H locs la C w hl
  obtain ⟨hx, hb, hml, hown, hts, hr, hlk, hTB⟩ := id C
  exact lv_icmp_eq hx hb d ht (fun h => kt h p e s m args below meth c H locs la C w hl) (fun h => kf h p e s m args below meth c H locs la C w hl)
theorem wm_if_ne {x : Int32} {off : Int} (tgt q : Nat) (hq : pc + 3 = q) (ht : (pc : Int) + off = (tgt : Int)) (d : decode cc pc = .ok (.ifCond .ne off, 3)) (kt : ¬ x = 0 → Wm TB l R own cc nL ret D cT ad L A Z X tgt ls (st) σ k n) (kf : x = 0 → Wm TB l R own cc nL ret D cT ad L A Z X q ls (st) σ k n) : Wm TB l R own cc nL ret D cT ad L A Z X pc ls (.int x :: st) σ k n := by
  subst hq
  intro p e s m args below meth c H locs la C w hl
  obtain ⟨hx, hb, hml, hown, hts, hr, hlk, hTB⟩ := id C
  exact lv_if_ne hx hb d ht (fun h => kt h p e s m args below meth c H locs la C w hl) (fun h => kf h p e s m args below meth c H locs la C w hl)
theorem wm_icmp_ne {x y : Int32} {off : Int} (tgt q : Nat) (hq : pc + 3 = q) (ht : (pc : Int) + off = (tgt : Int)) (d : decode cc pc = .ok (.if_icmp .ne off, 3)) (kt : ¬ x = y → Wm TB l R own cc nL ret D cT ad L A Z X tgt ls (st) σ k n) (kf : x = y → Wm TB l R own cc nL ret D cT ad L A Z X q ls (st) σ k n) : Wm TB l R own cc nL ret D cT ad L A Z X pc ls (.int y :: .int x :: st) σ k n := by
  subst hq
  intro p e s m args below meth c H locs la C w hl
  obtain ⟨hx, hb, hml, hown, hts, hr, hlk, hTB⟩ := id C
  exact lv_icmp_ne hx hb d ht (fun h => kt h p e s m args below meth c H locs la C w hl) (fun h => kf h p e s m args below meth c H locs la C w hl)
theorem wm_if_lt {x : Int32} {off : Int} (tgt q : Nat) (hq : pc + 3 = q) (ht : (pc : Int) + off = (tgt : Int)) (d : decode cc pc = .ok (.ifCond .lt off, 3)) (kt : x < 0 → Wm TB l R own cc nL ret D cT ad L A Z X tgt ls (st) σ k n) (kf : ¬ x < 0 → Wm TB l R own cc nL ret D cT ad L A Z X q ls (st) σ k n) : Wm TB l R own cc nL ret D cT ad L A Z X pc ls (.int x :: st) σ k n := by
  subst hq
  intro p e s m args below meth c H locs la C w hl
  obtain ⟨hx, hb, hml, hown, hts, hr, hlk, hTB⟩ := id C
  exact lv_if_lt hx hb d ht (fun h => kt h p e s m args below meth c H locs la C w hl) (fun h => kf h p e s m args below meth c H locs la C w hl)
theorem wm_icmp_lt {x y : Int32} {off : Int} (tgt q : Nat) (hq : pc + 3 = q) (ht : (pc : Int) + off = (tgt : Int)) (d : decode cc pc = .ok (.if_icmp .lt off, 3)) (kt : x < y → Wm TB l R own cc nL ret D cT ad L A Z X tgt ls (st) σ k n) (kf : ¬ x < y → Wm TB l R own cc nL ret D cT ad L A Z X q ls (st) σ k n) : Wm TB l R own cc nL ret D cT ad L A Z X pc ls (.int y :: .int x :: st) σ k n := by
  subst hq
  intro p e s m args below meth c H locs la C w hl
  obtain ⟨hx, hb, hml, hown, hts, hr, hlk, hTB⟩ := id C
  exact lv_icmp_lt hx hb d ht (fun h => kt h p e s m args below meth c H locs la C w hl) (fun h => kf h p e s m args below meth c H locs la C w hl)
theorem wm_if_ge {x : Int32} {off : Int} (tgt q : Nat) (hq : pc + 3 = q) (ht : (pc : Int) + off = (tgt : Int)) (d : decode cc pc = .ok (.ifCond .ge off, 3)) (kt : 0 ≤ x → Wm TB l R own cc nL ret D cT ad L A Z X tgt ls (st) σ k n) (kf : ¬ 0 ≤ x → Wm TB l R own cc nL ret D cT ad L A Z X q ls (st) σ k n) : Wm TB l R own cc nL ret D cT ad L A Z X pc ls (.int x :: st) σ k n := by
  subst hq
  intro p e s m args below meth c H locs la C w hl
  obtain ⟨hx, hb, hml, hown, hts, hr, hlk, hTB⟩ := id C
  exact lv_if_ge hx hb d ht (fun h => kt h p e s m args below meth c H locs la C w hl) (fun h => kf h p e s m args below meth c H locs la C w hl)
theorem wm_icmp_ge {x y : Int32} {off : Int} (tgt q : Nat) (hq : pc + 3 = q) (ht : (pc : Int) + off = (tgt : Int)) (d : decode cc pc = .ok (.if_icmp .ge off, 3)) (kt : y ≤ x → Wm TB l R own cc nL ret D cT ad L A Z X tgt ls (st) σ k n) (kf : ¬ y ≤ x → Wm TB l R own cc nL ret D cT ad L A Z X q ls (st) σ k n) : Wm TB l R own cc nL ret D cT ad L A Z X pc ls (.int y :: .int x :: st) σ k n := by
  subst hq
  intro p e s m args below meth c H locs la C w hl
  obtain ⟨hx, hb, hml, hown, hts, hr, hlk, hTB⟩ := id C
  exact lv_icmp_ge hx hb d ht (fun h => kt h p e s m args below meth c H locs la C w hl) (fun h => kf h p e s m args below meth c H locs la C w hl)
theorem wm_if_gt {x : Int32} {off : Int} (tgt q : Nat) (hq : pc + 3 = q) (ht : (pc : Int) + off = (tgt : Int)) (d : decode cc pc = .ok (.ifCond .gt off, 3)) (kt : 0 < x → Wm TB l R own cc nL ret D cT ad L A Z X tgt ls (st) σ k n) (kf : ¬ 0 < x → Wm TB l R own cc nL ret D cT ad L A Z X q ls (st) σ k n) : Wm TB l R own cc nL ret D cT ad L A Z X pc ls (.int x :: st) σ k n := by
  subst hq
  intro p e s m args below meth c H locs la C w hl
  obtain ⟨hx, hb, hml, hown, hts, hr, hlk, hTB⟩ := id C
  exact lv_if_gt hx hb d ht (fun h => kt h p e s m args below meth c H locs la C w hl) (fun h => kf h p e s m args below meth c H locs la C w hl)
theorem wm_icmp_gt {x y : Int32} {off : Int} (tgt q : Nat) (hq : pc + 3 = q) (ht : (pc : Int) + off = (tgt : Int)) (d : decode cc pc = .ok (.if_icmp .gt off, 3)) (kt : y < x → Wm TB l R own cc nL ret D cT ad L A Z X tgt ls (st) σ k n) (kf : ¬ y < x → Wm TB l R own cc nL ret D cT ad L A Z X q ls (st) σ k n) : Wm TB l R own cc nL ret D cT ad L A Z X pc ls (.int y :: .int x :: st) σ k n := by
  subst hq
  intro p e s m args below meth c H locs la C w hl
  obtain ⟨hx, hb, hml, hown, hts, hr, hlk, hTB⟩ := id C
  exact lv_icmp_gt hx hb d ht (fun h => kt h p e s m args below meth c H locs la C w hl) (fun h => kf h p e s m args below meth c H locs la C w hl)
theorem wm_if_le {x : Int32} {off : Int} (tgt q : Nat) (hq : pc + 3 = q) (ht : (pc : Int) + off = (tgt : Int)) (d : decode cc pc = .ok (.ifCond .le off, 3)) (kt : x ≤ 0 → Wm TB l R own cc nL ret D cT ad L A Z X tgt ls (st) σ k n) (kf : ¬ x ≤ 0 → Wm TB l R own cc nL ret D cT ad L A Z X q ls (st) σ k n) : Wm TB l R own cc nL ret D cT ad L A Z X pc ls (.int x :: st) σ k n := by
  subst hq
  intro p e s m args below meth c H locs la C w hl
  obtain ⟨hx, hb, hml, hown, hts, hr, hlk, hTB⟩ := id C
  exact lv_if_le hx hb d ht (fun h => kt h p e s m args below meth c H locs la C w hl) (fun h => kf h p e s m args below meth c H locs la C w hl)
theorem wm_icmp_le {x y : Int32} {off : Int} (tgt q : Nat) (hq : pc + 3 = q) (ht : (pc : Int) + off = (tgt : Int)) (d : decode cc pc = .ok (.if_icmp .le off, 3)) (kt : x ≤ y → Wm TB l R own cc nL ret D cT ad L A Z X tgt ls (st) σ k n) (kf : ¬ x ≤ y → Wm TB l R own cc nL ret D cT ad L A Z X q ls (st) σ k n) : Wm TB l R own cc nL ret D cT ad L A Z X pc ls (.int y :: .int x :: st) σ k n := by
  subst hq
  intro p e s m args below meth c H locs la C w hl
  obtain ⟨hx, hb, hml, hown, hts, hr, hlk, hTB⟩ := id C
  exact lv_icmp_le hx hb d ht (fun h => kt h p e s m args below meth c H locs la C w hl) (fun h => kf h p e s m args below meth c H locs la C w hl)
theorem wm_goto {off : Int} (tgt : Nat) (ht : (pc : Int) + off = (tgt : Int)) (d : decode cc pc = .ok (.goto off, 3)) (kk : Wm TB l R own cc nL ret D cT ad L A Z X tgt ls (st) σ k n) : Wm TB l R own cc nL ret D cT ad L A Z X pc ls (st) σ k n := by
  intro p e s m args below meth c H locs la C w hl
  obtain ⟨hx, hb, hml, hown, hts, hr, hlk, hTB⟩ := id C
  exact lv_goto hx hb d ht (kk p e s m args below meth c H locs la C w hl)

/-- what the tables say of a field's link in a method's words -/
def zGF (own : String) (index ci j : Nat) : Prop := ∃ (C : String) (T : u_T) (N : Nat) (ref : String), vwCl[ci]? = some (C, T, N) ∧ (∀ w ∈ u_ws C T N, w ∈ zAll) ∧ j < N ∧ Cond.fieldLink own index ref (T j).2.1 (T j).2.2.1 ∈ zAll ∧ (ref = (T j).1 ∨ Cond.sameField ref (T j).1 (T j).2.1 (T j).2.2.1 ∈ zAll)
def zPF (own : String) (index ci j : Nat) : Prop := ∃ (C : String) (T : u_T) (N : Nat) (ref : String) (ty0 : Nat → FieldType), vwCl[ci]? = some (C, T, N) ∧ (∀ w ∈ u_ws C T N, w ∈ zAll) ∧ j < N ∧ Cond.fieldLink own index ref (T j).2.1 (T j).2.2.1 ∈ zAll ∧ ref = (T j).1 ∧ (∀ k, k < N → parseFieldDescriptor (T k).2.2.1 = some (ty0 k)) ∧ (∀ a, a < N → ∀ b, b < N → a ≠ b → (T a).2.1 ≠ (T b).2.1) ∧ (T j).2.2.2 = false ∧ parseFieldDescriptor (T j).2.2.1 = some .int
theorem wm_getI {index ci j b : Nat} {fs : List (Option Nat)} (q : Nat) (hq : pc + 3 = q) (d : decode cc pc = .ok (.getfield index, 3)) (hg : zGF own index ci j) (hL : L[b]? = some (.inr (.inr (ci, fs)))) (hf : fs[j]? = some none) (kk : Wm TB l R own cc nL ret D cT ad L A Z X q ls (.int (σ b j) :: st) σ k n) : Wm TB l R own cc nL ret D cT ad L A Z X pc ls (.ref b :: st) σ k n := by
  subst hq
  intro p e s m args below meth c H locs la C w hl
  obtain ⟨hx, hb, hml, hown, hts, hr, hlk, hTB⟩ := id C
  obtain ⟨C9, T9, N9, ref9, h1, h2, h3, h4, h5⟩ := hg
  exact va_get (a := ad b) hx hb hts h2 hown w.2.1 w.2.2.1 b (zw_get X hL) h1 j h3 (hts _ h4) (fun z hz => by
    rcases h5 with h5 | h5
    · rw [h5]; exact hz
    · exact u_same (hts _ h5) z hz) (by simp [List.getElem?_mapIdx, hf, zfv, zv]) d (kk p e s m args below meth c H locs la C w hl)
theorem wm_getR {index ci j b : Nat} {r : Nat} {fs : List (Option Nat)} (q : Nat) (hq : pc + 3 = q) (d : decode cc pc = .ok (.getfield index, 3)) (hg : zGF own index ci j) (hL : L[b]? = some (.inr (.inr (ci, fs)))) (hf : fs[j]? = some (some r)) (kk : Wm TB l R own cc nL ret D cT ad L A Z X q ls (.ref r :: st) σ k n) : Wm TB l R own cc nL ret D cT ad L A Z X pc ls (.ref b :: st) σ k n := by
  subst hq
  intro p e s m args below meth c H locs la C w hl
  obtain ⟨hx, hb, hml, hown, hts, hr, hlk, hTB⟩ := id C
  obtain ⟨C9, T9, N9, ref9, h1, h2, h3, h4, h5⟩ := hg
  exact va_get (a := ad b) hx hb hts h2 hown w.2.1 w.2.2.1 b (zw_get X hL) h1 j h3 (hts _ h4) (fun z hz => by
    rcases h5 with h5 | h5
    · rw [h5]; exact hz
    · exact u_same (hts _ h5) z hz) (by simp [List.getElem?_mapIdx, hf, zfv, zv]) d (kk p e s m args below meth c H locs la C w hl)
theorem wm_putI {index ci j b : Nat} {x : Int32} {fs : List (Option Nat)} (q : Nat) (hq : pc + 3 = q) (d : decode cc pc = .ok (.putfield index, 3)) (hg : zPF own index ci j) (hL : L[b]? = some (.inr (.inr (ci, fs)))) (hf : fs[j]? = some none) (kk : Wm TB l R own cc nL ret D cT ad L A Z X q ls (st) (zu σ b j x) k n) : Wm TB l R own cc nL ret D cT ad L A Z X pc ls (.int x :: .ref b :: st) σ k n := by
  subst hq
  intro p e s m args below meth c H locs la C w hl
  obtain ⟨hx, hb, hml, hown, hts, hr, hlk, hTB⟩ := id C
  obtain ⟨C9, T9, N9, ref9, ty9, h1, h2, h3, h4, h5, h6, h7, h8, h9⟩ := hg
  refine va_put (a := ad b) (ty := .int) (v := .int x) hx hb hts h2 ty9 h6 h7 hown w.2.1 w.2.2.1 w.2.2.2.1 w.2.2.2.2 b (zw_get X hL) h1 j h3 (hts _ h4) (fun z hz => by rw [h5]; exact hz) h8 h9 rfl rfl (by simpa using (List.getElem?_eq_some_iff.mp hf).1) d (fun H1 locs1 hP hD hS => ?_)
  rw [zw_set X hL (j := j) (x := x) (by show _ = Sum.inr (ci, _); rw [zfv_set hf])] at hP hD
  exact kk p e s m args below meth c H1 locs1 la C ⟨w.1, w.2.1, hP, hD, hS⟩ hl
theorem wm_iaload {b n9 : Nat} {i : Int32} (q : Nat) (hq : pc + 1 = q) (d : decode cc pc = .ok (.iaload, 1)) (hL : L[b]? = some (.inl (0, n9))) (hin : vp_in i n9) (kk : Wm TB l R own cc nL ret D cT ad L A Z X q ls (.int (σ b i.toNatClampNeg) :: st) σ k n) : Wm TB l R own cc nL ret D cT ad L A Z X pc ls (.int i :: .ref b :: st) σ k n := by
  subst hq
  intro p e s m args below meth c H locs la C w hl
  obtain ⟨hx, hb, hml, hown, hts, hr, hlk, hTB⟩ := id C
  exact va_iald (a := ad b) hx hb w.2.1 w.2.2.1 b 0 (zw_get X hL) rfl hin d (kk p e s m args below meth c H locs la C w hl)
theorem wm_baload {b n9 : Nat} {i : Int32} (q : Nat) (hq : pc + 1 = q) (d : decode cc pc = .ok (.baload, 1)) (hL : L[b]? = some (.inl (2, n9))) (hin : vp_in i n9) (kk : Wm TB l R own cc nL ret D cT ad L A Z X q ls (.int (σ b i.toNatClampNeg) :: st) σ k n) : Wm TB l R own cc nL ret D cT ad L A Z X pc ls (.int i :: .ref b :: st) σ k n := by
  subst hq
  intro p e s m args below meth c H locs la C w hl
  obtain ⟨hx, hb, hml, hown, hts, hr, hlk, hTB⟩ := id C
  exact va_zald (a := ad b) hx hb w.2.1 w.2.2.1 b 2 (zw_get X hL) rfl hin d (kk p e s m args below meth c H locs la C w hl)
theorem wm_aaload {b n9 r : Nat} {i : Int32} {f : Nat → Option Nat} (q : Nat) (hq : pc + 1 = q) (d : decode cc pc = .ok (.aaload, 1)) (hL : L[b]? = some (.inr (.inl (1, n9, f)))) (hin : vp_in i n9) (hf : f i.toNatClampNeg = some r) (kk : Wm TB l R own cc nL ret D cT ad L A Z X q ls (.ref r :: st) σ k n) : Wm TB l R own cc nL ret D cT ad L A Z X pc ls (.int i :: .ref b :: st) σ k n := by
  subst hq
  intro p e s m args below meth c H locs la C w hl
  obtain ⟨hx, hb, hml, hown, hts, hr, hlk, hTB⟩ := id C
  have ha := zw_get (cT := cT) (ad := ad) (σ := σ) X hL
  have hlt : i.toNatClampNeg < n9 := Nat.not_le.mp fun q => hin (Or.inr q)
  exact W.aald (v := .ref (ad r)) (ty := .array .int) hx hb (w.2.2.1 b _ ha) ((w.2.1.2 1 _ rfl).1 n9 (fun j => va_rf ((f j).map ad))) rfl (fun q => by cases q) (by show ¬ (i < 0 ∨ (arrV _ _ _).slots.size ≤ _); rw [arrV_size]; exact hin) (by show (arrV _ _ _).slots[_]? = _; rw [arrV_read _ _ hlt]; show some (va_rf ((f _).map ad)) = _; rw [hf]; rfl) rfl rfl d (kk p e s m args below meth c H locs la C w hl)
theorem wm_iastore {b n9 : Nat} {i x : Int32} (q : Nat) (hq : pc + 1 = q) (d : decode cc pc = .ok (.iastore, 1)) (hL : L[b]? = some (.inl (0, n9))) (hin : vp_in i n9) (kk : Wm TB l R own cc nL ret D cT ad L A Z X q ls (st) (zu σ b i.toNatClampNeg x) k n) : Wm TB l R own cc nL ret D cT ad L A Z X pc ls (.int x :: .int i :: .ref b :: st) σ k n := by
  subst hq
  intro p e s m args below meth c H locs la C w hl
  obtain ⟨hx, hb, hml, hown, hts, hr, hlk, hTB⟩ := id C
  refine va_iast (a := ad b) hx hb w.2.1 w.2.2.1 w.2.2.2.1 w.2.2.2.2 b 0 (zw_get X hL) rfl hin d (fun H1 locs1 hP hD hS => ?_)
  rw [zw_set (cT := cT) (ad := ad) (σ := σ) (e := .inl (cT 0, n9, .inl (upd (σ b) i.toNatClampNeg x))) X hL (j := i.toNatClampNeg) (x := x) rfl] at hP hD
  exact kk p e s m args below meth c H1 locs1 la C ⟨w.1, w.2.1, hP, hD, hS⟩ hl
theorem wm_bastore {b n9 : Nat} {i x : Int32} (q : Nat) (hq : pc + 1 = q) (d : decode cc pc = .ok (.bastore, 1)) (hL : L[b]? = some (.inl (2, n9))) (hin : vp_in i n9) (kk : Wm TB l R own cc nL ret D cT ad L A Z X q ls (st) (zu σ b i.toNatClampNeg (vp_nar .boolean x)) k n) : Wm TB l R own cc nL ret D cT ad L A Z X pc ls (.int x :: .int i :: .ref b :: st) σ k n := by
  subst hq
  intro p e s m args below meth c H locs la C w hl
  obtain ⟨hx, hb, hml, hown, hts, hr, hlk, hTB⟩ := id C
  refine va_zast (a := ad b) hx hb w.2.1 w.2.2.1 w.2.2.2.1 w.2.2.2.2 b 2 (zw_get X hL) rfl hin d (fun H1 locs1 hP hD hS => ?_)
  rw [zw_set (cT := cT) (ad := ad) (σ := σ) (e := .inl (cT 2, n9, .inl (upd (σ b) i.toNatClampNeg (vp_nar .boolean x)))) X hL (j := i.toNatClampNeg) (x := (vp_nar .boolean x)) rfl] at hP hD
  exact kk p e s m args below meth c H1 locs1 la C ⟨w.1, w.2.1, hP, hD, hS⟩ hl
theorem wm_max {x y : Int32} {index : Nat} (q : Nat) (hq : pc + 3 = q) (d : decode cc pc = .ok (.invokestatic index, 3)) (h1 : Cond.methodLink own index Lib.Math.max.name ∈ zAll) (h2 : Cond.static Lib.Math.max.name ∈ zAll) (h3 : Cond.initialized "java/lang/Math" ∈ zAll) (h4 : Cond.code Lib.Math.max.name Lib.Math.max.code 2 (some .int) ∈ zAll) (hR : 1 ≤ R.frames ∧ 21 ≤ R.locals) (hc : (st.map fun v => v.category).sum ≤ 8) (hk : k ≤ R.cells ∧ n ≤ R.slots) (kk : Wm TB l R own cc nL ret D cT ad L A Z X q ls (.int (if x < y then y else x) :: st) σ k n) : Wm TB l R own cc nL ret D cT ad L A Z X pc ls (.int y :: .int x :: st) σ k n := by
  subst hq
  intro p e s m args below meth c H locs la C w hl
  obtain ⟨hx, hb, hml, hown, hts, hr, hlk, hTB⟩ := id C
  have hc9 : ((st.map (zv ad)).map fun v => v.category).sum ≤ 8 := by rw [List.map_map]; exact (show (st.map ((fun v : Value => v.category) ∘ zv ad)).sum ≤ 8 by rw [show ((fun v : Value => v.category) ∘ zv ad) = (fun v => v.category) from funext (zv_cat ad)]; exact hc)
  exact va_mmax hx hb (hml.trans hl.1.symm) hown (hts _ h1) (hts _ h2) (hts _ h3) (hts _ h4) hR.1 (by omega) hk.1 hk.2 d (kk p e s m args below meth c H locs la C w hl)
theorem wm_min {x y : Int32} {index : Nat} (q : Nat) (hq : pc + 3 = q) (d : decode cc pc = .ok (.invokestatic index, 3)) (h1 : Cond.methodLink own index Lib.Math.min.name ∈ zAll) (h2 : Cond.static Lib.Math.min.name ∈ zAll) (h3 : Cond.initialized "java/lang/Math" ∈ zAll) (h4 : Cond.code Lib.Math.min.name Lib.Math.min.code 2 (some .int) ∈ zAll) (hR : 1 ≤ R.frames ∧ 21 ≤ R.locals) (hc : (st.map fun v => v.category).sum ≤ 8) (hk : k ≤ R.cells ∧ n ≤ R.slots) (kk : Wm TB l R own cc nL ret D cT ad L A Z X q ls (.int (if y < x then y else x) :: st) σ k n) : Wm TB l R own cc nL ret D cT ad L A Z X pc ls (.int y :: .int x :: st) σ k n := by
  subst hq
  intro p e s m args below meth c H locs la C w hl
  obtain ⟨hx, hb, hml, hown, hts, hr, hlk, hTB⟩ := id C
  have hc9 : ((st.map (zv ad)).map fun v => v.category).sum ≤ 8 := by rw [List.map_map]; exact (show (st.map ((fun v : Value => v.category) ∘ zv ad)).sum ≤ 8 by rw [show ((fun v : Value => v.category) ∘ zv ad) = (fun v => v.category) from funext (zv_cat ad)]; exact hc)
  exact va_mmin hx hb (hml.trans hl.1.symm) hown (hts _ h1) (hts _ h2) (hts _ h3) (hts _ h4) hR.1 (by omega) hk.1 hk.2 d (kk p e s m args below meth c H locs la C w hl)
end WM
end
section
/-! CONTRACTS over the int memory: a method of the world L, called with as over σ, answers r and leaves σ' with 'post r σ'', makes nothing -/
def rmh (h : Nat) : Room := { frames := h, cells := 0, slots := 0, locals := 36 * h }
def zA (ad : Nat → Nat) (N sz : Nat) : Nat → Prop := fun q => (∃ k, k < N ∧ q = ad k) ∨ sz ≤ q
def zB (D : va_G) (cT ad : Nat → Nat) (L : List Dsc) (A : Nat → Prop) (σ : Sg) (t : State) : Prop := va_P D vwCl (zw cT ad L σ) t.heap ∧ va_K D vwCl (ztys cT) t ∧ va_D A (zw cT ad L σ)
def zPc (D : va_G) (cT ad : Nat → Nat) (L : List Dsc) (sz : Nat) (as : List Value) (σ : Sg) : Array Value → State → Prop := va_Pc (as.map (zv ad)) (fun U => U.heap.size = sz ∧ va_P D vwCl (zw cT ad L σ) U.heap ∧ va_K D vwCl (ztys cT) U ∧ va_D (fun _ => True) (zw cT ad L σ))
/-- the ends: an int or boolean, a long, a float, nothing -/
def zQi (D : va_G) (cT ad : Nat → Nat) (L : List Dsc) (sz : Nat) (post : Int32 → Sg → Prop) : Array Value → State → Outcome → State → Prop := va_Qi post (zB D cT ad L (zA ad L.length sz)) (zA ad L.length sz)
def zQl (D : va_G) (cT ad : Nat → Nat) (L : List Dsc) (sz : Nat) (post : Int64 → Sg → Prop) : Array Value → State → Outcome → State → Prop := va_Ql post (zB D cT ad L (zA ad L.length sz)) (zA ad L.length sz)
def zQf (D : va_G) (cT ad : Nat → Nat) (L : List Dsc) (sz : Nat) (post : UInt32 → Sg → Prop) : Array Value → State → Outcome → State → Prop := va_Qf post (zB D cT ad L (zA ad L.length sz)) (zA ad L.length sz)
def zQv (D : va_G) (cT ad : Nat → Nat) (L : List Dsc) (sz : Nat) (post : Sg → Prop) : Array Value → State → Outcome → State → Prop := va_Qv post (zB D cT ad L (zA ad L.length sz)) (zA ad L.length sz)
/-- the contract: any world of the layout L -/
def zMet (l : Launch) (y : MethodName) (bytes : ByteArray) (maxL : Nat) (ret : Option FieldType) (h : Nat) (L : List Dsc) (as : List Value) (σ : Sg) (Q : va_G → (Nat → Nat) → (Nat → Nat) → List Dsc → Nat → Array Value → State → Outcome → State → Prop) : Prop :=
  ∀ (D : va_G) (cT ad : Nat → Nat) (sz : Nat), Met l y (Cond.code y bytes maxL ret :: zAll) (rmh h) (zPc D cT ad L sz as σ) (Q D cT ad L sz) 0 0 (zA ad L.length sz)
abbrev cMi (l : Launch) (y : MethodName) (bytes : ByteArray) (maxL : Nat) (ty : FieldType) (h : Nat) (L : List Dsc) (as : List Value) (σ : Sg) (post : Int32 → Sg → Prop) : Prop := zMet l y bytes maxL (some ty) h L as σ (fun D cT ad L sz => zQi D cT ad L sz post)
abbrev cMl (l : Launch) (y : MethodName) (bytes : ByteArray) (maxL : Nat) (h : Nat) (L : List Dsc) (as : List Value) (σ : Sg) (post : Int64 → Sg → Prop) : Prop := zMet l y bytes maxL (some .long) h L as σ (fun D cT ad L sz => zQl D cT ad L sz post)
abbrev cMf (l : Launch) (y : MethodName) (bytes : ByteArray) (maxL : Nat) (h : Nat) (L : List Dsc) (as : List Value) (σ : Sg) (post : UInt32 → Sg → Prop) : Prop := zMet l y bytes maxL (some .float) h L as σ (fun D cT ad L sz => zQf D cT ad L sz post)
abbrev cMv (l : Launch) (y : MethodName) (bytes : ByteArray) (maxL : Nat) (h : Nat) (L : List Dsc) (as : List Value) (σ : Sg) (post : Sg → Prop) : Prop := zMet l y bytes maxL none h L as σ (fun D cT ad L sz => zQv D cT ad L sz post)
abbrev zZ (Q : va_G → (Nat → Nat) → (Nat → Nat) → List Dsc → Nat → Array Value → State → Outcome → State → Prop) (D : va_G) (cT ad : Nat → Nat) (L : List Dsc) (sz : Nat) : List Frame → Array Value → State → State → Prop := fun below args s => MQ below (Q D cT ad L sz) args s 0 0 (zA ad L.length sz)
theorem zlv_args (ad : Nat → Nat) : ∀ (as : List Value) (i : Nat), lv_args i (as.map (zv ad)) = zlm ad (lv_args i as)
  | [], i => rfl
  | v :: vs, i => by
    show (i, zv ad v) :: lv_args (if (zv ad v).category = 2 then i + 2 else i + 1) (vs.map (zv ad)) = _
    rw [zv_cat, zlv_args ad vs]
    rfl
theorem zlg_len (ad : Nat → Nat) (as : List Value) : (lg_sl (as.map (zv ad))).length = (lg_sl as).length := by
  induction as with
  | nil => rfl
  | cons v vs ih =>
    simp only [lg_sl, List.map_cons, List.flatMap_cons, List.length_append, zv_cat] at ih ⊢
    first | (rw [ih]; done) | (split <;> simp_all)
theorem zD_in {ad cT : Nat → Nat} {L : List Dsc} {σ : Sg} {sz : Nat} {A : Nat → Prop} (h : va_D A (zw cT ad L σ)) : va_D (zA ad L.length sz) (zw cT ad L σ) := by
  refine h.weaken (fun k q hk _ => ?_)
  simp only [zw, List.getElem?_mapIdx] at hk
  cases hL : L[k]? with
  | none => rw [hL] at hk; cases hk
  | some d =>
    rw [hL] at hk
    cases hk
    exact Or.inl ⟨k, (List.getElem?_eq_some_iff.mp hL).1, rfl⟩
/-- a contract out of a walk -/
theorem zMet_of {l : Launch} {y : MethodName} {bytes : ByteArray} {maxL : Nat} {ret : Option FieldType} {h : Nat} {L : List Dsc} {as : List Value} {σ : Sg} {Q : va_G → (Nat → Nat) → (Nat → Nat) → List Dsc → Nat → Array Value → State → Outcome → State → Prop}
    (hy : plainName y.cls = true) (hn : (lg_sl as).length ≤ maxL)
    (hw : ∀ (D : va_G) (cT ad : Nat → Nat) (sz : Nat), Wm (fun _ => True) l (rmh h) y.cls bytes maxL ret D cT ad L (zA ad L.length sz) (zZ Q D cT ad L sz) [] 0 (lv_args 0 as) [] σ 0 0) : zMet l y bytes maxL ret h L as σ Q := by
  intro D cT ad sz
  refine Met.ofW (cc := bytes) (maxL := maxL) (ret := ret) hy rfl ?_
  intro p e s m args below meth c s₁ B hml hv
  obtain ⟨rfl, hsz, hP, hK, hD0⟩ := hv
  have hown : s.vm.findClass y.cls = some m.cls := findClass_of_methodNamed B.named
  have hts : ∀ w ∈ zAll, w.before (as.map (zv ad)).toArray s = true := fun w hw9 => atoms_spec (ws := Cond.code y bytes maxL ret :: zAll) B.pre w (List.mem_cons_of_mem _ hw9)
  subst hsz
  have hl := lv_entry (as.map (zv ad)) (n := maxL) (by rw [zlg_len]; exact hn)
  rw [lg_entry_eq]
  generalize (lg_sl (as.map (zv ad)) ++ List.replicate (maxL - (lg_sl (as.map (zv ad))).length) Slot.unset).toArray = la at hl ⊢
  rw [zlv_args] at hl
  refine hw D cT ad s.heap.size p e s m _ below meth c s.heap [] la ⟨B.exec, B.bytes, hml, hown, hts, B.returns, B.notSynchronized, trivial⟩ ⟨fun q hq => Or.inr hq, hK, ?_, ?_, va_S.rf⟩ hl
  · rw [List.append_nil]; exact hP
  · rw [List.append_nil]; exact zD_in hD0
section RET
variable {TB : Code → Prop} {l : Launch} {R : Room} {own : String} {cc : ByteArray} {nL : Nat} {D : va_G} {cT ad : Nat → Nat} {L : List Dsc} {pc sz : Nat} {ls : List (Nat × Value)} {σ : Sg}
theorem wm_iret {ty : FieldType} {v : Int32} {post : Int32 → Sg → Prop} (d : decode cc pc = .ok (.ireturn, 1)) (hn : narrow ty (.int v) = .int v) (hp : post v σ) : Wm TB l R own cc nL (some ty) D cT ad L (zA ad L.length sz) (zZ (fun D cT ad L sz => zQi D cT ad L sz post) D cT ad L sz) [] pc ls [.int v] σ 0 0 := by
  intro p e s m args below meth c H locs la C w hl
  obtain ⟨hx, hb, hml, hown, hts, hr, hlk, hTB⟩ := id C
  obtain ⟨hA, hK, hP, hD, hS⟩ := w
  rw [List.append_nil] at hP hD
  exact W.zret hx hb hr hn (fun t ht hW => ⟨⟨v, σ, rfl, hp, by rw [ht]; exact hP, va_K.moved hW.alike hK, hD⟩, hS.F ht⟩) hS.2.2 d hlk
theorem wm_lret {v : Int64} {post : Int64 → Sg → Prop} (d : decode cc pc = .ok (.lreturn, 1)) (hp : post v σ) : Wm TB l R own cc nL (some .long) D cT ad L (zA ad L.length sz) (zZ (fun D cT ad L sz => zQl D cT ad L sz post) D cT ad L sz) [] pc ls [.long v] σ 0 0 := by
  intro p e s m args below meth c H locs la C w hl
  obtain ⟨hx, hb, hml, hown, hts, hr, hlk, hTB⟩ := id C
  obtain ⟨hA, hK, hP, hD, hS⟩ := w
  rw [List.append_nil] at hP hD
  exact W.lret hx hb hr (fun t ht hW => ⟨⟨v, σ, rfl, hp, by rw [ht]; exact hP, va_K.moved hW.alike hK, hD⟩, hS.F ht⟩) hS.2.2 d hlk
theorem wm_fret {v : UInt32} {post : UInt32 → Sg → Prop} (d : decode cc pc = .ok (.freturn, 1)) (hp : post v σ) : Wm TB l R own cc nL (some .float) D cT ad L (zA ad L.length sz) (zZ (fun D cT ad L sz => zQf D cT ad L sz post) D cT ad L sz) [] pc ls [.float v] σ 0 0 := by
  intro p e s m args below meth c H locs la C w hl
  obtain ⟨hx, hb, hml, hown, hts, hr, hlk, hTB⟩ := id C
  obtain ⟨hA, hK, hP, hD, hS⟩ := w
  rw [List.append_nil] at hP hD
  exact W.fret hx hb hr (fun t ht hW => ⟨⟨v, σ, rfl, hp, by rw [ht]; exact hP, va_K.moved hW.alike hK, hD⟩, hS.F ht⟩) hS.2.2 d hlk
theorem wm_vret {post : Sg → Prop} (d : decode cc pc = .ok (.return_, 1)) (hp : post σ) : Wm TB l R own cc nL none D cT ad L (zA ad L.length sz) (zZ (fun D cT ad L sz => zQv D cT ad L sz post) D cT ad L sz) [] pc ls [] σ 0 0 := by
  intro p e s m args below meth c H locs la C w hl
  obtain ⟨hx, hb, hml, hown, hts, hr, hlk, hTB⟩ := id C
  obtain ⟨hA, hK, hP, hD, hS⟩ := w
  rw [List.append_nil] at hP hD
  exact W.vret hx hb hr (fun t ht hW => ⟨⟨σ, rfl, hp, by rw [ht]; exact hP, va_K.moved hW.alike hK, hD⟩, hS.F ht⟩) hS.2.2 d hlk
end RET
/-- a world seen again behind a call -/
theorem zD_same {A : Nat → Prop} {w w' : va_W} (h : w'.map (·.1) = w.map (·.1)) (hD : va_D A w) : va_D A w' := by
  have key : ∀ (k : Nat) (q : Nat × va_E), w'[k]? = some q → ∃ q0, w[k]? = some q0 ∧ q0.1 = q.1 := by
    intro k q hk
    have h1 : (w'.map (·.1))[k]? = some q.1 := by rw [List.getElem?_map, hk]; rfl
    rw [h, List.getElem?_map] at h1
    cases hw : w[k]? with
    | none => rw [hw] at h1; cases h1
    | some q0 => rw [hw] at h1; exact ⟨q0, rfl, Option.some.inj h1⟩
  refine ⟨fun i j x y hi hj hxy => ?_, fun k q hk => ?_⟩
  · obtain ⟨x0, h1, h2⟩ := key i x hi
    obtain ⟨y0, h3, h4⟩ := key j y hj
    exact hD.1 i j x0 y0 h1 h3 (h2.trans (hxy.trans h4.symm))
  · obtain ⟨q0, h1, h2⟩ := key k q hk
    rw [← h2]
    exact hD.2 k q0 h1
theorem zw_fst (cT ad : Nat → Nat) (L : List Dsc) (σ σ' : Sg) : (zw cT ad L σ').map (·.1) = (zw cT ad L σ).map (·.1) := by
  apply List.ext_getElem?
  intro i
  simp only [zw, List.getElem?_map, List.getElem?_mapIdx]
  cases L[i]? <;> rfl
theorem zP_left {D : va_G} {cl : List vw_C} {w X : va_W} {H : Heap} (h : va_P D cl (w ++ X) H) : va_P D cl w H := fun k q hk => h k q (by rw [List.getElem?_append_left (List.getElem?_eq_some_iff.mp hk).1]; exact hk)
theorem zD_left {A : Nat → Prop} {w X : va_W} (h : va_D A (w ++ X)) : va_D A w := ⟨fun i j p q hi hj e => h.1 i j p q (by rw [List.getElem?_append_left (List.getElem?_eq_some_iff.mp hi).1]; exact hi) (by rw [List.getElem?_append_left (List.getElem?_eq_some_iff.mp hj).1]; exact hj) e, fun k q hk => h.2 k q (by rw [List.getElem?_append_left (List.getElem?_eq_some_iff.mp hk).1]; exact hk)⟩
/-- what a callee over the layout may change is of the caller's own cells -/
theorem zfree {D : va_G} {cT ad : Nat → Nat} {L : List Dsc} {X : va_W} {A : Nat → Prop} {s : State} {σ : Sg} {H : Heap} {locs : List Loc} (w : zW D cT ad L X A s σ H locs) : ∀ q, zA ad L.length H.size q → A q := by
  intro q hq
  rcases hq with ⟨k, hk, rfl⟩ | hq
  · have h1 := zw_get (cT := cT) (ad := ad) (σ := σ) X (List.getElem?_eq_getElem hk)
    exact w.2.2.2.1.2 k _ h1
  · exact w.1 q (Nat.le_trans w.2.2.2.2.1 hq)
/-- the world behind a call: the layout's cells anew, the further ones as they were -/
theorem zjoin {D : va_G} {cT ad : Nat → Nat} {L : List Dsc} {X : va_W} {A A1 : Nat → Prop} {s t : State} {σ σ' : Sg} {H H1 : Heap} {locs locs1 : List Loc} (w : zW D cT ad L X A s σ H locs) (ht : t.heap = H1) (hB : zB D cT ad L A1 σ' t)
    (hk : ∀ q : Nat, q < H.size → ¬ zA ad L.length H.size q → H1[q]? = H[q]?) (hS : va_S A s.heap H1 locs1) : zW D cT ad L X A s σ' H1 locs1 := by
  obtain ⟨hA, hK, hP, hD, -⟩ := w
  have hP1 : va_P D vwCl (zw cT ad L σ') H1 := by rw [← ht]; exact hB.1
  refine ⟨hA, hK, hP1.app (fun k q hq => ?_), zD_same (by rw [List.map_append, List.map_append, zw_fst cT ad L σ σ']) hD, hS⟩
  have hq2 : (zw cT ad L σ ++ X)[(zw cT ad L σ).length + k]? = some q := by rw [List.getElem?_append_right (by omega)]; simpa using hq
  have hlt := (hP _ q hq2).lt
  refine (hP _ q hq2).kept (hk q.1 hlt ?_)
  rintro (⟨j, hj, e⟩ | h)
  · have h1 := zw_get (cT := cT) (ad := ad) (σ := σ) X (List.getElem?_eq_getElem hj)
    have h2 := hD.1 _ _ q _ hq2 h1 e
    rw [zw_len] at h2
    omega
  · omega
theorem zcats (ad : Nat → Nat) (st : List Value) : ((st.map (zv ad)).map fun v => v.category).sum = (st.map fun v => v.category).sum := by
  rw [List.map_map, show ((fun v : Value => v.category) ∘ zv ad) = (fun v => v.category) from funext (zv_cat ad)]
/-- what is said of a callee once: its words, its class, how many parameters -/
def zCal (y : MethodName) (bytes : ByteArray) (maxL : Nat) (ret : Option FieldType) (n : Nat) : Prop := Cond.code y bytes maxL ret ∈ zAll ∧ Cond.initialized y.cls ∈ zAll ∧ y.cls ≠ "java/lang/invoke/MethodHandle" ∧ y.cls ≠ "java/lang/invoke/VarHandle" ∧ (parseMethodDescriptor y.desc).map (fun d => d.parameters.length) = some n
/-- an instance method's -/
def zCaV (C : String) (y : MethodName) : Prop := Cond.instanceMethod y ∈ zAll ∧ Cond.selects C y y ∈ zAll
theorem zpre_blind {D : va_G} {cT ad : Nat → Nat} {L : List Dsc} {sz : Nat} {as : List Value} {σ : Sg} : FrameBlind (zPc D cT ad L sz as σ) := by
  intro a U g mk q
  obtain ⟨q0, q1, qP, qK, qD⟩ := q
  exact ⟨q0, q1, qP, va_K.moved (u := U) (U := U.calling g mk a) (Vm.Alike.refl U.vm) qK, qD⟩
theorem zpre_of {D : va_G} {cT ad : Nat → Nat} {L : List Dsc} {X : va_W} {A : Nat → Prop} {s U : State} {σ : Sg} {H : Heap} {locs : List Loc} (as : List Value) (w : zW D cT ad L X A s σ H locs) (hU : U.heap = H) (hW : s.WarmedH U.vm) : zPc D cT ad L H.size as σ (as.map (zv ad)).toArray U :=
  ⟨rfl, by rw [hU], by rw [hU]; exact zP_left w.2.2.1, va_K.moved hW.alike w.2.1, (zD_left w.2.2.2.1).weaken (fun _ _ _ _ => trivial)⟩
theorem zwords {y : MethodName} {bytes : ByteArray} {maxL n : Nat} {ret : Option FieldType} (hc : zCal y bytes maxL ret n) : ∀ w ∈ Cond.code y bytes maxL ret :: zAll, w ∈ zAll := fun w h => (List.mem_cons.mp h).elim (fun e => by rw [e]; exact hc.1) id
end
section
/-! CALLS over the int memory -/
section CALLS
variable {TB : Code → Prop} {l : Launch} {R : Room} {own : String} {cc : ByteArray} {nL : Nat} {ret : Option FieldType} {D : va_G} {cT ad : Nat → Nat} {L : List Dsc} {A : Nat → Prop} {Z : List Frame → Array Value → State → State → Prop} {X : va_W} {pc : Nat} {ls : List (Nat × Value)} {σ : Sg} {k n : Nat}
variable {y : MethodName} {bytes : ByteArray} {maxL h index b ci : Nat} {as rest : List Value}
theorem wm_callVi {ty : FieldType} {post : Int32 → Sg → Prop} {C : String} {T : u_T} {N : Nat} {fs : List (Option Nat)} (q : Nat) (hq : pc + 3 = q) (d : decode cc pc = .ok (.invokevirtual index, 3)) (hM : cMi l y bytes maxL ty h L (.ref b :: as) σ post) (hc : zCal y bytes maxL (some ty) as.length) (hv : zCaV C y) (hC : y.cls = C) (hl9 : Cond.methodLink own index y ∈ zAll) (hL : L[b]? = some (.inr (.inr (ci, fs)))) (hci : vwCl[ci]? = some (C, T, N)) (hR : h + 1 ≤ R.frames ∧ 8 + (maxL + 11) + 36 * h ≤ R.locals) (hcat : (rest.map fun v => v.category).sum ≤ 8) (hk : k ≤ R.cells ∧ n ≤ R.slots) (kk : ∀ (r : Int32) (σ1 : Sg), post r σ1 → Wm TB l R own cc nL ret D cT ad L A Z X q ls (.int r :: rest) σ1 k n) : Wm TB l R own cc nL ret D cT ad L A Z X pc ls (as.reverse ++ .ref b :: rest) σ k n := by
  subst hq
  intro p e s m args below meth c H locs la C w hl
  obtain ⟨hx, hb, hml, hown, hts, hr, hlk, hTB⟩ := id C
  have hG : GoodIn zAll (wsV own index C y (Cond.code y bytes maxL (some ty) :: zAll)) := zGoodIn (fun w9 h9 => by
    rcases List.mem_append.mp h9 with h9 | h9
    · simp only [List.mem_cons, List.not_mem_nil, or_false] at h9
      rcases h9 with rfl | rfl | rfl | rfl
      · exact hl9
      · exact hv.1
      · exact hv.2
      · rw [← hC]; exact hc.2.1
    · exact zwords hc w9 h9)
  refine va_calli (va_runV (As := as.map (zv ad)) (rest := rest.map (zv ad)) ⟨hx, hb, hml, hown, hts⟩ (hM D cT ad H.size) (cwV as.length hts hG rfl rfl rfl ⟨hC, hc.2.2.1, hc.2.2.2.1, hc.2.2.2.2⟩ hR) ⟨zpre_blind, va_recv w.2.1 w.2.2.1 hci (zw_get X hL), fun U hU hW => zpre_of (.ref b :: as) w hU hW⟩ rfl (by simp) hl.1 (by simp [zv]) (lv_room (by rw [zcats]; exact hcat)) d hk) w.2.2.2.2 (fun q _ h => zfree w q h) (zfree w) (fun r σ1 t H1 locs1 ht hvm hw hB hz1 hk1 hS => ?_)
  exact kk r σ1 hw p e s m args below meth c H1 locs1 la C (zjoin w ht hB hk1 hS) hl

theorem wm_callSi {ty : FieldType} {post : Int32 → Sg → Prop} (q : Nat) (hq : pc + 3 = q) (d : decode cc pc = .ok (.invokestatic index, 3)) (hM : cMi l y bytes maxL ty h L as σ post) (hc : zCal y bytes maxL (some ty) as.length) (hs : Cond.static y ∈ zAll) (hl9 : Cond.methodLink own index y ∈ zAll) (hR : h + 1 ≤ R.frames ∧ 8 + (maxL + 11) + 36 * h ≤ R.locals) (hcat : (rest.map fun v => v.category).sum ≤ 8) (hk : k ≤ R.cells ∧ n ≤ R.slots) (kk : ∀ (r : Int32) (σ1 : Sg), post r σ1 → Wm TB l R own cc nL ret D cT ad L A Z X q ls (.int r :: rest) σ1 k n) : Wm TB l R own cc nL ret D cT ad L A Z X pc ls (as.reverse ++ rest) σ k n := by
  subst hq
  intro p e s m args below meth c H locs la C w hl
  obtain ⟨hx, hb, hml, hown, hts, hr, hlk, hTB⟩ := id C
  have hG : GoodIn zAll (va_wsS own index y (Cond.code y bytes maxL (some ty) :: zAll)) := zGoodIn (fun w9 h9 => by
    rcases List.mem_append.mp h9 with h9 | h9
    · simp only [List.mem_cons, List.not_mem_nil, or_false] at h9
      rcases h9 with rfl | rfl | rfl
      · exact hl9
      · exact hs
      · exact hc.2.1
    · exact zwords hc w9 h9)
  refine va_calli (va_runS (As := as.map (zv ad)) (rest := rest.map (zv ad)) ⟨hx, hb, hml, hown, hts⟩ (hM D cT ad H.size) (va_cwS as.length hts hG rfl rfl rfl ⟨hc.2.2.1, hc.2.2.2.1, hc.2.2.2.2⟩ hR) ⟨zpre_blind, fun U hU hW => zpre_of as w hU hW⟩ rfl (by simp) hl.1 (by simp) (lv_room (by rw [zcats]; exact hcat)) d hk) w.2.2.2.2 (fun q _ h => zfree w q h) (zfree w) (fun r σ1 t H1 locs1 ht hvm hw hB hz1 hk1 hS => ?_)
  exact kk r σ1 hw p e s m args below meth c H1 locs1 la C (zjoin w ht hB hk1 hS) hl

theorem wm_callUi {ty : FieldType} {post : Int32 → Sg → Prop} {x : MethodName} {C : String} {T : u_T} {N : Nat} {fs : List (Option Nat)} (q : Nat) (hq : pc + 3 = q) (d : decode cc pc = .ok (.invokevirtual index, 3)) (hM : cMi l y bytes maxL ty h L (.ref b :: as) σ post) (hc : zCal y bytes maxL (some ty) as.length) (hyx : y = ⟨y.cls, x.name, x.desc⟩) (hi : Cond.instanceMethod y ∈ zAll) (hse : Cond.selects C x y ∈ zAll) (hsm : Cond.sameMethod x.cls y.cls x.name x.desc ∈ zAll) (hl9 : Cond.methodLink own index x ∈ zAll) (hL : L[b]? = some (.inr (.inr (ci, fs)))) (hci : vwCl[ci]? = some (C, T, N)) (hR : h + 1 ≤ R.frames ∧ 8 + (maxL + 11) + 36 * h ≤ R.locals) (hcat : (rest.map fun v => v.category).sum ≤ 8) (hk : k ≤ R.cells ∧ n ≤ R.slots) (kk : ∀ (r : Int32) (σ1 : Sg), post r σ1 → Wm TB l R own cc nL ret D cT ad L A Z X q ls (.int r :: rest) σ1 k n) : Wm TB l R own cc nL ret D cT ad L A Z X pc ls (as.reverse ++ .ref b :: rest) σ k n := by
  subst hq
  intro p e s m args below meth c H locs la C w hl
  obtain ⟨hx, hb, hml, hown, hts, hr, hlk, hTB⟩ := id C
  have hG : GoodIn zAll (va_wsU own index C y.cls x y (Cond.code y bytes maxL (some ty) :: zAll)) := zGoodIn (fun w9 h9 => by
    rcases List.mem_append.mp h9 with h9 | h9
    · simp only [List.mem_cons, List.not_mem_nil, or_false] at h9
      rcases h9 with rfl | rfl | rfl | rfl | rfl
      · exact hl9
      · exact hsm
      · exact hse
      · exact hi
      · exact hc.2.1
    · exact zwords hc w9 h9)
  have hds : (parseMethodDescriptor x.desc).map (fun d => d.parameters.length) = some as.length := by
    have h0 := hc.2.2.2.2
    rw [hyx] at h0
    exact h0
  refine va_calli (va_runU (owner := y.cls) (x := x) (As := as.map (zv ad)) (rest := rest.map (zv ad)) ⟨hx, hb, hml, hown, hts⟩ (hM D cT ad H.size) (va_cwU as.length hts hG rfl rfl rfl hyx ⟨hc.2.2.1, hc.2.2.2.1, hds⟩ hR) ⟨zpre_blind, va_recv w.2.1 w.2.2.1 hci (zw_get X hL), fun U hU hW => zpre_of (.ref b :: as) w hU hW⟩ rfl (by simp) hl.1 (by simp [zv]) (lv_room (by rw [zcats]; exact hcat)) d hk) w.2.2.2.2 (fun q _ h => zfree w q h) (zfree w) (fun r σ1 t H1 locs1 ht hvm hw hB hz1 hk1 hS => ?_)
  exact kk r σ1 hw p e s m args below meth c H1 locs1 la C (zjoin w ht hB hk1 hS) hl

theorem wm_callVl  {post : Int64 → Sg → Prop} {C : String} {T : u_T} {N : Nat} {fs : List (Option Nat)} (q : Nat) (hq : pc + 3 = q) (d : decode cc pc = .ok (.invokevirtual index, 3)) (hM : cMl l y bytes maxL h L (.ref b :: as) σ post) (hc : zCal y bytes maxL (some .long) as.length) (hv : zCaV C y) (hC : y.cls = C) (hl9 : Cond.methodLink own index y ∈ zAll) (hL : L[b]? = some (.inr (.inr (ci, fs)))) (hci : vwCl[ci]? = some (C, T, N)) (hR : h + 1 ≤ R.frames ∧ 8 + (maxL + 11) + 36 * h ≤ R.locals) (hcat : (rest.map fun v => v.category).sum ≤ 8) (hk : k ≤ R.cells ∧ n ≤ R.slots) (kk : ∀ (r : Int64) (σ1 : Sg), post r σ1 → Wm TB l R own cc nL ret D cT ad L A Z X q ls (.long r :: rest) σ1 k n) : Wm TB l R own cc nL ret D cT ad L A Z X pc ls (as.reverse ++ .ref b :: rest) σ k n := by
  subst hq
  intro p e s m args below meth c H locs la C w hl
  obtain ⟨hx, hb, hml, hown, hts, hr, hlk, hTB⟩ := id C
  have hG : GoodIn zAll (wsV own index C y (Cond.code y bytes maxL (some .long) :: zAll)) := zGoodIn (fun w9 h9 => by
    rcases List.mem_append.mp h9 with h9 | h9
    · simp only [List.mem_cons, List.not_mem_nil, or_false] at h9
      rcases h9 with rfl | rfl | rfl | rfl
      · exact hl9
      · exact hv.1
      · exact hv.2
      · rw [← hC]; exact hc.2.1
    · exact zwords hc w9 h9)
  refine va_calll (va_runV (As := as.map (zv ad)) (rest := rest.map (zv ad)) ⟨hx, hb, hml, hown, hts⟩ (hM D cT ad H.size) (cwV as.length hts hG rfl rfl rfl ⟨hC, hc.2.2.1, hc.2.2.2.1, hc.2.2.2.2⟩ hR) ⟨zpre_blind, va_recv w.2.1 w.2.2.1 hci (zw_get X hL), fun U hU hW => zpre_of (.ref b :: as) w hU hW⟩ rfl (by simp) hl.1 (by simp [zv]) (lv_room (by rw [zcats]; exact hcat)) d hk) w.2.2.2.2 (fun q _ h => zfree w q h) (zfree w) (fun r σ1 t H1 locs1 ht hvm hw hB hz1 hk1 hS => ?_)
  exact kk r σ1 hw p e s m args below meth c H1 locs1 la C (zjoin w ht hB hk1 hS) hl

theorem wm_callSl  {post : Int64 → Sg → Prop} (q : Nat) (hq : pc + 3 = q) (d : decode cc pc = .ok (.invokestatic index, 3)) (hM : cMl l y bytes maxL h L as σ post) (hc : zCal y bytes maxL (some .long) as.length) (hs : Cond.static y ∈ zAll) (hl9 : Cond.methodLink own index y ∈ zAll) (hR : h + 1 ≤ R.frames ∧ 8 + (maxL + 11) + 36 * h ≤ R.locals) (hcat : (rest.map fun v => v.category).sum ≤ 8) (hk : k ≤ R.cells ∧ n ≤ R.slots) (kk : ∀ (r : Int64) (σ1 : Sg), post r σ1 → Wm TB l R own cc nL ret D cT ad L A Z X q ls (.long r :: rest) σ1 k n) : Wm TB l R own cc nL ret D cT ad L A Z X pc ls (as.reverse ++ rest) σ k n := by
  subst hq
  intro p e s m args below meth c H locs la C w hl
  obtain ⟨hx, hb, hml, hown, hts, hr, hlk, hTB⟩ := id C
  have hG : GoodIn zAll (va_wsS own index y (Cond.code y bytes maxL (some .long) :: zAll)) := zGoodIn (fun w9 h9 => by
    rcases List.mem_append.mp h9 with h9 | h9
    · simp only [List.mem_cons, List.not_mem_nil, or_false] at h9
      rcases h9 with rfl | rfl | rfl
      · exact hl9
      · exact hs
      · exact hc.2.1
    · exact zwords hc w9 h9)
  refine va_calll (va_runS (As := as.map (zv ad)) (rest := rest.map (zv ad)) ⟨hx, hb, hml, hown, hts⟩ (hM D cT ad H.size) (va_cwS as.length hts hG rfl rfl rfl ⟨hc.2.2.1, hc.2.2.2.1, hc.2.2.2.2⟩ hR) ⟨zpre_blind, fun U hU hW => zpre_of as w hU hW⟩ rfl (by simp) hl.1 (by simp) (lv_room (by rw [zcats]; exact hcat)) d hk) w.2.2.2.2 (fun q _ h => zfree w q h) (zfree w) (fun r σ1 t H1 locs1 ht hvm hw hB hz1 hk1 hS => ?_)
  exact kk r σ1 hw p e s m args below meth c H1 locs1 la C (zjoin w ht hB hk1 hS) hl

theorem wm_callUl  {post : Int64 → Sg → Prop} {x : MethodName} {C : String} {T : u_T} {N : Nat} {fs : List (Option Nat)} (q : Nat) (hq : pc + 3 = q) (d : decode cc pc = .ok (.invokevirtual index, 3)) (hM : cMl l y bytes maxL h L (.ref b :: as) σ post) (hc : zCal y bytes maxL (some .long) as.length) (hyx : y = ⟨y.cls, x.name, x.desc⟩) (hi : Cond.instanceMethod y ∈ zAll) (hse : Cond.selects C x y ∈ zAll) (hsm : Cond.sameMethod x.cls y.cls x.name x.desc ∈ zAll) (hl9 : Cond.methodLink own index x ∈ zAll) (hL : L[b]? = some (.inr (.inr (ci, fs)))) (hci : vwCl[ci]? = some (C, T, N)) (hR : h + 1 ≤ R.frames ∧ 8 + (maxL + 11) + 36 * h ≤ R.locals) (hcat : (rest.map fun v => v.category).sum ≤ 8) (hk : k ≤ R.cells ∧ n ≤ R.slots) (kk : ∀ (r : Int64) (σ1 : Sg), post r σ1 → Wm TB l R own cc nL ret D cT ad L A Z X q ls (.long r :: rest) σ1 k n) : Wm TB l R own cc nL ret D cT ad L A Z X pc ls (as.reverse ++ .ref b :: rest) σ k n := by
  subst hq
  intro p e s m args below meth c H locs la C w hl
  obtain ⟨hx, hb, hml, hown, hts, hr, hlk, hTB⟩ := id C
  have hG : GoodIn zAll (va_wsU own index C y.cls x y (Cond.code y bytes maxL (some .long) :: zAll)) := zGoodIn (fun w9 h9 => by
    rcases List.mem_append.mp h9 with h9 | h9
    · simp only [List.mem_cons, List.not_mem_nil, or_false] at h9
      rcases h9 with rfl | rfl | rfl | rfl | rfl
      · exact hl9
      · exact hsm
      · exact hse
      · exact hi
      · exact hc.2.1
    · exact zwords hc w9 h9)
  have hds : (parseMethodDescriptor x.desc).map (fun d => d.parameters.length) = some as.length := by
    have h0 := hc.2.2.2.2
    rw [hyx] at h0
    exact h0
  refine va_calll (va_runU (owner := y.cls) (x := x) (As := as.map (zv ad)) (rest := rest.map (zv ad)) ⟨hx, hb, hml, hown, hts⟩ (hM D cT ad H.size) (va_cwU as.length hts hG rfl rfl rfl hyx ⟨hc.2.2.1, hc.2.2.2.1, hds⟩ hR) ⟨zpre_blind, va_recv w.2.1 w.2.2.1 hci (zw_get X hL), fun U hU hW => zpre_of (.ref b :: as) w hU hW⟩ rfl (by simp) hl.1 (by simp [zv]) (lv_room (by rw [zcats]; exact hcat)) d hk) w.2.2.2.2 (fun q _ h => zfree w q h) (zfree w) (fun r σ1 t H1 locs1 ht hvm hw hB hz1 hk1 hS => ?_)
  exact kk r σ1 hw p e s m args below meth c H1 locs1 la C (zjoin w ht hB hk1 hS) hl

theorem wm_callVf  {post : UInt32 → Sg → Prop} {C : String} {T : u_T} {N : Nat} {fs : List (Option Nat)} (q : Nat) (hq : pc + 3 = q) (d : decode cc pc = .ok (.invokevirtual index, 3)) (hM : cMf l y bytes maxL h L (.ref b :: as) σ post) (hc : zCal y bytes maxL (some .float) as.length) (hv : zCaV C y) (hC : y.cls = C) (hl9 : Cond.methodLink own index y ∈ zAll) (hL : L[b]? = some (.inr (.inr (ci, fs)))) (hci : vwCl[ci]? = some (C, T, N)) (hR : h + 1 ≤ R.frames ∧ 8 + (maxL + 11) + 36 * h ≤ R.locals) (hcat : (rest.map fun v => v.category).sum ≤ 8) (hk : k ≤ R.cells ∧ n ≤ R.slots) (kk : ∀ (r : UInt32) (σ1 : Sg), post r σ1 → Wm TB l R own cc nL ret D cT ad L A Z X q ls (.float r :: rest) σ1 k n) : Wm TB l R own cc nL ret D cT ad L A Z X pc ls (as.reverse ++ .ref b :: rest) σ k n := by
  subst hq
  intro p e s m args below meth c H locs la C w hl
  obtain ⟨hx, hb, hml, hown, hts, hr, hlk, hTB⟩ := id C
  have hG : GoodIn zAll (wsV own index C y (Cond.code y bytes maxL (some .float) :: zAll)) := zGoodIn (fun w9 h9 => by
    rcases List.mem_append.mp h9 with h9 | h9
    · simp only [List.mem_cons, List.not_mem_nil, or_false] at h9
      rcases h9 with rfl | rfl | rfl | rfl
      · exact hl9
      · exact hv.1
      · exact hv.2
      · rw [← hC]; exact hc.2.1
    · exact zwords hc w9 h9)
  refine va_callf (va_runV (As := as.map (zv ad)) (rest := rest.map (zv ad)) ⟨hx, hb, hml, hown, hts⟩ (hM D cT ad H.size) (cwV as.length hts hG rfl rfl rfl ⟨hC, hc.2.2.1, hc.2.2.2.1, hc.2.2.2.2⟩ hR) ⟨zpre_blind, va_recv w.2.1 w.2.2.1 hci (zw_get X hL), fun U hU hW => zpre_of (.ref b :: as) w hU hW⟩ rfl (by simp) hl.1 (by simp [zv]) (lv_room (by rw [zcats]; exact hcat)) d hk) w.2.2.2.2 (fun q _ h => zfree w q h) (zfree w) (fun r σ1 t H1 locs1 ht hvm hw hB hz1 hk1 hS => ?_)
  exact kk r σ1 hw p e s m args below meth c H1 locs1 la C (zjoin w ht hB hk1 hS) hl

theorem wm_callSf  {post : UInt32 → Sg → Prop} (q : Nat) (hq : pc + 3 = q) (d : decode cc pc = .ok (.invokestatic index, 3)) (hM : cMf l y bytes maxL h L as σ post) (hc : zCal y bytes maxL (some .float) as.length) (hs : Cond.static y ∈ zAll) (hl9 : Cond.methodLink own index y ∈ zAll) (hR : h + 1 ≤ R.frames ∧ 8 + (maxL + 11) + 36 * h ≤ R.locals) (hcat : (rest.map fun v => v.category).sum ≤ 8) (hk : k ≤ R.cells ∧ n ≤ R.slots) (kk : ∀ (r : UInt32) (σ1 : Sg), post r σ1 → Wm TB l R own cc nL ret D cT ad L A Z X q ls (.float r :: rest) σ1 k n) : Wm TB l R own cc nL ret D cT ad L A Z X pc ls (as.reverse ++ rest) σ k n := by
  subst hq
  intro p e s m args below meth c H locs la C w hl
  obtain ⟨hx, hb, hml, hown, hts, hr, hlk, hTB⟩ := id C
  have hG : GoodIn zAll (va_wsS own index y (Cond.code y bytes maxL (some .float) :: zAll)) := zGoodIn (fun w9 h9 => by
    rcases List.mem_append.mp h9 with h9 | h9
    · simp only [List.mem_cons, List.not_mem_nil, or_false] at h9
      rcases h9 with rfl | rfl | rfl
      · exact hl9
      · exact hs
      · exact hc.2.1
    · exact zwords hc w9 h9)
  refine va_callf (va_runS (As := as.map (zv ad)) (rest := rest.map (zv ad)) ⟨hx, hb, hml, hown, hts⟩ (hM D cT ad H.size) (va_cwS as.length hts hG rfl rfl rfl ⟨hc.2.2.1, hc.2.2.2.1, hc.2.2.2.2⟩ hR) ⟨zpre_blind, fun U hU hW => zpre_of as w hU hW⟩ rfl (by simp) hl.1 (by simp) (lv_room (by rw [zcats]; exact hcat)) d hk) w.2.2.2.2 (fun q _ h => zfree w q h) (zfree w) (fun r σ1 t H1 locs1 ht hvm hw hB hz1 hk1 hS => ?_)
  exact kk r σ1 hw p e s m args below meth c H1 locs1 la C (zjoin w ht hB hk1 hS) hl

theorem wm_callUf  {post : UInt32 → Sg → Prop} {x : MethodName} {C : String} {T : u_T} {N : Nat} {fs : List (Option Nat)} (q : Nat) (hq : pc + 3 = q) (d : decode cc pc = .ok (.invokevirtual index, 3)) (hM : cMf l y bytes maxL h L (.ref b :: as) σ post) (hc : zCal y bytes maxL (some .float) as.length) (hyx : y = ⟨y.cls, x.name, x.desc⟩) (hi : Cond.instanceMethod y ∈ zAll) (hse : Cond.selects C x y ∈ zAll) (hsm : Cond.sameMethod x.cls y.cls x.name x.desc ∈ zAll) (hl9 : Cond.methodLink own index x ∈ zAll) (hL : L[b]? = some (.inr (.inr (ci, fs)))) (hci : vwCl[ci]? = some (C, T, N)) (hR : h + 1 ≤ R.frames ∧ 8 + (maxL + 11) + 36 * h ≤ R.locals) (hcat : (rest.map fun v => v.category).sum ≤ 8) (hk : k ≤ R.cells ∧ n ≤ R.slots) (kk : ∀ (r : UInt32) (σ1 : Sg), post r σ1 → Wm TB l R own cc nL ret D cT ad L A Z X q ls (.float r :: rest) σ1 k n) : Wm TB l R own cc nL ret D cT ad L A Z X pc ls (as.reverse ++ .ref b :: rest) σ k n := by
  subst hq
  intro p e s m args below meth c H locs la C w hl
  obtain ⟨hx, hb, hml, hown, hts, hr, hlk, hTB⟩ := id C
  have hG : GoodIn zAll (va_wsU own index C y.cls x y (Cond.code y bytes maxL (some .float) :: zAll)) := zGoodIn (fun w9 h9 => by
    rcases List.mem_append.mp h9 with h9 | h9
    · simp only [List.mem_cons, List.not_mem_nil, or_false] at h9
      rcases h9 with rfl | rfl | rfl | rfl | rfl
      · exact hl9
      · exact hsm
      · exact hse
      · exact hi
      · exact hc.2.1
    · exact zwords hc w9 h9)
  have hds : (parseMethodDescriptor x.desc).map (fun d => d.parameters.length) = some as.length := by
    have h0 := hc.2.2.2.2
    rw [hyx] at h0
    exact h0
  refine va_callf (va_runU (owner := y.cls) (x := x) (As := as.map (zv ad)) (rest := rest.map (zv ad)) ⟨hx, hb, hml, hown, hts⟩ (hM D cT ad H.size) (va_cwU as.length hts hG rfl rfl rfl hyx ⟨hc.2.2.1, hc.2.2.2.1, hds⟩ hR) ⟨zpre_blind, va_recv w.2.1 w.2.2.1 hci (zw_get X hL), fun U hU hW => zpre_of (.ref b :: as) w hU hW⟩ rfl (by simp) hl.1 (by simp [zv]) (lv_room (by rw [zcats]; exact hcat)) d hk) w.2.2.2.2 (fun q _ h => zfree w q h) (zfree w) (fun r σ1 t H1 locs1 ht hvm hw hB hz1 hk1 hS => ?_)
  exact kk r σ1 hw p e s m args below meth c H1 locs1 la C (zjoin w ht hB hk1 hS) hl

theorem wm_callVv  {post : Sg → Prop} {C : String} {T : u_T} {N : Nat} {fs : List (Option Nat)} (q : Nat) (hq : pc + 3 = q) (d : decode cc pc = .ok (.invokevirtual index, 3)) (hM : cMv l y bytes maxL h L (.ref b :: as) σ post) (hc : zCal y bytes maxL none as.length) (hv : zCaV C y) (hC : y.cls = C) (hl9 : Cond.methodLink own index y ∈ zAll) (hL : L[b]? = some (.inr (.inr (ci, fs)))) (hci : vwCl[ci]? = some (C, T, N)) (hR : h + 1 ≤ R.frames ∧ 8 + (maxL + 11) + 36 * h ≤ R.locals) (hcat : (rest.map fun v => v.category).sum ≤ 8) (hk : k ≤ R.cells ∧ n ≤ R.slots) (kk : ∀ (σ1 : Sg), post σ1 → Wm TB l R own cc nL ret D cT ad L A Z X q ls (rest) σ1 k n) : Wm TB l R own cc nL ret D cT ad L A Z X pc ls (as.reverse ++ .ref b :: rest) σ k n := by
  subst hq
  intro p e s m args below meth c H locs la C w hl
  obtain ⟨hx, hb, hml, hown, hts, hr, hlk, hTB⟩ := id C
  have hG : GoodIn zAll (wsV own index C y (Cond.code y bytes maxL none :: zAll)) := zGoodIn (fun w9 h9 => by
    rcases List.mem_append.mp h9 with h9 | h9
    · simp only [List.mem_cons, List.not_mem_nil, or_false] at h9
      rcases h9 with rfl | rfl | rfl | rfl
      · exact hl9
      · exact hv.1
      · exact hv.2
      · rw [← hC]; exact hc.2.1
    · exact zwords hc w9 h9)
  refine va_callv (va_runV (As := as.map (zv ad)) (rest := rest.map (zv ad)) ⟨hx, hb, hml, hown, hts⟩ (hM D cT ad H.size) (cwV as.length hts hG rfl rfl rfl ⟨hC, hc.2.2.1, hc.2.2.2.1, hc.2.2.2.2⟩ hR) ⟨zpre_blind, va_recv w.2.1 w.2.2.1 hci (zw_get X hL), fun U hU hW => zpre_of (.ref b :: as) w hU hW⟩ rfl (by simp) hl.1 (by simp [zv]) (lv_room (by rw [zcats]; exact hcat)) d hk) w.2.2.2.2 (fun q _ h => zfree w q h) (zfree w) (fun σ1 t H1 locs1 ht hvm hw hB hz1 hk1 hS => ?_)
  exact kk σ1 hw p e s m args below meth c H1 locs1 la C (zjoin w ht hB hk1 hS) hl

theorem wm_callSv  {post : Sg → Prop} (q : Nat) (hq : pc + 3 = q) (d : decode cc pc = .ok (.invokestatic index, 3)) (hM : cMv l y bytes maxL h L as σ post) (hc : zCal y bytes maxL none as.length) (hs : Cond.static y ∈ zAll) (hl9 : Cond.methodLink own index y ∈ zAll) (hR : h + 1 ≤ R.frames ∧ 8 + (maxL + 11) + 36 * h ≤ R.locals) (hcat : (rest.map fun v => v.category).sum ≤ 8) (hk : k ≤ R.cells ∧ n ≤ R.slots) (kk : ∀ (σ1 : Sg), post σ1 → Wm TB l R own cc nL ret D cT ad L A Z X q ls (rest) σ1 k n) : Wm TB l R own cc nL ret D cT ad L A Z X pc ls (as.reverse ++ rest) σ k n := by
  subst hq
  intro p e s m args below meth c H locs la C w hl
  obtain ⟨hx, hb, hml, hown, hts, hr, hlk, hTB⟩ := id C
  have hG : GoodIn zAll (va_wsS own index y (Cond.code y bytes maxL none :: zAll)) := zGoodIn (fun w9 h9 => by
    rcases List.mem_append.mp h9 with h9 | h9
    · simp only [List.mem_cons, List.not_mem_nil, or_false] at h9
      rcases h9 with rfl | rfl | rfl
      · exact hl9
      · exact hs
      · exact hc.2.1
    · exact zwords hc w9 h9)
  refine va_callv (va_runS (As := as.map (zv ad)) (rest := rest.map (zv ad)) ⟨hx, hb, hml, hown, hts⟩ (hM D cT ad H.size) (va_cwS as.length hts hG rfl rfl rfl ⟨hc.2.2.1, hc.2.2.2.1, hc.2.2.2.2⟩ hR) ⟨zpre_blind, fun U hU hW => zpre_of as w hU hW⟩ rfl (by simp) hl.1 (by simp) (lv_room (by rw [zcats]; exact hcat)) d hk) w.2.2.2.2 (fun q _ h => zfree w q h) (zfree w) (fun σ1 t H1 locs1 ht hvm hw hB hz1 hk1 hS => ?_)
  exact kk σ1 hw p e s m args below meth c H1 locs1 la C (zjoin w ht hB hk1 hS) hl

theorem wm_callUv  {post : Sg → Prop} {x : MethodName} {C : String} {T : u_T} {N : Nat} {fs : List (Option Nat)} (q : Nat) (hq : pc + 3 = q) (d : decode cc pc = .ok (.invokevirtual index, 3)) (hM : cMv l y bytes maxL h L (.ref b :: as) σ post) (hc : zCal y bytes maxL none as.length) (hyx : y = ⟨y.cls, x.name, x.desc⟩) (hi : Cond.instanceMethod y ∈ zAll) (hse : Cond.selects C x y ∈ zAll) (hsm : Cond.sameMethod x.cls y.cls x.name x.desc ∈ zAll) (hl9 : Cond.methodLink own index x ∈ zAll) (hL : L[b]? = some (.inr (.inr (ci, fs)))) (hci : vwCl[ci]? = some (C, T, N)) (hR : h + 1 ≤ R.frames ∧ 8 + (maxL + 11) + 36 * h ≤ R.locals) (hcat : (rest.map fun v => v.category).sum ≤ 8) (hk : k ≤ R.cells ∧ n ≤ R.slots) (kk : ∀ (σ1 : Sg), post σ1 → Wm TB l R own cc nL ret D cT ad L A Z X q ls (rest) σ1 k n) : Wm TB l R own cc nL ret D cT ad L A Z X pc ls (as.reverse ++ .ref b :: rest) σ k n := by
  subst hq
  intro p e s m args below meth c H locs la C w hl
  obtain ⟨hx, hb, hml, hown, hts, hr, hlk, hTB⟩ := id C
  have hG : GoodIn zAll (va_wsU own index C y.cls x y (Cond.code y bytes maxL none :: zAll)) := zGoodIn (fun w9 h9 => by
    rcases List.mem_append.mp h9 with h9 | h9
    · simp only [List.mem_cons, List.not_mem_nil, or_false] at h9
      rcases h9 with rfl | rfl | rfl | rfl | rfl
      · exact hl9
      · exact hsm
      · exact hse
      · exact hi
      · exact hc.2.1
    · exact zwords hc w9 h9)
  have hds : (parseMethodDescriptor x.desc).map (fun d => d.parameters.length) = some as.length := by
    have h0 := hc.2.2.2.2
    rw [hyx] at h0
    exact h0
  refine va_callv (va_runU (owner := y.cls) (x := x) (As := as.map (zv ad)) (rest := rest.map (zv ad)) ⟨hx, hb, hml, hown, hts⟩ (hM D cT ad H.size) (va_cwU as.length hts hG rfl rfl rfl hyx ⟨hc.2.2.1, hc.2.2.2.1, hds⟩ hR) ⟨zpre_blind, va_recv w.2.1 w.2.2.1 hci (zw_get X hL), fun U hU hW => zpre_of (.ref b :: as) w hU hW⟩ rfl (by simp) hl.1 (by simp [zv]) (lv_room (by rw [zcats]; exact hcat)) d hk) w.2.2.2.2 (fun q _ h => zfree w q h) (zfree w) (fun σ1 t H1 locs1 ht hvm hw hB hz1 hk1 hS => ?_)
  exact kk σ1 hw p e s m args below meth c H1 locs1 la C (zjoin w ht hB hk1 hS) hl

end CALLS
end
