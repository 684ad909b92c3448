section
-- ===== PART A: goes FIRST, ahead of the names: the tables' words, and 'selects' of the private methods out of them =====
/-- a private method of a class that the tables say can be made, by its rows of tables_1 -/
def lw_okq (q : MethodName × Nat) : Prop := (q.1.cls ≠ "java/lang/invoke/MethodHandle" ∧ q.1.cls ≠ "java/lang/invoke/VarHandle") ∧ Cond.instantiable q.1.cls q.2 ∈ tables_1 ∧ Cond.privateMethod q.1 ∈ tables_1 ∧ Cond.instanceMethod q.1 ∈ tables_1
theorem lw_p0 : lw_okq (⟨"java/util/ArrayList", "add", "(Ljava/lang/Object;[Ljava/lang/Object;I)V"⟩, 3) := ⟨⟨by decide +kernel, by decide +kernel⟩, List.mem_of_getElem? (i := 38) (by decide +kernel), List.mem_of_getElem? (i := 236) (by decide +kernel), List.mem_of_getElem? (i := 237) (by decide +kernel)⟩
theorem lw_p1 : lw_okq (⟨"java/util/ArrayList", "grow", "()[Ljava/lang/Object;"⟩, 3) := ⟨⟨by decide +kernel, by decide +kernel⟩, List.mem_of_getElem? (i := 38) (by decide +kernel), List.mem_of_getElem? (i := 240) (by decide +kernel), List.mem_of_getElem? (i := 241) (by decide +kernel)⟩
theorem lw_p2 : lw_okq (⟨"java/util/ArrayList", "grow", "(I)[Ljava/lang/Object;"⟩, 3) := ⟨⟨by decide +kernel, by decide +kernel⟩, List.mem_of_getElem? (i := 38) (by decide +kernel), List.mem_of_getElem? (i := 244) (by decide +kernel), List.mem_of_getElem? (i := 245) (by decide +kernel)⟩
theorem lw_p3 : lw_okq (⟨"BeanContexts", "isConfiguration", "(I)Z"⟩, 6) := ⟨⟨by decide +kernel, by decide +kernel⟩, List.mem_of_getElem? (i := 24) (by decide +kernel), List.mem_of_getElem? (i := 343) (by decide +kernel), List.mem_of_getElem? (i := 344) (by decide +kernel)⟩
theorem lw_p4 : lw_okq (⟨"BeanContexts", "sharedKey", "(IILBeanContexts$Key;)LBeanContexts$Key;"⟩, 6) := ⟨⟨by decide +kernel, by decide +kernel⟩, List.mem_of_getElem? (i := 24) (by decide +kernel), List.mem_of_getElem? (i := 357) (by decide +kernel), List.mem_of_getElem? (i := 358) (by decide +kernel)⟩
theorem lw_p5 : lw_okq (⟨"BeanContexts$Shelf", "use", "(LBeanContexts$Context;)V"⟩, 5) := ⟨⟨by decide +kernel, by decide +kernel⟩, List.mem_of_getElem? (i := 105) (by decide +kernel), List.mem_of_getElem? (i := 422) (by decide +kernel), List.mem_of_getElem? (i := 423) (by decide +kernel)⟩
theorem lw_p6 : lw_okq (⟨"BeanContexts$Shelf", "removeFromOrder", "(LBeanContexts$Context;)V"⟩, 5) := ⟨⟨by decide +kernel, by decide +kernel⟩, List.mem_of_getElem? (i := 105) (by decide +kernel), List.mem_of_getElem? (i := 426) (by decide +kernel), List.mem_of_getElem? (i := 427) (by decide +kernel)⟩
theorem lw_p7 : lw_okq (⟨"java/util/ArrayList", "fastRemove", "([Ljava/lang/Object;I)V"⟩, 3) := ⟨⟨by decide +kernel, by decide +kernel⟩, List.mem_of_getElem? (i := 38) (by decide +kernel), List.mem_of_getElem? (i := 434) (by decide +kernel), List.mem_of_getElem? (i := 435) (by decide +kernel)⟩
theorem lw_p8 : lw_okq (⟨"java/util/ArrayList", "rangeCheckForAdd", "(I)V"⟩, 3) := ⟨⟨by decide +kernel, by decide +kernel⟩, List.mem_of_getElem? (i := 38) (by decide +kernel), List.mem_of_getElem? (i := 443) (by decide +kernel), List.mem_of_getElem? (i := 444) (by decide +kernel)⟩
theorem lw_p9 : lw_okq (⟨"BeanContexts$Shelf", "build", "(LBeanContexts$Key;LBeanContexts$Context;)I"⟩, 5) := ⟨⟨by decide +kernel, by decide +kernel⟩, List.mem_of_getElem? (i := 105) (by decide +kernel), List.mem_of_getElem? (i := 447) (by decide +kernel), List.mem_of_getElem? (i := 448) (by decide +kernel)⟩
theorem lw_p10 : lw_okq (⟨"BeanContexts$Workshop", "keep", "(LBeanContexts$Bean;)I"⟩, 3) := ⟨⟨by decide +kernel, by decide +kernel⟩, List.mem_of_getElem? (i := 87) (by decide +kernel), List.mem_of_getElem? (i := 531) (by decide +kernel), List.mem_of_getElem? (i := 532) (by decide +kernel)⟩
theorem lw_p11 : lw_okq (⟨"BeanContexts$Workshop", "assemble", "(LBeanContexts$Context;II)I"⟩, 3) := ⟨⟨by decide +kernel, by decide +kernel⟩, List.mem_of_getElem? (i := 87) (by decide +kernel), List.mem_of_getElem? (i := 541) (by decide +kernel), List.mem_of_getElem? (i := 542) (by decide +kernel)⟩
theorem lw_p12 : lw_okq (⟨"BeanContexts$Shelf", "takeBack", "(LBeanContexts$Context;)V"⟩, 5) := ⟨⟨by decide +kernel, by decide +kernel⟩, List.mem_of_getElem? (i := 105) (by decide +kernel), List.mem_of_getElem? (i := 584) (by decide +kernel), List.mem_of_getElem? (i := 585) (by decide +kernel)⟩
theorem lw_p13 : lw_okq (⟨"BeanContexts$Shelf", "putUp", "(LBeanContexts$Context;)V"⟩, 5) := ⟨⟨by decide +kernel, by decide +kernel⟩, List.mem_of_getElem? (i := 105) (by decide +kernel), List.mem_of_getElem? (i := 593) (by decide +kernel), List.mem_of_getElem? (i := 594) (by decide +kernel)⟩
theorem lw_p14 : lw_okq (⟨"BeanContexts$Shelf", "displaceFor", "(LBeanContexts$Context;)V"⟩, 5) := ⟨⟨by decide +kernel, by decide +kernel⟩, List.mem_of_getElem? (i := 105) (by decide +kernel), List.mem_of_getElem? (i := 597) (by decide +kernel), List.mem_of_getElem? (i := 598) (by decide +kernel)⟩
theorem lw_p15 : lw_okq (⟨"BeanContexts", "contextOf", "(I)LBeanContexts$Context;"⟩, 6) := ⟨⟨by decide +kernel, by decide +kernel⟩, List.mem_of_getElem? (i := 24) (by decide +kernel), List.mem_of_getElem? (i := 614) (by decide +kernel), List.mem_of_getElem? (i := 615) (by decide +kernel)⟩
def lw_privs_1 : List (MethodName × Nat) := [(⟨"java/util/ArrayList", "add", "(Ljava/lang/Object;[Ljava/lang/Object;I)V"⟩, 3), (⟨"java/util/ArrayList", "grow", "()[Ljava/lang/Object;"⟩, 3), (⟨"java/util/ArrayList", "grow", "(I)[Ljava/lang/Object;"⟩, 3), (⟨"BeanContexts", "isConfiguration", "(I)Z"⟩, 6), (⟨"BeanContexts", "sharedKey", "(IILBeanContexts$Key;)LBeanContexts$Key;"⟩, 6), (⟨"BeanContexts$Shelf", "use", "(LBeanContexts$Context;)V"⟩, 5), (⟨"BeanContexts$Shelf", "removeFromOrder", "(LBeanContexts$Context;)V"⟩, 5), (⟨"java/util/ArrayList", "fastRemove", "([Ljava/lang/Object;I)V"⟩, 3), (⟨"java/util/ArrayList", "rangeCheckForAdd", "(I)V"⟩, 3), (⟨"BeanContexts$Shelf", "build", "(LBeanContexts$Key;LBeanContexts$Context;)I"⟩, 5), (⟨"BeanContexts$Workshop", "keep", "(LBeanContexts$Bean;)I"⟩, 3), (⟨"BeanContexts$Workshop", "assemble", "(LBeanContexts$Context;II)I"⟩, 3), (⟨"BeanContexts$Shelf", "takeBack", "(LBeanContexts$Context;)V"⟩, 5), (⟨"BeanContexts$Shelf", "putUp", "(LBeanContexts$Context;)V"⟩, 5), (⟨"BeanContexts$Shelf", "displaceFor", "(LBeanContexts$Context;)V"⟩, 5), (⟨"BeanContexts", "contextOf", "(I)LBeanContexts$Context;"⟩, 6)]
theorem lw_r1 : ∀ q ∈ lw_privs_1, lw_okq q := List.forall_mem_cons.mpr ⟨lw_p0, List.forall_mem_cons.mpr ⟨lw_p1, List.forall_mem_cons.mpr ⟨lw_p2, List.forall_mem_cons.mpr ⟨lw_p3, List.forall_mem_cons.mpr ⟨lw_p4, List.forall_mem_cons.mpr ⟨lw_p5, List.forall_mem_cons.mpr ⟨lw_p6, List.forall_mem_cons.mpr ⟨lw_p7, List.forall_mem_cons.mpr ⟨lw_p8, List.forall_mem_cons.mpr ⟨lw_p9, List.forall_mem_cons.mpr ⟨lw_p10, List.forall_mem_cons.mpr ⟨lw_p11, List.forall_mem_cons.mpr ⟨lw_p12, List.forall_mem_cons.mpr ⟨lw_p13, List.forall_mem_cons.mpr ⟨lw_p14, List.forall_mem_cons.mpr ⟨lw_p15, fun _ h => absurd h List.not_mem_nil⟩⟩⟩⟩⟩⟩⟩⟩⟩⟩⟩⟩⟩⟩⟩⟩
theorem lw_p16 : lw_okq (⟨"BeanContextsModel", "is", "(II)Z"⟩, 40) := ⟨⟨by decide +kernel, by decide +kernel⟩, List.mem_of_getElem? (i := 718) (by decide +kernel), List.mem_of_getElem? (i := 853) (by decide +kernel), List.mem_of_getElem? (i := 854) (by decide +kernel)⟩
theorem lw_p17 : lw_okq (⟨"BeanContextsModel", "isConfiguration", "(I)Z"⟩, 40) := ⟨⟨by decide +kernel, by decide +kernel⟩, List.mem_of_getElem? (i := 718) (by decide +kernel), List.mem_of_getElem? (i := 872) (by decide +kernel), List.mem_of_getElem? (i := 873) (by decide +kernel)⟩
theorem lw_p18 : lw_okq (⟨"BeanContextsModel", "equal", "(II)Z"⟩, 40) := ⟨⟨by decide +kernel, by decide +kernel⟩, List.mem_of_getElem? (i := 718) (by decide +kernel), List.mem_of_getElem? (i := 880) (by decide +kernel), List.mem_of_getElem? (i := 881) (by decide +kernel)⟩
theorem lw_p19 : lw_okq (⟨"BeanContextsModel", "obtain", "(I)I"⟩, 40) := ⟨⟨by decide +kernel, by decide +kernel⟩, List.mem_of_getElem? (i := 718) (by decide +kernel), List.mem_of_getElem? (i := 889) (by decide +kernel), List.mem_of_getElem? (i := 890) (by decide +kernel)⟩
theorem lw_p20 : lw_okq (⟨"BeanContextsModel", "contextOf", "(I)I"⟩, 40) := ⟨⟨by decide +kernel, by decide +kernel⟩, List.mem_of_getElem? (i := 718) (by decide +kernel), List.mem_of_getElem? (i := 893) (by decide +kernel), List.mem_of_getElem? (i := 894) (by decide +kernel)⟩
theorem lw_p21 : lw_okq (⟨"BeanContextsModel", "parentKey", "(I)I"⟩, 40) := ⟨⟨by decide +kernel, by decide +kernel⟩, List.mem_of_getElem? (i := 718) (by decide +kernel), List.mem_of_getElem? (i := 897) (by decide +kernel), List.mem_of_getElem? (i := 898) (by decide +kernel)⟩
theorem lw_p22 : lw_okq (⟨"BeanContextsModel", "use", "(I)V"⟩, 40) := ⟨⟨by decide +kernel, by decide +kernel⟩, List.mem_of_getElem? (i := 718) (by decide +kernel), List.mem_of_getElem? (i := 901) (by decide +kernel), List.mem_of_getElem? (i := 902) (by decide +kernel)⟩
theorem lw_p23 : lw_okq (⟨"BeanContextsModel", "stamp", "(I)V"⟩, 40) := ⟨⟨by decide +kernel, by decide +kernel⟩, List.mem_of_getElem? (i := 718) (by decide +kernel), List.mem_of_getElem? (i := 905) (by decide +kernel), List.mem_of_getElem? (i := 906) (by decide +kernel)⟩
theorem lw_p24 : lw_okq (⟨"BeanContextsModel", "build", "(II)I"⟩, 40) := ⟨⟨by decide +kernel, by decide +kernel⟩, List.mem_of_getElem? (i := 718) (by decide +kernel), List.mem_of_getElem? (i := 909) (by decide +kernel), List.mem_of_getElem? (i := 910) (by decide +kernel)⟩
theorem lw_p25 : lw_okq (⟨"BeanContextsModel", "isIn", "(II)Z"⟩, 40) := ⟨⟨by decide +kernel, by decide +kernel⟩, List.mem_of_getElem? (i := 718) (by decide +kernel), List.mem_of_getElem? (i := 913) (by decide +kernel), List.mem_of_getElem? (i := 914) (by decide +kernel)⟩
theorem lw_p26 : lw_okq (⟨"BeanContextsModel", "isMocked", "(II)Z"⟩, 40) := ⟨⟨by decide +kernel, by decide +kernel⟩, List.mem_of_getElem? (i := 718) (by decide +kernel), List.mem_of_getElem? (i := 917) (by decide +kernel), List.mem_of_getElem? (i := 918) (by decide +kernel)⟩
theorem lw_p27 : lw_okq (⟨"BeanContextsModel", "beanOf", "(II)I"⟩, 40) := ⟨⟨by decide +kernel, by decide +kernel⟩, List.mem_of_getElem? (i := 718) (by decide +kernel), List.mem_of_getElem? (i := 921) (by decide +kernel), List.mem_of_getElem? (i := 922) (by decide +kernel)⟩
theorem lw_p28 : lw_okq (⟨"BeanContextsModel", "supply", "(II)I"⟩, 40) := ⟨⟨by decide +kernel, by decide +kernel⟩, List.mem_of_getElem? (i := 718) (by decide +kernel), List.mem_of_getElem? (i := 925) (by decide +kernel), List.mem_of_getElem? (i := 926) (by decide +kernel)⟩
theorem lw_p29 : lw_okq (⟨"BeanContextsModel", "start", "(II)I"⟩, 40) := ⟨⟨by decide +kernel, by decide +kernel⟩, List.mem_of_getElem? (i := 718) (by decide +kernel), List.mem_of_getElem? (i := 929) (by decide +kernel), List.mem_of_getElem? (i := 930) (by decide +kernel)⟩
theorem lw_p30 : lw_okq (⟨"BeanContextsModel", "many", "(II)Z"⟩, 40) := ⟨⟨by decide +kernel, by decide +kernel⟩, List.mem_of_getElem? (i := 718) (by decide +kernel), List.mem_of_getElem? (i := 933) (by decide +kernel), List.mem_of_getElem? (i := 934) (by decide +kernel)⟩
theorem lw_p31 : lw_okq (⟨"BeanContextsModel", "make", "(III)I"⟩, 40) := ⟨⟨by decide +kernel, by decide +kernel⟩, List.mem_of_getElem? (i := 718) (by decide +kernel), List.mem_of_getElem? (i := 937) (by decide +kernel), List.mem_of_getElem? (i := 938) (by decide +kernel)⟩
def lw_privs_2 : List (MethodName × Nat) := [(⟨"BeanContextsModel", "is", "(II)Z"⟩, 40), (⟨"BeanContextsModel", "isConfiguration", "(I)Z"⟩, 40), (⟨"BeanContextsModel", "equal", "(II)Z"⟩, 40), (⟨"BeanContextsModel", "obtain", "(I)I"⟩, 40), (⟨"BeanContextsModel", "contextOf", "(I)I"⟩, 40), (⟨"BeanContextsModel", "parentKey", "(I)I"⟩, 40), (⟨"BeanContextsModel", "use", "(I)V"⟩, 40), (⟨"BeanContextsModel", "stamp", "(I)V"⟩, 40), (⟨"BeanContextsModel", "build", "(II)I"⟩, 40), (⟨"BeanContextsModel", "isIn", "(II)Z"⟩, 40), (⟨"BeanContextsModel", "isMocked", "(II)Z"⟩, 40), (⟨"BeanContextsModel", "beanOf", "(II)I"⟩, 40), (⟨"BeanContextsModel", "supply", "(II)I"⟩, 40), (⟨"BeanContextsModel", "start", "(II)I"⟩, 40), (⟨"BeanContextsModel", "many", "(II)Z"⟩, 40), (⟨"BeanContextsModel", "make", "(III)I"⟩, 40)]
theorem lw_r2 : ∀ q ∈ lw_privs_2, lw_okq q := List.forall_mem_cons.mpr ⟨lw_p16, List.forall_mem_cons.mpr ⟨lw_p17, List.forall_mem_cons.mpr ⟨lw_p18, List.forall_mem_cons.mpr ⟨lw_p19, List.forall_mem_cons.mpr ⟨lw_p20, List.forall_mem_cons.mpr ⟨lw_p21, List.forall_mem_cons.mpr ⟨lw_p22, List.forall_mem_cons.mpr ⟨lw_p23, List.forall_mem_cons.mpr ⟨lw_p24, List.forall_mem_cons.mpr ⟨lw_p25, List.forall_mem_cons.mpr ⟨lw_p26, List.forall_mem_cons.mpr ⟨lw_p27, List.forall_mem_cons.mpr ⟨lw_p28, List.forall_mem_cons.mpr ⟨lw_p29, List.forall_mem_cons.mpr ⟨lw_p30, List.forall_mem_cons.mpr ⟨lw_p31, fun _ h => absurd h List.not_mem_nil⟩⟩⟩⟩⟩⟩⟩⟩⟩⟩⟩⟩⟩⟩⟩⟩
theorem lw_p32 : lw_okq (⟨"BeanContextsModel", "note", "(II)V"⟩, 40) := ⟨⟨by decide +kernel, by decide +kernel⟩, List.mem_of_getElem? (i := 718) (by decide +kernel), List.mem_of_getElem? (i := 941) (by decide +kernel), List.mem_of_getElem? (i := 942) (by decide +kernel)⟩
theorem lw_p33 : lw_okq (⟨"BeanContextsModel", "find", "(IIII)I"⟩, 40) := ⟨⟨by decide +kernel, by decide +kernel⟩, List.mem_of_getElem? (i := 718) (by decide +kernel), List.mem_of_getElem? (i := 945) (by decide +kernel), List.mem_of_getElem? (i := 946) (by decide +kernel)⟩
theorem lw_p34 : lw_okq (⟨"BeanContextsModel", "destroy", "(I)V"⟩, 40) := ⟨⟨by decide +kernel, by decide +kernel⟩, List.mem_of_getElem? (i := 718) (by decide +kernel), List.mem_of_getElem? (i := 949) (by decide +kernel), List.mem_of_getElem? (i := 950) (by decide +kernel)⟩
theorem lw_p35 : lw_okq (⟨"BeanContextsModel", "keptNow", "()I"⟩, 40) := ⟨⟨by decide +kernel, by decide +kernel⟩, List.mem_of_getElem? (i := 718) (by decide +kernel), List.mem_of_getElem? (i := 953) (by decide +kernel), List.mem_of_getElem? (i := 954) (by decide +kernel)⟩
theorem lw_p36 : lw_okq (⟨"BeanContextsModel", "displace", "(I)V"⟩, 40) := ⟨⟨by decide +kernel, by decide +kernel⟩, List.mem_of_getElem? (i := 718) (by decide +kernel), List.mem_of_getElem? (i := 957) (by decide +kernel), List.mem_of_getElem? (i := 958) (by decide +kernel)⟩
theorem lw_p37 : lw_okq (⟨"BeanContextsModel", "isAbove", "(II)Z"⟩, 40) := ⟨⟨by decide +kernel, by decide +kernel⟩, List.mem_of_getElem? (i := 718) (by decide +kernel), List.mem_of_getElem? (i := 961) (by decide +kernel), List.mem_of_getElem? (i := 962) (by decide +kernel)⟩
theorem lw_p38 : lw_okq (⟨"BeanContextsModel", "close", "(I)I"⟩, 40) := ⟨⟨by decide +kernel, by decide +kernel⟩, List.mem_of_getElem? (i := 718) (by decide +kernel), List.mem_of_getElem? (i := 965) (by decide +kernel), List.mem_of_getElem? (i := 966) (by decide +kernel)⟩
theorem lw_p39 : lw_okq (⟨"BeanContextsModel", "child", "(I)I"⟩, 40) := ⟨⟨by decide +kernel, by decide +kernel⟩, List.mem_of_getElem? (i := 718) (by decide +kernel), List.mem_of_getElem? (i := 969) (by decide +kernel), List.mem_of_getElem? (i := 970) (by decide +kernel)⟩
theorem lw_p40 : lw_okq (⟨"BeanContextsModel", "closeOne", "(I)V"⟩, 40) := ⟨⟨by decide +kernel, by decide +kernel⟩, List.mem_of_getElem? (i := 718) (by decide +kernel), List.mem_of_getElem? (i := 973) (by decide +kernel), List.mem_of_getElem? (i := 974) (by decide +kernel)⟩
theorem lw_p41 : lw_okq (⟨"BeanContextsModel", "cachedFor", "(I)I"⟩, 40) := ⟨⟨by decide +kernel, by decide +kernel⟩, List.mem_of_getElem? (i := 718) (by decide +kernel), List.mem_of_getElem? (i := 981) (by decide +kernel), List.mem_of_getElem? (i := 982) (by decide +kernel)⟩
theorem lw_p42 : lw_okq (⟨"BeanContextsModel", "live", "(I)Z"⟩, 40) := ⟨⟨by decide +kernel, by decide +kernel⟩, List.mem_of_getElem? (i := 718) (by decide +kernel), List.mem_of_getElem? (i := 997) (by decide +kernel), List.mem_of_getElem? (i := 998) (by decide +kernel)⟩
def lw_privs_3 : List (MethodName × Nat) := [(⟨"BeanContextsModel", "note", "(II)V"⟩, 40), (⟨"BeanContextsModel", "find", "(IIII)I"⟩, 40), (⟨"BeanContextsModel", "destroy", "(I)V"⟩, 40), (⟨"BeanContextsModel", "keptNow", "()I"⟩, 40), (⟨"BeanContextsModel", "displace", "(I)V"⟩, 40), (⟨"BeanContextsModel", "isAbove", "(II)Z"⟩, 40), (⟨"BeanContextsModel", "close", "(I)I"⟩, 40), (⟨"BeanContextsModel", "child", "(I)I"⟩, 40), (⟨"BeanContextsModel", "closeOne", "(I)V"⟩, 40), (⟨"BeanContextsModel", "cachedFor", "(I)I"⟩, 40), (⟨"BeanContextsModel", "live", "(I)Z"⟩, 40)]
theorem lw_r3 : ∀ q ∈ lw_privs_3, lw_okq q := List.forall_mem_cons.mpr ⟨lw_p32, List.forall_mem_cons.mpr ⟨lw_p33, List.forall_mem_cons.mpr ⟨lw_p34, List.forall_mem_cons.mpr ⟨lw_p35, List.forall_mem_cons.mpr ⟨lw_p36, List.forall_mem_cons.mpr ⟨lw_p37, List.forall_mem_cons.mpr ⟨lw_p38, List.forall_mem_cons.mpr ⟨lw_p39, List.forall_mem_cons.mpr ⟨lw_p40, List.forall_mem_cons.mpr ⟨lw_p41, List.forall_mem_cons.mpr ⟨lw_p42, fun _ h => absurd h List.not_mem_nil⟩⟩⟩⟩⟩⟩⟩⟩⟩⟩⟩
def lw_privs : List (MethodName × Nat) := lw_privs_1 ++ (lw_privs_2 ++ (lw_privs_3))
def lw_tbl : List Cond := k2_sels lw_privs ++ tables_1
theorem lw_privs_ok : ∀ q ∈ lw_privs, lw_okq q := by
  show ∀ q ∈ lw_privs_1 ++ (lw_privs_2 ++ (lw_privs_3)), lw_okq q
  exact List.forall_mem_append.mpr ⟨lw_r1, List.forall_mem_append.mpr ⟨lw_r2, lw_r3⟩⟩
-- ===== end of PART A; then your names; then what follows =====
end
section
/-! The pure machine: a state of numbers and functions, what one instruction does to it, what a call does to it.
    x : q_S: size of the heap, slots made, which cells are ours, which objects are alive (class, address), fields (class, place, address), int arrays (tag, address), reference arrays (tag, address), the empty table of ArrayList, the mirror of Object[], the script (cell, length, ints). -/
abbrev q_S : Type := Nat × Nat × (Nat → Bool) × (Nat → Nat → Bool) × (Nat → Nat → Nat → Value) × (Nat → Nat → Option (Nat × (Nat → Int32))) × (Nat → Nat → Option (Nat × (Nat → Option Nat))) × (Nat × Nat × Nat × Nat × (Nat → Int32))
def q_sz (x : q_S) : Nat := x.1
def q_sl (x : q_S) : Nat := x.2.1
def q_ow (x : q_S) : Nat → Bool := x.2.2.1
def q_al (x : q_S) : Nat → Nat → Bool := x.2.2.2.1
def q_fd (x : q_S) : Nat → Nat → Nat → Value := x.2.2.2.2.1
def q_ai (x : q_S) : Nat → Nat → Option (Nat × (Nat → Int32)) := x.2.2.2.2.2.1
def q_ar (x : q_S) : Nat → Nat → Option (Nat × (Nat → Option Nat)) := x.2.2.2.2.2.2.1
def q_en (x : q_S) : Nat × Nat × Nat × Nat × (Nat → Int32) := x.2.2.2.2.2.2.2
def q_z0 (x : q_S) : Nat := (q_en x).1
def q_mo (x : q_S) : Nat := (q_en x).2.1
def q_sb (x : q_S) : Nat := (q_en x).2.2.1
def q_sL (x : q_S) : Nat := (q_en x).2.2.2.1
def q_sx (x : q_S) : Nat → Int32 := (q_en x).2.2.2.2
def q_putF (x : q_S) (ci k a : Nat) (v : Value) : q_S := (q_sz x, q_sl x, q_ow x, q_al x, (fun c j b => if c = ci ∧ j = k ∧ b = a then v else q_fd x c j b), q_ai x, q_ar x, q_en x)
def q_putI (x : q_S) (t a n : Nat) (f : Nat → Int32) : q_S := (q_sz x, q_sl x, q_ow x, q_al x, q_fd x, (fun u b => if u = t ∧ b = a then some (n, f) else q_ai x u b), q_ar x, q_en x)
def q_putR (x : q_S) (t a n : Nat) (f : Nat → Option Nat) : q_S := (q_sz x, q_sl x, q_ow x, q_al x, q_fd x, q_ai x, (fun u b => if u = t ∧ b = a then some (n, f) else q_ar x u b), q_en x)
def q_newO (x : q_S) (ci N : Nat) (dv : Nat → Value) : q_S := (q_sz x + 1, q_sl x + N, (fun b => if b = q_sz x then true else q_ow x b), (fun c b => if c = ci ∧ b = q_sz x then true else q_al x c b), (fun c j b => if c = ci ∧ b = q_sz x then dv j else q_fd x c j b), q_ai x, q_ar x, q_en x)
def q_newI (x : q_S) (t n : Nat) : q_S := (q_sz x + 1, q_sl x + n, (fun b => if b = q_sz x then true else q_ow x b), q_al x, q_fd x, (fun u b => if u = t ∧ b = q_sz x then some (n, fun _ => 0) else q_ai x u b), q_ar x, q_en x)
def q_newR (x : q_S) (t n : Nat) : q_S := (q_sz x + 1, q_sl x + n, (fun b => if b = q_sz x then true else q_ow x b), q_al x, q_fd x, q_ai x, (fun u b => if u = t ∧ b = q_sz x then some (n, fun _ => none) else q_ar x u b), q_en x)
/-- tags from 100 on are arrays of booleans -/
def q_kd (t : Nat) : Nat := if 100 ≤ t then 1 else 0
def q_cnd (c : ClassFile.Cond) (x y : Int32) : Prop := match c with
  | .eq => x = y
  | .ne => ¬ x = y
  | .lt => x < y
  | .ge => y ≤ x
  | .gt => y < x
  | .le => x ≤ y
def q_acn (c : ClassFile.ACond) (x y : Option Nat) : Prop := match c with
  | .eq => x = y
  | .ne => ¬ x = y
def q_st1 (ls : List (Nat × Value)) (i : Nat) (v : Value) : List (Nat × Value) := (i, v) :: ls.filter (fun q => !(q.1 == i))
def q_la : Nat → List Value → List (Nat × Value)
  | _, [] => []
  | i, v :: vs => (i, v) :: q_la (i + 1) vs
def q_c1 (ls : List (Nat × Value)) : Prop := ∀ q ∈ ls, q.2.category = 1
/-- a method of the table: its name, code, number of locals, what it returns, how many parameters -/
abbrev q_M : Type := MethodName × ByteArray × Nat × Option FieldType × Nat
/-- a field's link: class that has it in its pool, place there, class of the object, place of the field, class named, host of the nest, type, whether final -/
abbrev q_F : Type := String × Nat × Nat × Nat × String × Option String × FieldType × Bool
/-- a call's link: class that has it in its pool, place there, method, host of the nest -/
abbrev q_L : Type := String × Nat × q_M × Option String
/-- a new object's link: class that has it in its pool, place there, class of the object, what its fields begin with -/
abbrev q_N : Type := String × Nat × Nat × List Value
end
section
/-! The methods, as records. -/
abbrev jq_AbC_init : q_M := (⟨"java/util/AbstractCollection", "<init>", "()V"⟩, prog_20_method_1_code, 1, none, 0)
abbrev jq_AbL_init : q_M := (⟨"java/util/AbstractList", "<init>", "()V"⟩, prog_21_method_1_code, 1, none, 0)
abbrev jq_AL_init : q_M := (⟨"java/util/ArrayList", "<init>", "()V"⟩, prog_22_method_2_code, 1, none, 0)
abbrev jq_Ca_init : q_M := (⟨"BeanContexts$Catalog", "<init>", "()V"⟩, prog_3_method_1_code, 2, none, 0)
abbrev jq_Jo_init : q_M := (⟨"BeanContexts$Journal", "<init>", "()V"⟩, prog_6_method_1_code, 1, none, 0)
abbrev jq_Sh_init : q_M := (⟨"BeanContexts$Shelf", "<init>", "(ILBeanContexts$Workshop;LBeanContexts$Journal;)V"⟩, prog_9_method_1_code, 4, none, 3)
abbrev jq_Wo_init : q_M := (⟨"BeanContexts$Workshop", "<init>", "(LBeanContexts$Catalog;LBeanContexts$Journal;)V"⟩, prog_10_method_1_code, 3, none, 2)
abbrev jq_Bc_init : q_M := (⟨"BeanContexts", "<init>", "(I)V"⟩, prog_1_method_1_code, 2, none, 1)
abbrev jq_Bc_isBelow : q_M := (⟨"BeanContexts", "isBelow", "(II)Z"⟩, prog_1_method_21_code, 2, some .boolean, 2)
abbrev jq_AL_elementData : q_M := (⟨"java/util/ArrayList", "elementData", "(I)Ljava/lang/Object;"⟩, prog_22_method_18_code, 2, some (.object "java/lang/Object"), 1)
abbrev jq_Pre_checkIndex : q_M := (⟨"jdk/internal/util/Preconditions", "checkIndex", "(IILjava/util/function/BiFunction;)I"⟩, prog_30_method_11_code, 3, some .int, 3)
abbrev jq_Obs_checkIndex : q_M := (⟨"java/util/Objects", "checkIndex", "(II)I"⟩, prog_26_method_17_code, 2, some .int, 2)
abbrev jq_AL_get : q_M := (⟨"java/util/ArrayList", "get", "(I)Ljava/lang/Object;"⟩, prog_22_method_20_code, 2, some (.object "java/lang/Object"), 1)
abbrev jq_AL_size : q_M := (⟨"java/util/ArrayList", "size", "()I"⟩, prog_22_method_8_code, 1, some .int, 0)
abbrev jq_Sh_numberAt : q_M := (⟨"BeanContexts$Shelf", "numberAt", "(I)I"⟩, prog_9_method_3_code, 2, some .int, 1)
abbrev jq_Bc_cached : q_M := (⟨"BeanContexts", "cached", "(I)I"⟩, prog_1_method_17_code, 2, some .int, 1)
abbrev jq_Be_note : q_M := (⟨"BeanContexts$Bean", "note", "(I)I"⟩, prog_2_method_2_code, 2, some .int, 1)
abbrev jq_Wo_answerOf : q_M := (⟨"BeanContexts$Workshop", "answerOf", "(LBeanContexts$Bean;I)I"⟩, prog_10_method_9_code, 7, some .int, 2)
abbrev jq_Wo_liveBean : q_M := (⟨"BeanContexts$Workshop", "liveBean", "(I)LBeanContexts$Bean;"⟩, prog_10_method_7_code, 3, some (.object "BeanContexts$Bean"), 1)
abbrev jq_Bc_call : q_M := (⟨"BeanContexts", "call", "(II)J"⟩, prog_1_method_11_code, 4, some .long, 2)
abbrev jq_Bc_isConfiguration : q_M := (⟨"BeanContexts", "isConfiguration", "(I)Z"⟩, prog_1_method_27_code, 2, some .boolean, 1)
abbrev jq_Bc_isProfile : q_M := (⟨"BeanContexts", "isProfile", "(I)Z"⟩, prog_1_method_25_code, 1, some .boolean, 1)
abbrev jq_Ca_flagged : q_M := (⟨"BeanContexts$Catalog", "flagged", "(I)I"⟩, prog_3_method_8_code, 4, some .int, 1)
abbrev jq_Ke_init : q_M := (⟨"BeanContexts$Key", "<init>", "(IIIIILBeanContexts$Key;)V"⟩, prog_7_method_1_code, 7, none, 6)
abbrev jq_Bc_sharedKey : q_M := (⟨"BeanContexts", "sharedKey", "(IILBeanContexts$Key;)LBeanContexts$Key;"⟩, prog_1_method_29_code, 6, some (.object "BeanContexts$Key"), 3)
abbrev jq_Ca_ofProfile : q_M := (⟨"BeanContexts$Catalog", "ofProfile", "(I)I"⟩, prog_3_method_7_code, 5, some .int, 1)
abbrev jq_Ke_canBeParent : q_M := (⟨"BeanContexts$Key", "canBeParent", "()Z"⟩, prog_7_method_2_code, 1, some .boolean, 0)
abbrev jq_Arr_copyOfC : q_M := (⟨"java/util/Arrays", "copyOf", "([Ljava/lang/Object;ILjava/lang/Class;)[Ljava/lang/Object;"⟩, prog_23_method_120_code, 4, some (.array (.object "java/lang/Object")), 3)
abbrev jq_Arr_copyOf : q_M := (⟨"java/util/Arrays", "copyOf", "([Ljava/lang/Object;I)[Ljava/lang/Object;"⟩, prog_23_method_119_code, 2, some (.array (.object "java/lang/Object")), 2)
abbrev jq_ArS_hugeLength : q_M := (⟨"jdk/internal/util/ArraysSupport", "hugeLength", "(II)I"⟩, prog_29_method_28_code, 3, some .int, 2)
abbrev jq_ArS_newLength : q_M := (⟨"jdk/internal/util/ArraysSupport", "newLength", "(III)I"⟩, prog_29_method_27_code, 4, some .int, 3)
abbrev jq_AL_growTo : q_M := (⟨"java/util/ArrayList", "grow", "(I)[Ljava/lang/Object;"⟩, prog_22_method_6_code, 4, some (.array (.object "java/lang/Object")), 1)
abbrev jq_AL_grow : q_M := (⟨"java/util/ArrayList", "grow", "()[Ljava/lang/Object;"⟩, prog_22_method_7_code, 1, some (.array (.object "java/lang/Object")), 0)
abbrev jq_AL_add3 : q_M := (⟨"java/util/ArrayList", "add", "(Ljava/lang/Object;[Ljava/lang/Object;I)V"⟩, prog_22_method_24_code, 4, none, 3)
abbrev jq_AL_add : q_M := (⟨"java/util/ArrayList", "add", "(Ljava/lang/Object;)Z"⟩, prog_22_method_25_code, 2, some .boolean, 1)
abbrev jq_Bc_configure : q_M := (⟨"BeanContexts", "configure", "(IIII)I"⟩, prog_1_method_5_code, 7, some .int, 4)
abbrev jq_Bc_isQualifier : q_M := (⟨"BeanContexts", "isQualifier", "(I)Z"⟩, prog_1_method_24_code, 1, some .boolean, 1)
abbrev jq_Bc_isType : q_M := (⟨"BeanContexts", "isType", "(I)Z"⟩, prog_1_method_23_code, 1, some .boolean, 1)
abbrev jq_Ca_add : q_M := (⟨"BeanContexts$Catalog", "add", "(LBeanContexts$Definition;)I"⟩, prog_3_method_6_code, 2, some .int, 1)
abbrev jq_Ca_size : q_M := (⟨"BeanContexts$Catalog", "size", "()I"⟩, prog_3_method_4_code, 1, some .int, 0)
abbrev jq_De_init : q_M := (⟨"BeanContexts$Definition", "<init>", "(IIII)V"⟩, prog_5_method_1_code, 5, none, 4)
abbrev jq_AL_isEmpty : q_M := (⟨"java/util/ArrayList", "isEmpty", "()Z"⟩, prog_22_method_9_code, 1, some .boolean, 0)
abbrev jq_Bc_define : q_M := (⟨"BeanContexts", "define", "(IIII)I"⟩, prog_1_method_3_code, 5, some .int, 4)
abbrev jq_Bc_definition : q_M := (⟨"BeanContexts", "definition", "(I)I"⟩, prog_1_method_16_code, 3, some .int, 1)
abbrev jq_Sh_cachedFor : q_M := (⟨"BeanContexts$Shelf", "cachedFor", "(LBeanContexts$Key;)LBeanContexts$Context;"⟩, prog_9_method_2_code, 3, some (.object "BeanContexts$Context"), 1)
abbrev jq_Bc_contextOf : q_M := (⟨"BeanContexts", "contextOf", "(I)LBeanContexts$Context;"⟩, prog_1_method_28_code, 2, some (.object "BeanContexts$Context"), 1)
abbrev jq_Jo_write : q_M := (⟨"BeanContexts$Journal", "write", "(II)V"⟩, prog_6_method_2_code, 3, none, 2)
abbrev jq_AL_fastRemove : q_M := (⟨"java/util/ArrayList", "fastRemove", "([Ljava/lang/Object;I)V"⟩, prog_22_method_39_code, 4, none, 2)
abbrev jq_AL_remove : q_M := (⟨"java/util/ArrayList", "remove", "(I)Ljava/lang/Object;"⟩, prog_22_method_29_code, 4, some (.object "java/lang/Object"), 1)
abbrev jq_Sh_removeFromOrder : q_M := (⟨"BeanContexts$Shelf", "removeFromOrder", "(LBeanContexts$Context;)V"⟩, prog_9_method_10_code, 3, none, 1)
abbrev jq_Bc_contains : q_M := (⟨"BeanContexts", "contains", "(II)Z"⟩, prog_1_method_22_code, 2, some .boolean, 2)
abbrev jq_Wo_destroyBeans : q_M := (⟨"BeanContexts$Workshop", "destroyBeans", "(LBeanContexts$Context;)V"⟩, prog_10_method_6_code, 4, none, 1)
abbrev jq_Sh_close : q_M := (⟨"BeanContexts$Shelf", "close", "(LBeanContexts$Context;)I"⟩, prog_9_method_11_code, 5, some .int, 1)
abbrev jq_Bc_dirty : q_M := (⟨"BeanContexts", "dirty", "(I)I"⟩, prog_1_method_8_code, 3, some .int, 1)
abbrev jq_Jo_before : q_M := (⟨"BeanContexts$Journal", "before", "(I)I"⟩, prog_6_method_4_code, 2, some .int, 1)
abbrev jq_Bc_event : q_M := (⟨"BeanContexts", "event", "(I)I"⟩, prog_1_method_20_code, 2, some .int, 1)
abbrev jq_Jo_size : q_M := (⟨"BeanContexts$Journal", "size", "()I"⟩, prog_6_method_3_code, 1, some .int, 0)
abbrev jq_Bc_events : q_M := (⟨"BeanContexts", "events", "()I"⟩, prog_1_method_19_code, 1, some .int, 0)
abbrev jq_Ca_isKind : q_M := (⟨"BeanContexts$Catalog", "isKind", "(II)Z"⟩, prog_3_method_2_code, 3, some .boolean, 2)
abbrev jq_Ca_addKind : q_M := (⟨"BeanContexts$Catalog", "addKind", "(II)V"⟩, prog_3_method_3_code, 4, none, 2)
abbrev jq_Bc_extend : q_M := (⟨"BeanContexts", "extend", "(II)Z"⟩, prog_1_method_2_code, 3, some .boolean, 2)
abbrev jq_Bc_failures : q_M := (⟨"BeanContexts", "failures", "(I)I"⟩, prog_1_method_18_code, 2, some .int, 1)
abbrev jq_Bc_isName : q_M := (⟨"BeanContexts", "isName", "(I)Z"⟩, prog_1_method_26_code, 1, some .boolean, 1)
abbrev jq_Rec_init : q_M := (⟨"java/lang/Record", "<init>", "()V"⟩, prog_18_method_1_code, 1, none, 0)
abbrev jq_Ne_init : q_M := (⟨"BeanContexts$Need", "<init>", "(III)V"⟩, prog_8_method_1_code, 4, none, 3)
abbrev jq_Ne_qualifier : q_M := (⟨"BeanContexts$Need", "qualifier", "()I"⟩, prog_8_method_6_code, 1, some .int, 0)
abbrev jq_Ne_type : q_M := (⟨"BeanContexts$Need", "type", "()I"⟩, prog_8_method_5_code, 1, some .int, 0)
abbrev jq_Ca_candidates : q_M := (⟨"BeanContexts$Catalog", "candidates", "(ILBeanContexts$Need;)I"⟩, prog_3_method_9_code, 8, some .int, 2)
abbrev jq_Int_bitCount : q_M := (⟨"java/lang/Integer", "bitCount", "(I)I"⟩, prog_15_method_49_code, 1, some .int, 1)
abbrev jq_Int_numberOfTrailingZeros : q_M := (⟨"java/lang/Integer", "numberOfTrailingZeros", "(I)I"⟩, prog_15_method_48_code, 2, some .int, 1)
abbrev jq_Ca_choose : q_M := (⟨"BeanContexts$Catalog", "choose", "(II)I"⟩, prog_3_method_10_code, 4, some .int, 2)
abbrev jq_Ne_name : q_M := (⟨"BeanContexts$Need", "name", "()I"⟩, prog_8_method_7_code, 1, some .int, 0)
abbrev jq_Be_init : q_M := (⟨"BeanContexts$Bean", "<init>", "(ILBeanContexts$Context;Z[I)V"⟩, prog_2_method_1_code, 5, none, 4)
abbrev jq_Ca_at : q_M := (⟨"BeanContexts$Catalog", "at", "(I)LBeanContexts$Definition;"⟩, prog_3_method_5_code, 2, some (.object "BeanContexts$Definition"), 1)
abbrev jq_Wo_keep : q_M := (⟨"BeanContexts$Workshop", "keep", "(LBeanContexts$Bean;)I"⟩, prog_10_method_5_code, 3, some .int, 1)
abbrev jq_Wo_assemble : q_M := (⟨"BeanContexts$Workshop", "assemble", "(LBeanContexts$Context;II)I"⟩, prog_10_method_4_code, 8, some .int, 3)
abbrev jq_Wo_supply : q_M := (⟨"BeanContexts$Workshop", "supply", "(LBeanContexts$Context;II)I"⟩, prog_10_method_3_code, 5, some .int, 3)
abbrev jq_Wo_supplyNeed : q_M := (⟨"BeanContexts$Workshop", "supplyNeed", "(LBeanContexts$Context;LBeanContexts$Need;I)I"⟩, prog_10_method_2_code, 7, some .int, 3)
abbrev jq_Bc_get : q_M := (⟨"BeanContexts", "get", "(IIII)I"⟩, prog_1_method_10_code, 6, some .int, 4)
abbrev jq_Bc_key : q_M := (⟨"BeanContexts", "key", "(I)I"⟩, prog_1_method_6_code, 2, some .int, 1)
abbrev jq_De_addNeed : q_M := (⟨"BeanContexts$Definition", "addNeed", "(LBeanContexts$Need;)Z"⟩, prog_5_method_2_code, 2, some .boolean, 1)
abbrev jq_Bc_need : q_M := (⟨"BeanContexts", "need", "(IIII)Z"⟩, prog_1_method_4_code, 5, some .boolean, 4)
abbrev jq_Wo_liveMock : q_M := (⟨"BeanContexts$Workshop", "liveMock", "(I)LBeanContexts$Bean;"⟩, prog_10_method_8_code, 3, some (.object "BeanContexts$Bean"), 1)
abbrev jq_Bc_recorded : q_M := (⟨"BeanContexts", "recorded", "(II)J"⟩, prog_1_method_13_code, 4, some .long, 2)
abbrev jq_Arr_fill : q_M := (⟨"java/util/Arrays", "fill", "([II)V"⟩, prog_23_method_103_code, 4, none, 2)
abbrev jq_Co_init : q_M := (⟨"BeanContexts$Context", "<init>", "(ILBeanContexts$Key;LBeanContexts$Context;)V"⟩, prog_4_method_1_code, 4, none, 3)
abbrev jq_Co_hasAncestor : q_M := (⟨"BeanContexts$Context", "hasAncestor", "(LBeanContexts$Context;)Z"⟩, prog_4_method_2_code, 3, some .boolean, 1)
abbrev jq_Sh_displaceFor : q_M := (⟨"BeanContexts$Shelf", "displaceFor", "(LBeanContexts$Context;)V"⟩, prog_9_method_8_code, 3, none, 1)
abbrev jq_AL_rangeCheckForAdd : q_M := (⟨"java/util/ArrayList", "rangeCheckForAdd", "(I)V"⟩, prog_22_method_45_code, 2, none, 1)
abbrev jq_AL_addAt : q_M := (⟨"java/util/ArrayList", "add", "(ILjava/lang/Object;)V"⟩, prog_22_method_26_code, 5, none, 2)
abbrev jq_Sh_use : q_M := (⟨"BeanContexts$Shelf", "use", "(LBeanContexts$Context;)V"⟩, prog_9_method_9_code, 4, none, 1)
abbrev jq_Sh_putUp : q_M := (⟨"BeanContexts$Shelf", "putUp", "(LBeanContexts$Context;)V"⟩, prog_9_method_6_code, 2, none, 1)
abbrev jq_Sh_takeBack : q_M := (⟨"BeanContexts$Shelf", "takeBack", "(LBeanContexts$Context;)V"⟩, prog_9_method_7_code, 2, none, 1)
abbrev jq_Sh_build : q_M := (⟨"BeanContexts$Shelf", "build", "(LBeanContexts$Key;LBeanContexts$Context;)I"⟩, prog_9_method_5_code, 6, some .int, 2)
abbrev jq_Sh_obtain : q_M := (⟨"BeanContexts$Shelf", "obtain", "(LBeanContexts$Key;)I"⟩, prog_9_method_4_code, 4, some .int, 1)
abbrev jq_Bc_request : q_M := (⟨"BeanContexts", "request", "(I)I"⟩, prog_1_method_7_code, 2, some .int, 1)
abbrev jq_Be_clear : q_M := (⟨"BeanContexts$Bean", "clear", "()V"⟩, prog_2_method_3_code, 1, none, 0)
abbrev jq_Wo_clearMocks : q_M := (⟨"BeanContexts$Workshop", "clearMocks", "(LBeanContexts$Context;)I"⟩, prog_10_method_10_code, 5, some .int, 1)
abbrev jq_Bc_reset : q_M := (⟨"BeanContexts", "reset", "(I)I"⟩, prog_1_method_14_code, 3, some .int, 1)
abbrev jq_Sh_closeAll : q_M := (⟨"BeanContexts$Shelf", "closeAll", "()I"⟩, prog_9_method_12_code, 4, some .int, 0)
abbrev jq_Bc_shutdown : q_M := (⟨"BeanContexts", "shutdown", "()I"⟩, prog_1_method_9_code, 1, some .int, 0)
abbrev jq_Bc_stub : q_M := (⟨"BeanContexts", "stub", "(II)Z"⟩, prog_1_method_12_code, 4, some .boolean, 2)
abbrev jq_Bc_wired : q_M := (⟨"BeanContexts", "wired", "(II)I"⟩, prog_1_method_15_code, 4, some .int, 2)
abbrev jq_La_cell : q_M := (⟨"BeanContextsLaw", "cell", "([II)I"⟩, method_2_code, 2, some .int, 2)
abbrev jq_Mo_init : q_M := (⟨"BeanContextsModel", "<init>", "(I)V"⟩, prog_12_method_1_code, 2, none, 1)
abbrev jq_Mo_cached : q_M := (⟨"BeanContextsModel", "cached", "(I)I"⟩, prog_12_method_46_code, 5, some .int, 1)
abbrev jq_Mo_in : q_M := (⟨"BeanContextsModel", "in", "(III)Z"⟩, prog_12_method_2_code, 3, some .boolean, 3)
abbrev jq_Mo_live : q_M := (⟨"BeanContextsModel", "live", "(I)Z"⟩, prog_12_method_39_code, 2, some .boolean, 1)
abbrev jq_Mo_call : q_M := (⟨"BeanContextsModel", "call", "(II)J"⟩, prog_12_method_40_code, 7, some .long, 2)
abbrev jq_Mo_isConfiguration : q_M := (⟨"BeanContextsModel", "isConfiguration", "(I)Z"⟩, prog_12_method_9_code, 2, some .boolean, 1)
abbrev jq_Mo_configure : q_M := (⟨"BeanContextsModel", "configure", "(IIII)I"⟩, prog_12_method_10_code, 9, some .int, 4)
abbrev jq_Mo_define : q_M := (⟨"BeanContextsModel", "define", "(IIII)I"⟩, prog_12_method_6_code, 5, some .int, 4)
abbrev jq_Mo_definition : q_M := (⟨"BeanContextsModel", "definition", "(I)I"⟩, prog_12_method_45_code, 2, some .int, 1)
abbrev jq_Mo_contextOf : q_M := (⟨"BeanContextsModel", "contextOf", "(I)I"⟩, prog_12_method_22_code, 3, some .int, 1)
abbrev jq_Mo_equal : q_M := (⟨"BeanContextsModel", "equal", "(II)Z"⟩, prog_12_method_12_code, 6, some .boolean, 2)
abbrev jq_Mo_key : q_M := (⟨"BeanContextsModel", "key", "(I)I"⟩, prog_12_method_11_code, 3, some .int, 1)
abbrev jq_Mo_cachedFor : q_M := (⟨"BeanContextsModel", "cachedFor", "(I)I"⟩, prog_12_method_35_code, 2, some .int, 1)
abbrev jq_Mo_child : q_M := (⟨"BeanContextsModel", "child", "(I)I"⟩, prog_12_method_31_code, 3, some .int, 1)
abbrev jq_Mo_isMocked : q_M := (⟨"BeanContextsModel", "isMocked", "(II)Z"⟩, prog_12_method_14_code, 3, some .boolean, 2)
abbrev jq_Mo_many : q_M := (⟨"BeanContextsModel", "many", "(II)Z"⟩, prog_12_method_15_code, 3, some .boolean, 2)
abbrev jq_Mo_note : q_M := (⟨"BeanContextsModel", "note", "(II)V"⟩, prog_12_method_3_code, 3, none, 2)
abbrev jq_Mo_destroy : q_M := (⟨"BeanContextsModel", "destroy", "(I)V"⟩, prog_12_method_21_code, 3, none, 1)
abbrev jq_Mo_closeOne : q_M := (⟨"BeanContextsModel", "closeOne", "(I)V"⟩, prog_12_method_32_code, 2, none, 1)
abbrev jq_Mo_close : q_M := (⟨"BeanContextsModel", "close", "(I)I"⟩, prog_12_method_33_code, 5, some .int, 1)
abbrev jq_Mo_dirty : q_M := (⟨"BeanContextsModel", "dirty", "(I)I"⟩, prog_12_method_36_code, 3, some .int, 1)
abbrev jq_Mo_event : q_M := (⟨"BeanContextsModel", "event", "(I)I"⟩, prog_12_method_49_code, 2, some .int, 1)
abbrev jq_Mo_events : q_M := (⟨"BeanContextsModel", "events", "()I"⟩, prog_12_method_48_code, 1, some .int, 0)
abbrev jq_Mo_is : q_M := (⟨"BeanContextsModel", "is", "(II)Z"⟩, prog_12_method_4_code, 3, some .boolean, 2)
abbrev jq_Mo_extend : q_M := (⟨"BeanContextsModel", "extend", "(II)Z"⟩, prog_12_method_5_code, 6, some .boolean, 2)
abbrev jq_Mo_failures : q_M := (⟨"BeanContextsModel", "failures", "(I)I"⟩, prog_12_method_47_code, 2, some .int, 1)
abbrev jq_Mo_asked : q_M := (⟨"BeanContextsModel", "asked", "(III)Z"⟩, prog_12_method_7_code, 3, some .boolean, 3)
abbrev jq_Mo_isIn : q_M := (⟨"BeanContextsModel", "isIn", "(II)Z"⟩, prog_12_method_13_code, 3, some .boolean, 2)
abbrev jq_Mo_find : q_M := (⟨"BeanContextsModel", "find", "(IIII)I"⟩, prog_12_method_17_code, 13, some .int, 4)
abbrev jq_Mo_make : q_M := (⟨"BeanContextsModel", "make", "(III)I"⟩, prog_12_method_18_code, 5, some .int, 3)
abbrev jq_Mo_beanOf : q_M := (⟨"BeanContextsModel", "beanOf", "(II)I"⟩, prog_12_method_16_code, 4, some .int, 2)
abbrev jq_Mo_start : q_M := (⟨"BeanContextsModel", "start", "(II)I"⟩, prog_12_method_19_code, 5, some .int, 2)
abbrev jq_Mo_supply : q_M := (⟨"BeanContextsModel", "supply", "(II)I"⟩, prog_12_method_20_code, 8, some .int, 2)
abbrev jq_Mo_get : q_M := (⟨"BeanContextsModel", "get", "(IIII)I"⟩, prog_12_method_38_code, 7, some .int, 4)
abbrev jq_Mo_need : q_M := (⟨"BeanContextsModel", "need", "(IIII)Z"⟩, prog_12_method_8_code, 6, some .boolean, 4)
abbrev jq_Mo_recorded : q_M := (⟨"BeanContextsModel", "recorded", "(II)J"⟩, prog_12_method_42_code, 3, some .long, 2)
abbrev jq_Mo_isAbove : q_M := (⟨"BeanContextsModel", "isAbove", "(II)Z"⟩, prog_12_method_26_code, 4, some .boolean, 2)
abbrev jq_Mo_displace : q_M := (⟨"BeanContextsModel", "displace", "(I)V"⟩, prog_12_method_30_code, 5, none, 1)
abbrev jq_Mo_keptNow : q_M := (⟨"BeanContextsModel", "keptNow", "()I"⟩, prog_12_method_29_code, 3, some .int, 0)
abbrev jq_Mo_stamp : q_M := (⟨"BeanContextsModel", "stamp", "(I)V"⟩, prog_12_method_25_code, 2, none, 1)
abbrev jq_Mo_use : q_M := (⟨"BeanContextsModel", "use", "(I)V"⟩, prog_12_method_24_code, 4, none, 1)
abbrev jq_Mo_build : q_M := (⟨"BeanContextsModel", "build", "(II)I"⟩, prog_12_method_28_code, 6, some .int, 2)
abbrev jq_Mo_parentKey : q_M := (⟨"BeanContextsModel", "parentKey", "(I)I"⟩, prog_12_method_23_code, 2, some .int, 1)
abbrev jq_Mo_obtain : q_M := (⟨"BeanContextsModel", "obtain", "(I)I"⟩, prog_12_method_27_code, 9, some .int, 1)
abbrev jq_Mo_request : q_M := (⟨"BeanContextsModel", "request", "(I)I"⟩, prog_12_method_34_code, 2, some .int, 1)
abbrev jq_Mo_reset : q_M := (⟨"BeanContextsModel", "reset", "(I)I"⟩, prog_12_method_43_code, 6, some .int, 1)
abbrev jq_Mo_shutdown : q_M := (⟨"BeanContextsModel", "shutdown", "()I"⟩, prog_12_method_37_code, 3, some .int, 0)
abbrev jq_Mo_stub : q_M := (⟨"BeanContextsModel", "stub", "(II)Z"⟩, prog_12_method_41_code, 3, some .boolean, 2)
abbrev jq_Mo_wired : q_M := (⟨"BeanContextsModel", "wired", "(II)I"⟩, prog_12_method_44_code, 3, some .int, 2)
abbrev jq_La_law : q_M := (⟨"BeanContextsLaw", "law", "([I)Z"⟩, code, 4, some .boolean, 1)
end
section
/-! The tables: classes, fields, links. -/
def jT_0 : u_T := fun k => match k with
  | 0 => ("BeanContexts", "catalog", "LBeanContexts$Catalog;", true)
  | 1 => ("BeanContexts", "configurations", "Ljava/util/ArrayList;", true)
  | 2 => ("BeanContexts", "journal", "LBeanContexts$Journal;", true)
  | 3 => ("BeanContexts", "workshop", "LBeanContexts$Workshop;", true)
  | 4 => ("BeanContexts", "shelf", "LBeanContexts$Shelf;", true)
  | _ => ("BeanContexts", "down", "Z", false)
def jy_0 : Nat → FieldType := fun k => match k with
  | 0 => .object "BeanContexts$Catalog"
  | 1 => .object "java/util/ArrayList"
  | 2 => .object "BeanContexts$Journal"
  | 3 => .object "BeanContexts$Workshop"
  | 4 => .object "BeanContexts$Shelf"
  | _ => .boolean
abbrev jdv_0 : List Value := [.null, .null, .null, .null, .null, .int 0]
def jT_1 : u_T := fun k => match k with
  | 0 => ("BeanContexts$Catalog", "kinds", "[I", true)
  | _ => ("BeanContexts$Catalog", "definitions", "Ljava/util/ArrayList;", true)
def jy_1 : Nat → FieldType := fun k => match k with
  | 0 => .array .int
  | _ => .object "java/util/ArrayList"
abbrev jdv_1 : List Value := [.null, .null]
def jT_2 : u_T := fun k => match k with
  | 0 => ("java/util/AbstractList", "modCount", "I", false)
  | 1 => ("java/util/ArrayList", "elementData", "[Ljava/lang/Object;", false)
  | _ => ("java/util/ArrayList", "size", "I", false)
def jy_2 : Nat → FieldType := fun k => match k with
  | 0 => .int
  | 1 => .array (.object "java/lang/Object")
  | _ => .int
abbrev jdv_2 : List Value := [.int 0, .null, .int 0]
def jT_3 : u_T := fun k => match k with
  | 0 => ("BeanContexts$Journal", "ring", "[I", true)
  | _ => ("BeanContexts$Journal", "total", "I", false)
def jy_3 : Nat → FieldType := fun k => match k with
  | 0 => .array .int
  | _ => .int
abbrev jdv_3 : List Value := [.null, .int 0]
def jT_4 : u_T := fun k => match k with
  | 0 => ("BeanContexts$Workshop", "catalog", "LBeanContexts$Catalog;", true)
  | 1 => ("BeanContexts$Workshop", "journal", "LBeanContexts$Journal;", true)
  | _ => ("BeanContexts$Workshop", "beans", "Ljava/util/ArrayList;", true)
def jy_4 : Nat → FieldType := fun k => match k with
  | 0 => .object "BeanContexts$Catalog"
  | 1 => .object "BeanContexts$Journal"
  | _ => .object "java/util/ArrayList"
abbrev jdv_4 : List Value := [.null, .null, .null]
def jT_5 : u_T := fun k => match k with
  | 0 => ("BeanContexts$Shelf", "capacity", "I", true)
  | 1 => ("BeanContexts$Shelf", "workshop", "LBeanContexts$Workshop;", true)
  | 2 => ("BeanContexts$Shelf", "journal", "LBeanContexts$Journal;", true)
  | 3 => ("BeanContexts$Shelf", "begun", "Ljava/util/ArrayList;", true)
  | _ => ("BeanContexts$Shelf", "order", "Ljava/util/ArrayList;", true)
def jy_5 : Nat → FieldType := fun k => match k with
  | 0 => .int
  | 1 => .object "BeanContexts$Workshop"
  | 2 => .object "BeanContexts$Journal"
  | 3 => .object "java/util/ArrayList"
  | _ => .object "java/util/ArrayList"
abbrev jdv_5 : List Value := [.int 0, .null, .null, .null, .null]
def jT_6 : u_T := fun k => match k with
  | 0 => ("BeanContexts$Definition", "type", "I", true)
  | 1 => ("BeanContexts$Definition", "flags", "I", true)
  | 2 => ("BeanContexts$Definition", "qualifier", "I", true)
  | 3 => ("BeanContexts$Definition", "profile", "I", true)
  | _ => ("BeanContexts$Definition", "needs", "Ljava/util/ArrayList;", true)
def jy_6 : Nat → FieldType := fun k => match k with
  | 0 => .int
  | 1 => .int
  | 2 => .int
  | 3 => .int
  | _ => .object "java/util/ArrayList"
abbrev jdv_6 : List Value := [.int 0, .int 0, .int 0, .int 0, .null]
def jT_7 : u_T := fun k => match k with
  | 0 => ("BeanContexts$Need", "type", "I", true)
  | 1 => ("BeanContexts$Need", "qualifier", "I", true)
  | _ => ("BeanContexts$Need", "name", "I", true)
def jy_7 : Nat → FieldType := fun k => match k with
  | 0 => .int
  | 1 => .int
  | _ => .int
abbrev jdv_7 : List Value := [.int 0, .int 0, .int 0]
def jT_8 : u_T := fun k => match k with
  | 0 => ("BeanContexts$Key", "number", "I", true)
  | 1 => ("BeanContexts$Key", "inside", "I", true)
  | 2 => ("BeanContexts$Key", "mocked", "I", true)
  | 3 => ("BeanContexts$Key", "single", "I", true)
  | 4 => ("BeanContexts$Key", "eager", "I", true)
  | 5 => ("BeanContexts$Key", "parent", "LBeanContexts$Key;", true)
  | _ => ("BeanContexts$Key", "failedBuilds", "I", false)
def jy_8 : Nat → FieldType := fun k => match k with
  | 0 => .int
  | 1 => .int
  | 2 => .int
  | 3 => .int
  | 4 => .int
  | 5 => .object "BeanContexts$Key"
  | _ => .int
abbrev jdv_8 : List Value := [.int 0, .int 0, .int 0, .int 0, .int 0, .null, .int 0]
def jT_9 : u_T := fun k => match k with
  | 0 => ("BeanContexts$Context", "number", "I", true)
  | 1 => ("BeanContexts$Context", "key", "LBeanContexts$Key;", true)
  | 2 => ("BeanContexts$Context", "parent", "LBeanContexts$Context;", true)
  | 3 => ("BeanContexts$Context", "singles", "[I", true)
  | 4 => ("BeanContexts$Context", "open", "I", false)
  | 5 => ("BeanContexts$Context", "cached", "Z", false)
  | _ => ("BeanContexts$Context", "gone", "Z", false)
def jy_9 : Nat → FieldType := fun k => match k with
  | 0 => .int
  | 1 => .object "BeanContexts$Key"
  | 2 => .object "BeanContexts$Context"
  | 3 => .array .int
  | 4 => .int
  | 5 => .boolean
  | _ => .boolean
abbrev jdv_9 : List Value := [.int 0, .null, .null, .null, .int 0, .int 0, .int 0]
def jT_10 : u_T := fun k => match k with
  | 0 => ("BeanContexts$Bean", "definition", "I", true)
  | 1 => ("BeanContexts$Bean", "home", "LBeanContexts$Context;", true)
  | 2 => ("BeanContexts$Bean", "isMock", "Z", true)
  | 3 => ("BeanContexts$Bean", "wires", "[I", true)
  | 4 => ("BeanContexts$Bean", "answer", "I", false)
  | 5 => ("BeanContexts$Bean", "count", "I", false)
  | _ => ("BeanContexts$Bean", "last", "I", false)
def jy_10 : Nat → FieldType := fun k => match k with
  | 0 => .int
  | 1 => .object "BeanContexts$Context"
  | 2 => .boolean
  | 3 => .array .int
  | 4 => .int
  | 5 => .int
  | _ => .int
abbrev jdv_10 : List Value := [.int 0, .null, .int 0, .null, .int 0, .int 0, .int 0]
def jT_11 : u_T := fun k => match k with
  | 0 => ("BeanContextsModel", "capacity", "I", true)
  | 1 => ("BeanContextsModel", "extended", "[Z", true)
  | 2 => ("BeanContextsModel", "definitions", "I", false)
  | 3 => ("BeanContextsModel", "typeOf", "[I", true)
  | 4 => ("BeanContextsModel", "flagsOf", "[I", true)
  | 5 => ("BeanContextsModel", "qualifierOf", "[I", true)
  | 6 => ("BeanContextsModel", "profileOf", "[I", true)
  | 7 => ("BeanContextsModel", "needs", "[I", true)
  | 8 => ("BeanContextsModel", "needType", "[I", true)
  | 9 => ("BeanContextsModel", "needQualifier", "[I", true)
  | 10 => ("BeanContextsModel", "needName", "[I", true)
  | 11 => ("BeanContextsModel", "configurations", "I", false)
  | 12 => ("BeanContextsModel", "inside", "[I", true)
  | 13 => ("BeanContextsModel", "mocked", "[I", true)
  | 14 => ("BeanContextsModel", "parentOf", "[I", true)
  | 15 => ("BeanContextsModel", "failed", "[I", true)
  | 16 => ("BeanContextsModel", "builds", "I", false)
  | 17 => ("BeanContextsModel", "keyOf", "[I", true)
  | 18 => ("BeanContextsModel", "above", "[I", true)
  | 19 => ("BeanContextsModel", "kept", "[Z", true)
  | 20 => ("BeanContextsModel", "used", "[I", true)
  | 21 => ("BeanContextsModel", "clock", "I", false)
  | 22 => ("BeanContextsModel", "shut", "Z", false)
  | 23 => ("BeanContextsModel", "beans", "I", false)
  | 24 => ("BeanContextsModel", "home", "[I", true)
  | 25 => ("BeanContextsModel", "kind", "[I", true)
  | 26 => ("BeanContextsModel", "mock", "[Z", true)
  | 27 => ("BeanContextsModel", "gone", "[Z", true)
  | 28 => ("BeanContextsModel", "given", "[I", true)
  | 29 => ("BeanContextsModel", "answer", "[I", true)
  | 30 => ("BeanContextsModel", "calls", "[I", true)
  | 31 => ("BeanContextsModel", "last", "[I", true)
  | 32 => ("BeanContextsModel", "depth", "I", false)
  | 33 => ("BeanContextsModel", "madeIn", "[I", true)
  | 34 => ("BeanContextsModel", "madeOf", "[I", true)
  | 35 => ("BeanContextsModel", "filled", "[I", true)
  | 36 => ("BeanContextsModel", "parts", "[I", true)
  | 37 => ("BeanContextsModel", "foundIn", "I", false)
  | 38 => ("BeanContextsModel", "events", "I", false)
  | _ => ("BeanContextsModel", "log", "[I", true)
def jy_11 : Nat → FieldType := fun k => match k with
  | 0 => .int
  | 1 => .array .boolean
  | 2 => .int
  | 3 => .array .int
  | 4 => .array .int
  | 5 => .array .int
  | 6 => .array .int
  | 7 => .array .int
  | 8 => .array .int
  | 9 => .array .int
  | 10 => .array .int
  | 11 => .int
  | 12 => .array .int
  | 13 => .array .int
  | 14 => .array .int
  | 15 => .array .int
  | 16 => .int
  | 17 => .array .int
  | 18 => .array .int
  | 19 => .array .boolean
  | 20 => .array .int
  | 21 => .int
  | 22 => .boolean
  | 23 => .int
  | 24 => .array .int
  | 25 => .array .int
  | 26 => .array .boolean
  | 27 => .array .boolean
  | 28 => .array .int
  | 29 => .array .int
  | 30 => .array .int
  | 31 => .array .int
  | 32 => .int
  | 33 => .array .int
  | 34 => .array .int
  | 35 => .array .int
  | 36 => .array .int
  | 37 => .int
  | 38 => .int
  | _ => .array .int
abbrev jdv_11 : List Value := [.int 0, .null, .int 0, .null, .null, .null, .null, .null, .null, .null, .null, .int 0, .null, .null, .null, .null, .int 0, .null, .null, .null, .null, .int 0, .int 0, .int 0, .null, .null, .null, .null, .null, .null, .null, .null, .int 0, .null, .null, .null, .null, .int 0, .int 0, .null]
abbrev qC : List vw_C := [("BeanContexts", jT_0, 6), ("BeanContexts$Catalog", jT_1, 2), ("java/util/ArrayList", jT_2, 3), ("BeanContexts$Journal", jT_3, 2), ("BeanContexts$Workshop", jT_4, 3), ("BeanContexts$Shelf", jT_5, 5), ("BeanContexts$Definition", jT_6, 5), ("BeanContexts$Need", jT_7, 3), ("BeanContexts$Key", jT_8, 7), ("BeanContexts$Context", jT_9, 7), ("BeanContexts$Bean", jT_10, 7), ("BeanContextsModel", jT_11, 40)]
def q_MT : List q_M := [jq_Bc_init, jq_Ca_init, jq_AL_init, jq_AbL_init, jq_AbC_init, jq_Jo_init, jq_Sh_init, jq_Wo_init, jq_Bc_cached, jq_Sh_numberAt, jq_Bc_isBelow, jq_AL_get, jq_AL_elementData, jq_Obs_checkIndex, jq_Pre_checkIndex, jq_AL_size, jq_Bc_call, jq_Wo_answerOf, jq_Be_note, jq_Wo_liveBean, jq_Bc_configure, jq_Bc_isConfiguration, jq_Bc_isProfile, jq_Bc_sharedKey, jq_Ca_flagged, jq_Ke_init, jq_Ca_ofProfile, jq_Ke_canBeParent, jq_AL_add, jq_AL_add3, jq_AL_grow, jq_AL_growTo, jq_Arr_copyOf, jq_Arr_copyOfC, jq_ArS_newLength, jq_ArS_hugeLength, jq_Bc_define, jq_Bc_isQualifier, jq_Bc_isType, jq_Ca_add, jq_Ca_size, jq_De_init, jq_AL_isEmpty, jq_Bc_definition, jq_Bc_dirty, jq_Bc_contextOf, jq_Sh_cachedFor, jq_Sh_close, jq_Jo_write, jq_Sh_removeFromOrder, jq_AL_remove, jq_AL_fastRemove, jq_Wo_destroyBeans, jq_Bc_contains, jq_Bc_event, jq_Jo_before, jq_Bc_events, jq_Jo_size, jq_Bc_extend, jq_Ca_addKind, jq_Ca_isKind, jq_Bc_failures, jq_Bc_get, jq_Bc_isName, jq_Ne_init, jq_Rec_init, jq_Wo_supplyNeed, jq_Ca_candidates, jq_Ne_qualifier, jq_Ne_type, jq_Ca_choose, jq_Int_bitCount, jq_Int_numberOfTrailingZeros, jq_Ne_name, jq_Wo_supply, jq_Be_init, jq_Wo_assemble, jq_Ca_at, jq_Wo_keep, jq_Bc_key, jq_Bc_need, jq_De_addNeed, jq_Bc_recorded, jq_Wo_liveMock, jq_Bc_request, jq_Sh_obtain, jq_Sh_build, jq_Co_init, jq_Arr_fill, jq_Sh_putUp, jq_Sh_displaceFor, jq_Co_hasAncestor, jq_Sh_use, jq_AL_addAt, jq_AL_rangeCheckForAdd, jq_Sh_takeBack, jq_Bc_reset, jq_Wo_clearMocks, jq_Be_clear, jq_Bc_shutdown, jq_Sh_closeAll, jq_Bc_stub, jq_Bc_wired, jq_La_cell, jq_Mo_init, jq_Mo_cached, jq_Mo_call, jq_Mo_live, jq_Mo_in, jq_Mo_configure, jq_Mo_isConfiguration, jq_Mo_define, jq_Mo_definition, jq_Mo_dirty, jq_Mo_cachedFor, jq_Mo_contextOf, jq_Mo_key, jq_Mo_equal, jq_Mo_close, jq_Mo_child, jq_Mo_closeOne, jq_Mo_destroy, jq_Mo_many, jq_Mo_isMocked, jq_Mo_note, jq_Mo_event, jq_Mo_events, jq_Mo_extend, jq_Mo_is, jq_Mo_failures, jq_Mo_get, jq_Mo_asked, jq_Mo_find, jq_Mo_isIn, jq_Mo_supply, jq_Mo_make, jq_Mo_start, jq_Mo_beanOf, jq_Mo_need, jq_Mo_recorded, jq_Mo_request, jq_Mo_obtain, jq_Mo_build, jq_Mo_displace, jq_Mo_isAbove, jq_Mo_keptNow, jq_Mo_use, jq_Mo_stamp, jq_Mo_parentKey, jq_Mo_reset, jq_Mo_shutdown, jq_Mo_stub, jq_Mo_wired]
def q_FL : List q_F := [("BeanContexts", 10, 0, 0, "BeanContexts", none, (.object "BeanContexts$Catalog"), true), ("BeanContexts", 19, 0, 1, "BeanContexts", none, (.object "java/util/ArrayList"), true), ("BeanContexts", 26, 0, 2, "BeanContexts", none, (.object "BeanContexts$Journal"), true), ("BeanContexts", 35, 0, 3, "BeanContexts", none, (.object "BeanContexts$Workshop"), true), ("BeanContexts", 53, 0, 4, "BeanContexts", none, (.object "BeanContexts$Shelf"), true), ("BeanContexts$Catalog", 9, 1, 0, "BeanContexts$Catalog", none, (.array .int), true), ("BeanContexts$Catalog", 18, 1, 1, "BeanContexts$Catalog", none, (.object "java/util/ArrayList"), true), ("java/util/ArrayList", 9, 2, 1, "java/util/ArrayList", none, (.array (.object "java/lang/Object")), false), ("java/util/AbstractList", 7, 2, 0, "java/util/AbstractList", none, .int, false), ("BeanContexts$Journal", 9, 3, 0, "BeanContexts$Journal", none, (.array .int), true), ("BeanContexts$Shelf", 12, 5, 3, "BeanContexts$Shelf", none, (.object "java/util/ArrayList"), true), ("BeanContexts$Shelf", 18, 5, 4, "BeanContexts$Shelf", none, (.object "java/util/ArrayList"), true), ("BeanContexts$Shelf", 21, 5, 0, "BeanContexts$Shelf", none, .int, true), ("BeanContexts$Shelf", 25, 5, 1, "BeanContexts$Shelf", none, (.object "BeanContexts$Workshop"), true), ("BeanContexts$Shelf", 29, 5, 2, "BeanContexts$Shelf", none, (.object "BeanContexts$Journal"), true), ("BeanContexts$Workshop", 12, 4, 2, "BeanContexts$Workshop", none, (.object "java/util/ArrayList"), true), ("BeanContexts$Workshop", 18, 4, 0, "BeanContexts$Workshop", none, (.object "BeanContexts$Catalog"), true), ("BeanContexts$Workshop", 22, 4, 1, "BeanContexts$Workshop", none, (.object "BeanContexts$Journal"), true), ("BeanContexts$Shelf", 51, 9, 0, "BeanContexts$Context", some "BeanContexts", .int, true), ("java/util/ArrayList", 48, 2, 2, "java/util/ArrayList", none, .int, false), ("BeanContexts$Workshop", 141, 10, 2, "BeanContexts$Bean", some "BeanContexts", .boolean, true), ("BeanContexts$Workshop", 121, 10, 0, "BeanContexts$Bean", some "BeanContexts", .int, true), ("BeanContexts$Workshop", 144, 10, 3, "BeanContexts$Bean", some "BeanContexts", (.array .int), true), ("BeanContexts$Bean", 25, 10, 5, "BeanContexts$Bean", none, .int, false), ("BeanContexts$Bean", 28, 10, 6, "BeanContexts$Bean", none, .int, false), ("BeanContexts$Bean", 31, 10, 4, "BeanContexts$Bean", none, .int, false), ("BeanContexts$Workshop", 118, 10, 1, "BeanContexts$Bean", some "BeanContexts", (.object "BeanContexts$Context"), true), ("BeanContexts$Workshop", 130, 9, 6, "BeanContexts$Context", some "BeanContexts", .boolean, false), ("BeanContexts", 210, 8, 1, "BeanContexts$Key", some "BeanContexts", .int, true), ("BeanContexts", 213, 8, 2, "BeanContexts$Key", some "BeanContexts", .int, true), ("BeanContexts", 216, 8, 5, "BeanContexts$Key", some "BeanContexts", (.object "BeanContexts$Key"), true), ("BeanContexts$Catalog", 47, 6, 1, "BeanContexts$Definition", some "BeanContexts", .int, true), ("BeanContexts$Key", 7, 8, 0, "BeanContexts$Key", none, .int, true), ("BeanContexts$Key", 13, 8, 1, "BeanContexts$Key", none, .int, true), ("BeanContexts$Key", 16, 8, 2, "BeanContexts$Key", none, .int, true), ("BeanContexts$Key", 19, 8, 3, "BeanContexts$Key", none, .int, true), ("BeanContexts$Key", 22, 8, 4, "BeanContexts$Key", none, .int, true), ("BeanContexts$Key", 25, 8, 5, "BeanContexts$Key", none, (.object "BeanContexts$Key"), true), ("BeanContexts$Catalog", 43, 6, 3, "BeanContexts$Definition", some "BeanContexts", .int, true), ("java/util/ArrayList", 63, 2, 0, "java/util/ArrayList", none, .int, false), ("BeanContexts$Definition", 12, 6, 4, "BeanContexts$Definition", none, (.object "java/util/ArrayList"), true), ("BeanContexts$Definition", 18, 6, 0, "BeanContexts$Definition", none, .int, true), ("BeanContexts$Definition", 22, 6, 1, "BeanContexts$Definition", none, .int, true), ("BeanContexts$Definition", 25, 6, 2, "BeanContexts$Definition", none, .int, true), ("BeanContexts$Definition", 28, 6, 3, "BeanContexts$Definition", none, .int, true), ("BeanContexts", 193, 10, 0, "BeanContexts$Bean", some "BeanContexts", .int, true), ("BeanContexts$Shelf", 43, 9, 1, "BeanContexts$Context", some "BeanContexts", (.object "BeanContexts$Key"), true), ("BeanContexts$Shelf", 106, 9, 5, "BeanContexts$Context", some "BeanContexts", .boolean, false), ("BeanContexts$Shelf", 133, 9, 2, "BeanContexts$Context", some "BeanContexts", (.object "BeanContexts$Context"), true), ("BeanContexts$Journal", 15, 3, 1, "BeanContexts$Journal", none, .int, false), ("BeanContexts$Workshop", 26, 9, 1, "BeanContexts$Context", some "BeanContexts", (.object "BeanContexts$Key"), true), ("BeanContexts$Workshop", 62, 8, 3, "BeanContexts$Key", some "BeanContexts", .int, true), ("BeanContexts", 199, 8, 6, "BeanContexts$Key", some "BeanContexts", .int, false), ("BeanContexts$Need", 7, 7, 0, "BeanContexts$Need", none, .int, true), ("BeanContexts$Need", 13, 7, 1, "BeanContexts$Need", none, .int, true), ("BeanContexts$Need", 16, 7, 2, "BeanContexts$Need", none, .int, true), ("BeanContexts$Workshop", 32, 8, 1, "BeanContexts$Key", some "BeanContexts", .int, true), ("BeanContexts$Workshop", 58, 9, 2, "BeanContexts$Context", some "BeanContexts", (.object "BeanContexts$Context"), true), ("BeanContexts$Catalog", 50, 6, 0, "BeanContexts$Definition", some "BeanContexts", .int, true), ("BeanContexts$Catalog", 60, 6, 2, "BeanContexts$Definition", some "BeanContexts", .int, true), ("BeanContexts$Workshop", 73, 8, 2, "BeanContexts$Key", some "BeanContexts", .int, true), ("BeanContexts$Workshop", 85, 9, 4, "BeanContexts$Context", some "BeanContexts", .int, false), ("BeanContexts$Workshop", 69, 9, 3, "BeanContexts$Context", some "BeanContexts", (.array .int), true), ("BeanContexts$Bean", 7, 10, 0, "BeanContexts$Bean", none, .int, true), ("BeanContexts$Bean", 13, 10, 1, "BeanContexts$Bean", none, (.object "BeanContexts$Context"), true), ("BeanContexts$Bean", 17, 10, 2, "BeanContexts$Bean", none, .boolean, true), ("BeanContexts$Bean", 21, 10, 3, "BeanContexts$Bean", none, (.array .int), true), ("BeanContexts$Workshop", 95, 6, 4, "BeanContexts$Definition", some "BeanContexts", (.object "java/util/ArrayList"), true), ("BeanContexts$Workshop", 111, 6, 1, "BeanContexts$Definition", some "BeanContexts", .int, true), ("BeanContexts", 135, 8, 0, "BeanContexts$Key", some "BeanContexts", .int, true), ("BeanContexts", 183, 10, 6, "BeanContexts$Bean", some "BeanContexts", .int, false), ("BeanContexts", 180, 10, 5, "BeanContexts$Bean", some "BeanContexts", .int, false), ("BeanContexts", 139, 0, 5, "BeanContexts", none, .boolean, false), ("BeanContexts$Shelf", 62, 8, 6, "BeanContexts$Key", some "BeanContexts", .int, false), ("BeanContexts$Shelf", 67, 8, 5, "BeanContexts$Key", some "BeanContexts", (.object "BeanContexts$Key"), true), ("BeanContexts$Shelf", 85, 8, 4, "BeanContexts$Key", some "BeanContexts", .int, true), ("BeanContexts$Context", 9, 9, 3, "BeanContexts$Context", none, (.array .int), true), ("BeanContexts$Context", 15, 9, 0, "BeanContexts$Context", none, .int, true), ("BeanContexts$Context", 19, 9, 1, "BeanContexts$Context", none, (.object "BeanContexts$Key"), true), ("BeanContexts$Context", 23, 9, 2, "BeanContexts$Context", none, (.object "BeanContexts$Context"), true), ("BeanContexts", 175, 10, 4, "BeanContexts$Bean", some "BeanContexts", .int, false), ("BeanContexts", 189, 10, 3, "BeanContexts$Bean", some "BeanContexts", (.array .int), true), ("BeanContextsModel", 7, 11, 1, "BeanContextsModel", none, (.array .boolean), true), ("BeanContextsModel", 13, 11, 3, "BeanContextsModel", none, (.array .int), true), ("BeanContextsModel", 17, 11, 4, "BeanContextsModel", none, (.array .int), true), ("BeanContextsModel", 20, 11, 5, "BeanContextsModel", none, (.array .int), true), ("BeanContextsModel", 23, 11, 6, "BeanContextsModel", none, (.array .int), true), ("BeanContextsModel", 26, 11, 7, "BeanContextsModel", none, (.array .int), true), ("BeanContextsModel", 29, 11, 8, "BeanContextsModel", none, (.array .int), true), ("BeanContextsModel", 32, 11, 9, "BeanContextsModel", none, (.array .int), true), ("BeanContextsModel", 35, 11, 10, "BeanContextsModel", none, (.array .int), true), ("BeanContextsModel", 38, 11, 12, "BeanContextsModel", none, (.array .int), true), ("BeanContextsModel", 41, 11, 13, "BeanContextsModel", none, (.array .int), true), ("BeanContextsModel", 44, 11, 14, "BeanContextsModel", none, (.array .int), true), ("BeanContextsModel", 47, 11, 15, "BeanContextsModel", none, (.array .int), true), ("BeanContextsModel", 50, 11, 17, "BeanContextsModel", none, (.array .int), true), ("BeanContextsModel", 53, 11, 18, "BeanContextsModel", none, (.array .int), true), ("BeanContextsModel", 56, 11, 19, "BeanContextsModel", none, (.array .boolean), true), ("BeanContextsModel", 59, 11, 20, "BeanContextsModel", none, (.array .int), true), ("BeanContextsModel", 62, 11, 24, "BeanContextsModel", none, (.array .int), true), ("BeanContextsModel", 65, 11, 25, "BeanContextsModel", none, (.array .int), true), ("BeanContextsModel", 68, 11, 26, "BeanContextsModel", none, (.array .boolean), true), ("BeanContextsModel", 71, 11, 27, "BeanContextsModel", none, (.array .boolean), true), ("BeanContextsModel", 74, 11, 28, "BeanContextsModel", none, (.array .int), true), ("BeanContextsModel", 77, 11, 29, "BeanContextsModel", none, (.array .int), true), ("BeanContextsModel", 80, 11, 30, "BeanContextsModel", none, (.array .int), true), ("BeanContextsModel", 83, 11, 31, "BeanContextsModel", none, (.array .int), true), ("BeanContextsModel", 86, 11, 33, "BeanContextsModel", none, (.array .int), true), ("BeanContextsModel", 89, 11, 34, "BeanContextsModel", none, (.array .int), true), ("BeanContextsModel", 92, 11, 35, "BeanContextsModel", none, (.array .int), true), ("BeanContextsModel", 95, 11, 36, "BeanContextsModel", none, (.array .int), true), ("BeanContextsModel", 98, 11, 39, "BeanContextsModel", none, (.array .int), true), ("BeanContextsModel", 101, 11, 0, "BeanContextsModel", none, .int, true), ("BeanContextsModel", 169, 11, 16, "BeanContextsModel", none, .int, false), ("BeanContextsModel", 135, 11, 23, "BeanContextsModel", none, .int, false), ("BeanContextsModel", 116, 11, 11, "BeanContextsModel", none, .int, false), ("BeanContextsModel", 119, 11, 2, "BeanContextsModel", none, .int, false), ("BeanContextsModel", 105, 11, 38, "BeanContextsModel", none, .int, false), ("BeanContextsModel", 141, 11, 37, "BeanContextsModel", none, .int, false), ("BeanContextsModel", 159, 11, 32, "BeanContextsModel", none, .int, false), ("BeanContextsModel", 220, 11, 22, "BeanContextsModel", none, .boolean, false), ("BeanContextsModel", 180, 11, 21, "BeanContextsModel", none, .int, false)]
def q_SL : List (String × Nat) := [("java/util/ArrayList", 39)]
def q_NL : List q_N := [("BeanContextsLaw", 7, 0, jdv_0), ("BeanContextsLaw", 18, 11, jdv_11), ("BeanContexts", 7, 1, jdv_1), ("BeanContexts", 16, 2, jdv_2), ("BeanContexts", 23, 3, jdv_3), ("BeanContexts", 30, 4, jdv_4), ("BeanContexts", 39, 5, jdv_5), ("BeanContexts$Catalog", 15, 2, jdv_2), ("BeanContexts$Shelf", 9, 2, jdv_2), ("BeanContexts$Workshop", 9, 2, jdv_2), ("BeanContexts", 119, 8, jdv_8), ("BeanContexts", 86, 6, jdv_6), ("BeanContexts$Definition", 9, 2, jdv_2), ("BeanContexts", 102, 7, jdv_7), ("BeanContexts$Workshop", 76, 10, jdv_10), ("BeanContexts$Shelf", 41, 9, jdv_9)]
def q_KL : List (String × Nat × String) := [("BeanContexts$Shelf", 41, "BeanContexts$Context"), ("BeanContexts$Workshop", 76, "BeanContexts$Bean"), ("BeanContexts", 119, "BeanContexts$Key"), ("BeanContexts$Catalog", 37, "BeanContexts$Definition"), ("BeanContexts$Workshop", 45, "BeanContexts$Need")]
def q_DL : List (String × Nat × Int64) := [("BeanContexts", 166, 4294967296), ("BeanContextsModel", 233, 4294967296)]
def q_IL : List (String × Nat × Int32) := [("jdk/internal/util/ArraysSupport", 200, 2147483639)]
def q_ML : List (String × Nat) := [("java/util/Arrays", 110)]
def q_OL : List (String × Nat) := [("BeanContexts", 1), ("BeanContexts$Catalog", 3), ("java/util/AbstractCollection", 1), ("BeanContexts$Journal", 3), ("BeanContexts$Shelf", 3), ("BeanContexts$Workshop", 3), ("BeanContexts$Key", 1), ("BeanContexts$Definition", 3), ("java/lang/Record", 1), ("BeanContexts$Bean", 1), ("BeanContexts$Context", 3), ("BeanContextsModel", 1)]
def q_GL : List (String × Nat) := [("java/util/Arrays", 86)]
def q_YL : List (String × Nat) := [("java/util/Arrays", 150), ("java/util/ArrayList", 112)]
def q_QL : List (String × Nat) := [("java/util/ArrayList", 7), ("java/util/Arrays", 2)]
def q_XL : List (String × Nat) := [("BeanContexts", 47), ("java/util/ArrayList", 79), ("jdk/internal/util/ArraysSupport", 194)]
def q_VL : List (String × Nat) := [("BeanContexts", 41), ("java/util/Arrays", 304)]
def q_CS : List q_L := [("BeanContextsLaw", 9, jq_La_cell, none), ("BeanContexts$Shelf", 47, jq_Bc_isBelow, some "BeanContexts"), ("java/util/ArrayList", 118, jq_Obs_checkIndex, none), ("java/util/Objects", 105, jq_Pre_checkIndex, none), ("BeanContexts$Workshop", 134, jq_Bc_isBelow, some "BeanContexts"), ("BeanContexts", 83, jq_Bc_isProfile, none), ("BeanContexts", 77, jq_Bc_isBelow, none), ("java/util/ArrayList", 73, jq_ArS_newLength, none), ("java/util/ArrayList", 66, jq_Arr_copyOf, none), ("java/util/Arrays", 300, jq_Arr_copyOfC, none), ("jdk/internal/util/ArraysSupport", 201, jq_ArS_hugeLength, none), ("BeanContexts", 61, jq_Bc_isType, none), ("BeanContexts", 80, jq_Bc_isQualifier, none), ("BeanContexts$Workshop", 65, jq_Bc_contains, some "BeanContexts"), ("BeanContexts$Journal", 19, jq_Bc_isBelow, some "BeanContexts"), ("BeanContexts$Catalog", 22, jq_Bc_contains, some "BeanContexts"), ("BeanContexts", 95, jq_Bc_isName, none), ("BeanContexts$Catalog", 62, jq_Int_bitCount, none), ("BeanContexts$Catalog", 68, jq_Int_numberOfTrailingZeros, none), ("BeanContexts$Shelf", 88, jq_Bc_contains, some "BeanContexts"), ("BeanContexts$Context", 27, jq_Arr_fill, none), ("BeanContextsModel", 108, jq_Mo_in, none), ("BeanContextsModel", 122, jq_Mo_asked, none)]
def q_CV : List q_L := [("BeanContextsLaw", 21, jq_Bc_extend, none), ("BeanContextsLaw", 25, jq_Mo_extend, none), ("BeanContextsLaw", 26, jq_Bc_define, none), ("BeanContextsLaw", 30, jq_Mo_define, none), ("BeanContextsLaw", 31, jq_Bc_need, none), ("BeanContextsLaw", 35, jq_Mo_need, none), ("BeanContextsLaw", 36, jq_Bc_configure, none), ("BeanContextsLaw", 39, jq_Mo_configure, none), ("BeanContextsLaw", 40, jq_Bc_key, none), ("BeanContextsLaw", 44, jq_Mo_key, none), ("BeanContextsLaw", 45, jq_Bc_request, none), ("BeanContextsLaw", 48, jq_Mo_request, none), ("BeanContextsLaw", 49, jq_Bc_dirty, none), ("BeanContextsLaw", 52, jq_Mo_dirty, none), ("BeanContextsLaw", 53, jq_Bc_shutdown, none), ("BeanContextsLaw", 57, jq_Mo_shutdown, none), ("BeanContextsLaw", 58, jq_Bc_get, none), ("BeanContextsLaw", 61, jq_Mo_get, none), ("BeanContextsLaw", 62, jq_Bc_call, none), ("BeanContextsLaw", 66, jq_Mo_call, none), ("BeanContextsLaw", 67, jq_Bc_stub, none), ("BeanContextsLaw", 70, jq_Mo_stub, none), ("BeanContextsLaw", 71, jq_Bc_recorded, none), ("BeanContextsLaw", 74, jq_Mo_recorded, none), ("BeanContextsLaw", 75, jq_Bc_reset, none), ("BeanContextsLaw", 78, jq_Mo_reset, none), ("BeanContextsLaw", 79, jq_Bc_wired, none), ("BeanContextsLaw", 83, jq_Mo_wired, none), ("BeanContextsLaw", 84, jq_Bc_definition, none), ("BeanContextsLaw", 87, jq_Mo_definition, none), ("BeanContextsLaw", 88, jq_Bc_cached, none), ("BeanContextsLaw", 91, jq_Mo_cached, none), ("BeanContextsLaw", 92, jq_Bc_failures, none), ("BeanContextsLaw", 95, jq_Mo_failures, none), ("BeanContextsLaw", 96, jq_Bc_events, none), ("BeanContextsLaw", 99, jq_Mo_events, none), ("BeanContextsLaw", 100, jq_Bc_event, none), ("BeanContextsLaw", 103, jq_Mo_event, none), ("BeanContexts", 196, jq_Sh_numberAt, none), ("BeanContexts$Shelf", 33, jq_AL_size, none), ("BeanContexts$Shelf", 37, jq_AL_get, none), ("java/util/ArrayList", 123, jq_AL_elementData, none), ("BeanContexts", 162, jq_Wo_liveBean, none), ("BeanContexts", 168, jq_Wo_answerOf, none), ("BeanContexts$Workshop", 147, jq_Be_note, none), ("BeanContexts$Workshop", 103, jq_AL_get, none), ("BeanContexts$Workshop", 100, jq_AL_size, none), ("BeanContexts", 111, jq_AL_size, none), ("BeanContexts", 115, jq_AL_get, none), ("BeanContexts", 124, jq_Ca_ofProfile, none), ("BeanContexts", 128, jq_Bc_sharedKey, none), ("BeanContexts", 132, jq_AL_add, none), ("BeanContexts", 112, jq_Bc_isConfiguration, none), ("BeanContexts", 121, jq_Ke_canBeParent, none), ("BeanContexts", 220, jq_Ca_flagged, none), ("BeanContexts$Catalog", 29, jq_AL_size, none), ("BeanContexts$Catalog", 33, jq_AL_get, none), ("java/util/ArrayList", 131, jq_AL_add3, none), ("java/util/ArrayList", 129, jq_AL_grow, none), ("java/util/ArrayList", 69, jq_AL_growTo, none), ("BeanContexts", 57, jq_AL_isEmpty, none), ("BeanContexts", 73, jq_Ca_size, none), ("BeanContexts", 91, jq_Ca_add, none), ("BeanContexts$Catalog", 39, jq_AL_add, none), ("BeanContexts", 147, jq_Bc_contextOf, none), ("BeanContexts", 151, jq_Sh_close, none), ("BeanContexts", 206, jq_Sh_cachedFor, none), ("BeanContexts$Shelf", 116, jq_Wo_destroyBeans, none), ("BeanContexts$Shelf", 127, jq_Sh_removeFromOrder, none), ("BeanContexts$Shelf", 110, jq_Jo_write, none), ("BeanContexts$Shelf", 123, jq_Sh_close, none), ("BeanContexts$Shelf", 136, jq_AL_remove, none), ("java/util/ArrayList", 144, jq_AL_fastRemove, none), ("BeanContexts$Workshop", 124, jq_Jo_write, none), ("BeanContexts", 203, jq_Jo_before, none), ("BeanContexts", 202, jq_Jo_size, none), ("BeanContexts", 65, jq_Ca_isKind, none), ("BeanContexts", 69, jq_Ca_addKind, none), ("BeanContexts$Catalog", 26, jq_Ca_isKind, none), ("BeanContexts", 158, jq_Wo_supplyNeed, none), ("BeanContexts$Workshop", 38, jq_Ca_candidates, none), ("BeanContexts$Workshop", 44, jq_Ne_name, none), ("BeanContexts$Workshop", 50, jq_Ca_choose, none), ("BeanContexts$Workshop", 54, jq_Wo_supply, none), ("BeanContexts$Catalog", 53, jq_Ne_type, none), ("BeanContexts$Catalog", 57, jq_Ne_qualifier, none), ("BeanContexts$Catalog", 71, jq_Ca_flagged, none), ("BeanContexts$Workshop", 88, jq_Wo_assemble, none), ("BeanContexts$Workshop", 81, jq_Wo_keep, none), ("BeanContexts$Workshop", 91, jq_Ca_at, none), ("BeanContexts$Workshop", 107, jq_Wo_supplyNeed, none), ("BeanContexts$Workshop", 114, jq_AL_add, none), ("BeanContexts", 98, jq_Ca_at, none), ("BeanContexts", 107, jq_De_addNeed, none), ("BeanContexts$Definition", 31, jq_AL_size, none), ("BeanContexts$Definition", 35, jq_AL_add, none), ("BeanContexts", 172, jq_Wo_liveMock, none), ("BeanContexts$Workshop", 137, jq_Wo_liveBean, none), ("BeanContexts", 143, jq_Sh_obtain, none), ("BeanContexts$Shelf", 54, jq_Sh_cachedFor, none), ("BeanContexts$Shelf", 74, jq_Sh_obtain, none), ("BeanContexts$Shelf", 70, jq_Sh_build, none), ("BeanContexts$Shelf", 58, jq_Sh_use, none), ("BeanContexts$Shelf", 81, jq_AL_add, none), ("BeanContexts$Shelf", 100, jq_Sh_putUp, none), ("BeanContexts$Shelf", 91, jq_Wo_supply, none), ("BeanContexts$Shelf", 97, jq_Sh_takeBack, none), ("BeanContexts$Shelf", 103, jq_Sh_displaceFor, none), ("BeanContexts$Shelf", 119, jq_Co_hasAncestor, none), ("BeanContexts$Shelf", 130, jq_AL_addAt, none), ("java/util/ArrayList", 135, jq_AL_rangeCheckForAdd, none), ("BeanContexts", 186, jq_Wo_clearMocks, none), ("BeanContexts$Workshop", 155, jq_Be_clear, none), ("BeanContexts$Workshop", 151, jq_Co_hasAncestor, none), ("BeanContexts", 155, jq_Sh_closeAll, none), ("BeanContextsModel", 230, jq_Mo_live, none), ("BeanContextsModel", 125, jq_Mo_isConfiguration, none), ("BeanContextsModel", 227, jq_Mo_cachedFor, none), ("BeanContextsModel", 211, jq_Mo_close, none), ("BeanContextsModel", 172, jq_Mo_key, none), ("BeanContextsModel", 183, jq_Mo_contextOf, none), ("BeanContextsModel", 129, jq_Mo_equal, none), ("BeanContextsModel", 214, jq_Mo_child, none), ("BeanContextsModel", 217, jq_Mo_closeOne, none), ("BeanContextsModel", 198, jq_Mo_destroy, none), ("BeanContextsModel", 144, jq_Mo_note, none), ("BeanContextsModel", 148, jq_Mo_many, none), ("BeanContextsModel", 132, jq_Mo_isMocked, none), ("BeanContextsModel", 112, jq_Mo_is, none), ("BeanContextsModel", 165, jq_Mo_find, none), ("BeanContextsModel", 195, jq_Mo_supply, none), ("BeanContextsModel", 138, jq_Mo_isIn, none), ("BeanContextsModel", 162, jq_Mo_start, none), ("BeanContextsModel", 155, jq_Mo_make, none), ("BeanContextsModel", 151, jq_Mo_beanOf, none), ("BeanContextsModel", 224, jq_Mo_obtain, none), ("BeanContextsModel", 186, jq_Mo_parentKey, none), ("BeanContextsModel", 192, jq_Mo_build, none), ("BeanContextsModel", 189, jq_Mo_use, none), ("BeanContextsModel", 201, jq_Mo_keptNow, none), ("BeanContextsModel", 205, jq_Mo_displace, none), ("BeanContextsModel", 208, jq_Mo_isAbove, none), ("BeanContextsModel", 176, jq_Mo_stamp, none)]
def q_CI : List q_L := [("BeanContextsLaw", 15, jq_Bc_init, none), ("BeanContextsLaw", 20, jq_Mo_init, none), ("BeanContexts", 9, jq_Ca_init, none), ("BeanContexts", 18, jq_AL_init, none), ("BeanContexts", 25, jq_Jo_init, some "BeanContexts"), ("BeanContexts", 32, jq_Wo_init, none), ("BeanContexts", 50, jq_Sh_init, none), ("BeanContexts$Catalog", 17, jq_AL_init, none), ("java/util/ArrayList", 1, jq_AbL_init, none), ("java/util/AbstractList", 1, jq_AbC_init, none), ("BeanContexts$Shelf", 11, jq_AL_init, none), ("BeanContexts$Workshop", 11, jq_AL_init, none), ("BeanContexts", 223, jq_Ke_init, none), ("BeanContexts", 88, jq_De_init, none), ("BeanContexts$Definition", 11, jq_AL_init, none), ("BeanContexts", 104, jq_Ne_init, some "BeanContexts"), ("BeanContexts$Need", 1, jq_Rec_init, none), ("BeanContexts$Workshop", 78, jq_Be_init, none), ("BeanContexts$Shelf", 78, jq_Co_init, none)]
def q_AL : List Nat := [6, 7, 8, 9, 10]
end
section
/-- one instruction that leaves the state as it is -/
def q_smp (M : q_M) (pc : Nat) (ins : ClassFile.Instr) (len : Nat) (ls : List (Nat × Value)) (st : List Value) (x : q_S) (pc' : Nat) (ls' : List (Nat × Value)) (st' : List Value) : Prop :=
  match ins with
  | .iconst n => len = 1 ∧ pc' = pc + 1 ∧ ls' = ls ∧ st' = .int (Int32.ofInt n) :: st
  | .bipush n => len = 2 ∧ pc' = pc + 2 ∧ ls' = ls ∧ st' = .int (Int8.ofInt n).toInt32 :: st
  | .sipush n => len = 3 ∧ pc' = pc + 3 ∧ ls' = ls ∧ st' = .int (Int16.ofInt n).toInt32 :: st
  | .aconst_null => len = 1 ∧ pc' = pc + 1 ∧ ls' = ls ∧ st' = .null :: st
  | .iload_n k => len = 1 ∧ pc' = pc + 1 ∧ ls' = ls ∧ ∃ v : Int32, (k.val, Value.int v) ∈ ls ∧ st' = .int v :: st
  | .iload k => len = 2 ∧ pc' = pc + 2 ∧ ls' = ls ∧ ∃ v : Int32, (k, Value.int v) ∈ ls ∧ st' = .int v :: st
  | .aload_n k => len = 1 ∧ pc' = pc + 1 ∧ ls' = ls ∧ ∃ r : Option Nat, (k.val, va_rf r) ∈ ls ∧ st' = va_rf r :: st
  | .aload k => len = 2 ∧ pc' = pc + 2 ∧ ls' = ls ∧ ∃ r : Option Nat, (k, va_rf r) ∈ ls ∧ st' = va_rf r :: st
  | .istore_n k => len = 1 ∧ pc' = pc + 1 ∧ k.val < M.2.2.1 ∧ ∃ v : Int32, st = .int v :: st' ∧ ls' = q_st1 ls k.val (.int v)
  | .istore k => len = 2 ∧ pc' = pc + 2 ∧ k < M.2.2.1 ∧ ∃ v : Int32, st = .int v :: st' ∧ ls' = q_st1 ls k (.int v)
  | .astore_n k => len = 1 ∧ pc' = pc + 1 ∧ k.val < M.2.2.1 ∧ ∃ r : Option Nat, st = va_rf r :: st' ∧ ls' = q_st1 ls k.val (va_rf r)
  | .astore k => len = 2 ∧ pc' = pc + 2 ∧ k < M.2.2.1 ∧ ∃ r : Option Nat, st = va_rf r :: st' ∧ ls' = q_st1 ls k (va_rf r)
  | .iinc i n => len = 3 ∧ pc' = pc + 3 ∧ i < M.2.2.1 ∧ st' = st ∧ ∃ v : Int32, (i, Value.int v) ∈ ls ∧ ls' = q_st1 ls i (.int (v + Int32.ofInt n))
  | .iadd => len = 1 ∧ pc' = pc + 1 ∧ ls' = ls ∧ ∃ (a b : Int32) (rest : List Value), st = .int b :: .int a :: rest ∧ st' = .int (a + b) :: rest
  | .isub => len = 1 ∧ pc' = pc + 1 ∧ ls' = ls ∧ ∃ (a b : Int32) (rest : List Value), st = .int b :: .int a :: rest ∧ st' = .int (a - b) :: rest
  | .imul => len = 1 ∧ pc' = pc + 1 ∧ ls' = ls ∧ ∃ (a b : Int32) (rest : List Value), st = .int b :: .int a :: rest ∧ st' = .int (a * b) :: rest
  | .iand => len = 1 ∧ pc' = pc + 1 ∧ ls' = ls ∧ ∃ (a b : Int32) (rest : List Value), st = .int b :: .int a :: rest ∧ st' = .int (a &&& b) :: rest
  | .ior => len = 1 ∧ pc' = pc + 1 ∧ ls' = ls ∧ ∃ (a b : Int32) (rest : List Value), st = .int b :: .int a :: rest ∧ st' = .int (a ||| b) :: rest
  | .ixor => len = 1 ∧ pc' = pc + 1 ∧ ls' = ls ∧ ∃ (a b : Int32) (rest : List Value), st = .int b :: .int a :: rest ∧ st' = .int (a ^^^ b) :: rest
  | .irem => len = 1 ∧ pc' = pc + 1 ∧ ls' = ls ∧ ∃ (a b : Int32) (rest : List Value), ¬ b = 0 ∧ st = .int b :: .int a :: rest ∧ st' = .int (a - a / b * b) :: rest
  | .ishl => len = 1 ∧ pc' = pc + 1 ∧ ls' = ls ∧ ∃ (a b : Int32) (rest : List Value), st = .int b :: .int a :: rest ∧ st' = .int (a <<< (b &&& 31)) :: rest
  | .ishr => len = 1 ∧ pc' = pc + 1 ∧ ls' = ls ∧ ∃ (a b : Int32) (rest : List Value), st = .int b :: .int a :: rest ∧ st' = .int (a >>> (b &&& 31)) :: rest
  | .iushr => len = 1 ∧ pc' = pc + 1 ∧ ls' = ls ∧ ∃ (a b : Int32) (rest : List Value), st = .int b :: .int a :: rest ∧ st' = .int ((a.toUInt32 >>> (b.toUInt32 &&& Int32.toUInt32 31)).toInt32) :: rest
  | .ineg => False
  | .i2l => len = 1 ∧ pc' = pc + 1 ∧ ls' = ls ∧ ∃ (a : Int32) (rest : List Value), st = .int a :: rest ∧ st' = .long a.toInt64 :: rest
  | .lcmp => len = 1 ∧ pc' = pc + 1 ∧ ls' = ls ∧ ∃ (a b : Int64) (rest : List Value), st = .long b :: .long a :: rest ∧ st' = .int (lg_cmp a b) :: rest
  | .dup => len = 1 ∧ pc' = pc + 1 ∧ ls' = ls ∧ ∃ (v : Value) (rest : List Value), v.category = 1 ∧ st = v :: rest ∧ st' = v :: v :: rest
  | .pop => len = 1 ∧ pc' = pc + 1 ∧ ls' = ls ∧ ∃ (v : Value), v.category = 1 ∧ st = v :: st'
  | .dup_x1 => len = 1 ∧ pc' = pc + 1 ∧ ls' = ls ∧ ∃ (v w : Value) (rest : List Value), v.category = 1 ∧ w.category = 1 ∧ st = v :: w :: rest ∧ st' = v :: w :: v :: rest
  | .dup2 => len = 1 ∧ pc' = pc + 1 ∧ ls' = ls ∧ ∃ (v w : Value) (rest : List Value), v.category = 1 ∧ w.category = 1 ∧ st = v :: w :: rest ∧ st' = v :: w :: v :: w :: rest
  | .ifCond c off => len = 3 ∧ ls' = ls ∧ ∃ (v : Int32) (tgt : Nat), st = .int v :: st' ∧ (pc : Int) + off = (tgt : Int) ∧ ((q_cnd c v 0 ∧ pc' = tgt) ∨ (¬ q_cnd c v 0 ∧ pc' = pc + 3))
  | .if_icmp c off => len = 3 ∧ ls' = ls ∧ ∃ (a b : Int32) (tgt : Nat), st = .int b :: .int a :: st' ∧ (pc : Int) + off = (tgt : Int) ∧ ((q_cnd c a b ∧ pc' = tgt) ∨ (¬ q_cnd c a b ∧ pc' = pc + 3))
  | .if_acmp c off => len = 3 ∧ ls' = ls ∧ ∃ (a b : Option Nat) (tgt : Nat), st = va_rf b :: va_rf a :: st' ∧ (pc : Int) + off = (tgt : Int) ∧ ((q_acn c a b ∧ pc' = tgt) ∨ (¬ q_acn c a b ∧ pc' = pc + 3))
  | .ifnull off => len = 3 ∧ ls' = ls ∧ ∃ (r : Option Nat) (tgt : Nat), st = va_rf r :: st' ∧ (pc : Int) + off = (tgt : Int) ∧ ((r = none ∧ pc' = tgt) ∨ (¬ r = none ∧ pc' = pc + 3))
  | .ifnonnull off => len = 3 ∧ ls' = ls ∧ ∃ (r : Option Nat) (tgt : Nat), st = va_rf r :: st' ∧ (pc : Int) + off = (tgt : Int) ∧ ((¬ r = none ∧ pc' = tgt) ∨ (r = none ∧ pc' = pc + 3))
  | .goto off => len = 3 ∧ ls' = ls ∧ st' = st ∧ ∃ tgt : Nat, (pc : Int) + off = (tgt : Int) ∧ pc' = tgt
  | .getfield idx => len = 3 ∧ pc' = pc + 3 ∧ ls' = ls ∧ ∃ (e : q_F) (a : Nat) (rest : List Value), e ∈ q_FL ∧ e.1 = M.1.cls ∧ e.2.1 = idx ∧ st = .ref a :: rest ∧ q_al x e.2.2.1 a = true ∧ st' = q_fd x e.2.2.1 e.2.2.2.1 a :: rest
  | .getstatic idx => len = 3 ∧ pc' = pc + 3 ∧ ls' = ls ∧ (M.1.cls, idx) ∈ q_SL ∧ st' = .ref (q_z0 x) :: st
  | .iaload => len = 1 ∧ pc' = pc + 1 ∧ ls' = ls ∧ ∃ (a : Nat) (i : Int32) (rest : List Value), st = .int i :: .ref a :: rest ∧ ((∃ (t n : Nat) (f : Nat → Int32), q_kd t = 0 ∧ q_ai x t a = some (n, f) ∧ vp_in i n ∧ st' = .int (f i.toNatClampNeg) :: rest) ∨ (a = q_sb x ∧ vp_in i (q_sL x) ∧ st' = .int (q_sx x i.toNatClampNeg) :: rest))
  | .baload => len = 1 ∧ pc' = pc + 1 ∧ ls' = ls ∧ ∃ (a : Nat) (i : Int32) (rest : List Value) (t n : Nat) (f : Nat → Int32), st = .int i :: .ref a :: rest ∧ q_kd t = 1 ∧ q_ai x t a = some (n, f) ∧ vp_in i n ∧ st' = .int (f i.toNatClampNeg) :: rest
  | .aaload => len = 1 ∧ pc' = pc + 1 ∧ ls' = ls ∧ ∃ (a : Nat) (i : Int32) (rest : List Value) (t n : Nat) (f : Nat → Option Nat), st = .int i :: .ref a :: rest ∧ q_ar x t a = some (n, f) ∧ vp_in i n ∧ st' = va_rf (f i.toNatClampNeg) :: rest
  | .arraylength => len = 1 ∧ pc' = pc + 1 ∧ ls' = ls ∧ ∃ (a : Nat) (rest : List Value), st = .ref a :: rest ∧ ((∃ (t n : Nat) (f : Nat → Int32), q_ai x t a = some (n, f) ∧ st' = .int (Int32.ofNat n) :: rest) ∨ (∃ (t n : Nat) (f : Nat → Option Nat), q_ar x t a = some (n, f) ∧ st' = .int (Int32.ofNat n) :: rest) ∨ (a = q_z0 x ∧ st' = .int (Int32.ofNat 0) :: rest) ∨ (a = q_sb x ∧ st' = .int (Int32.ofNat (q_sL x)) :: rest))
  | .checkcast idx => len = 3 ∧ pc' = pc + 3 ∧ ls' = ls ∧ st' = st ∧ ((∃ rest : List Value, st = .null :: rest) ∨ (∃ (a ci : Nat) (rest : List Value) (q : vw_C), st = .ref a :: rest ∧ q_al x ci a = true ∧ qC[ci]? = some q ∧ (M.1.cls, idx, q.1) ∈ q_KL) ∨ (∃ (a t n : Nat) (f : Nat → Option Nat) (rest : List Value), st = .ref a :: rest ∧ q_ar x t a = some (n, f) ∧ (M.1.cls, idx, "[Ljava/lang/Object;") ∈ q_KL))
  | .ldc2_w idx => len = 3 ∧ pc' = pc + 3 ∧ ls' = ls ∧ ∃ v : Int64, (M.1.cls, idx, v) ∈ q_DL ∧ st' = .long v :: st
  | .ldc idx => len = 2 ∧ pc' = pc + 2 ∧ ls' = ls ∧ (((M.1.cls, idx) ∈ q_ML ∧ st' = .ref (q_mo x) :: st) ∨ ∃ v : Int32, (M.1.cls, idx, v) ∈ q_IL ∧ st' = .int v :: st)
  | .tableswitch d lo hi offs => ls' = ls ∧ ∃ v : Int32, st = .int v :: st' ∧ (((v.toInt < lo ∨ hi < v.toInt) ∧ (pc : Int) + d = (pc' : Int)) ∨ (¬ v.toInt < lo ∧ ¬ hi < v.toInt ∧ ∃ off : Int, offs[(v.toInt - lo).toNat]? = some off ∧ (pc : Int) + off = (pc' : Int)))
  | .invokespecial idx => len = 3 ∧ pc' = pc + 3 ∧ ls' = ls ∧ (M.1.cls, idx) ∈ q_OL ∧ (st'.map fun v => v.category).sum ≤ 8 ∧ ∃ a : Nat, st = .ref a :: st'
  | .invokestatic idx => len = 3 ∧ pc' = pc + 3 ∧ ls' = ls ∧ ∃ (a b : Int32) (rest : List Value), (rest.map fun v => v.category).sum ≤ 8 ∧ st = .int b :: .int a :: rest ∧ (((M.1.cls, idx) ∈ q_XL ∧ st' = .int (if a < b then b else a) :: rest) ∨ ((M.1.cls, idx) ∈ q_VL ∧ st' = .int (if b < a then b else a) :: rest))
  | .invokevirtual idx => len = 3 ∧ pc' = pc + 3 ∧ ls' = ls ∧ (M.1.cls, idx) ∈ q_GL ∧ ∃ (a t n : Nat) (f : Nat → Option Nat) (rest : List Value), (rest.map fun v => v.category).sum ≤ 8 ∧ st = .ref a :: rest ∧ q_ar x t a = some (n, f) ∧ st' = .ref (q_mo x) :: rest
  | _ => False
/-- one instruction that changes the state -/
def q_hp (M : q_M) (pc : Nat) (ins : ClassFile.Instr) (len : Nat) (ls : List (Nat × Value)) (st : List Value) (x : q_S) (pc' : Nat) (ls' : List (Nat × Value)) (st' : List Value) (x' : q_S) : Prop :=
  match ins with
  | .putfield idx => len = 3 ∧ pc' = pc + 3 ∧ ls' = ls ∧ ∃ (e : q_F) (a : Nat) (v : Value), e ∈ q_FL ∧ e.1 = M.1.cls ∧ e.2.1 = idx ∧ st = v :: .ref a :: st' ∧ q_al x e.2.2.1 a = true ∧ narrow e.2.2.2.2.2.2.1 v = v ∧ fits e.2.2.2.2.2.2.1 v = true ∧ (e.2.2.2.2.2.2.2 = false ∨ (e.2.2.2.2.2.1 = none ∧ M.1.name = "<init>")) ∧ x' = q_putF x e.2.2.1 e.2.2.2.1 a v
  | .iastore => len = 1 ∧ pc' = pc + 1 ∧ ls' = ls ∧ ∃ (a t n : Nat) (i v : Int32) (f : Nat → Int32), st = .int v :: .int i :: .ref a :: st' ∧ q_kd t = 0 ∧ q_ai x t a = some (n, f) ∧ vp_in i n ∧ x' = q_putI x t a n (upd f i.toNatClampNeg v)
  | .bastore => len = 1 ∧ pc' = pc + 1 ∧ ls' = ls ∧ ∃ (a t n : Nat) (i v : Int32) (f : Nat → Int32), st = .int v :: .int i :: .ref a :: st' ∧ q_kd t = 1 ∧ q_ai x t a = some (n, f) ∧ vp_in i n ∧ x' = q_putI x t a n (upd f i.toNatClampNeg (v &&& 1))
  | .aastore => len = 1 ∧ pc' = pc + 1 ∧ ls' = ls ∧ ∃ (a t n : Nat) (i : Int32) (r : Option Nat) (f : Nat → Option Nat), st = va_rf r :: .int i :: .ref a :: st' ∧ q_ar x t a = some (n, f) ∧ vp_in i n ∧ (∀ v : Nat, r = some v → ∃ ci, q_al x ci v = true ∧ ci ∈ q_AL) ∧ x' = q_putR x t a n (va_up f i.toNatClampNeg r)
  | .new idx => len = 3 ∧ pc' = pc + 3 ∧ ls' = ls ∧ ∃ e : q_N, e ∈ q_NL ∧ e.1 = M.1.cls ∧ e.2.1 = idx ∧ st' = .ref (q_sz x) :: st ∧ x' = q_newO x e.2.2.1 e.2.2.2.length (vp_V e.2.2.2)
  | .newarray ty => len = 2 ∧ pc' = pc + 2 ∧ ls' = ls ∧ ∃ (v : Int32) (t : Nat) (rest : List Value), st = .int v :: rest ∧ ¬ v < 0 ∧ v.toNatClampNeg ≤ 100000 ∧ ((ty = .int ∧ q_kd t = 0) ∨ (ty = .boolean ∧ q_kd t = 1)) ∧ st' = .ref (q_sz x) :: rest ∧ x' = q_newI x t v.toNatClampNeg
  | .anewarray idx => len = 3 ∧ pc' = pc + 3 ∧ ls' = ls ∧ (M.1.cls, idx) ∈ q_QL ∧ ∃ (v : Int32) (t : Nat) (rest : List Value), st = .int v :: rest ∧ ¬ v < 0 ∧ v.toNatClampNeg ≤ 100000 ∧ st' = .ref (q_sz x) :: rest ∧ x' = q_newR x t v.toNatClampNeg
  | .invokestatic idx => len = 3 ∧ pc' = pc + 3 ∧ ls' = ls ∧ (M.1.cls, idx) ∈ q_YL ∧ (st'.map fun v => v.category).sum ≤ 8 ∧ ∃ (n dp sp : Int32) (a0 a1 t0 t1 n0 n1 : Nat) (f g : Nat → Option Nat), st = .int n :: .int dp :: .ref a1 :: .int sp :: .ref a0 :: st' ∧ q_ar x t0 a0 = some (n0, f) ∧ q_ar x t1 a1 = some (n1, g) ∧ ¬ sp < 0 ∧ ¬ dp < 0 ∧ ¬ n < 0 ∧ sp.toNatClampNeg + n.toNatClampNeg ≤ n0 ∧ dp.toNatClampNeg + n.toNatClampNeg ≤ n1 ∧ (∀ i : Nat, i < n.toNatClampNeg → ∀ y : Nat, f (sp.toNatClampNeg + i) = some y → ∃ ci, q_al x ci y = true ∧ ci ∈ q_AL) ∧ x' = q_putR x t1 a1 n1 (va_cpy f g sp.toNatClampNeg dp.toNatClampNeg n.toNatClampNeg)
  | _ => False
/-- a call: which method, with which arguments, what stays on the stack -/
def q_cl (M : q_M) (ins : ClassFile.Instr) (len : Nat) (st : List Value) (x : q_S) (M' : q_M) (av rest : List Value) : Prop :=
  match ins with
  | .invokestatic idx => len = 3 ∧ (rest.map fun v => v.category).sum ≤ 8 ∧ av.length = M'.2.2.2.2 ∧ st = av.reverse ++ rest ∧ ∃ h : Option String, (M.1.cls, idx, M', h) ∈ q_CS
  | .invokevirtual idx => len = 3 ∧ (rest.map fun v => v.category).sum ≤ 8 ∧ ∃ (b ci : Nat) (as : List Value) (h : Option String) (q : vw_C), av = .ref b :: as ∧ as.length = M'.2.2.2.2 ∧ st = as.reverse ++ .ref b :: rest ∧ (M.1.cls, idx, M', h) ∈ q_CV ∧ q_al x ci b = true ∧ qC[ci]? = some q ∧ q.1 = M'.1.cls
  | .invokespecial idx => len = 3 ∧ (rest.map fun v => v.category).sum ≤ 8 ∧ ∃ (b : Nat) (as : List Value) (h : Option String), av = .ref b :: as ∧ as.length = M'.2.2.2.2 ∧ st = as.reverse ++ .ref b :: rest ∧ (M.1.cls, idx, M', h) ∈ q_CI
  | _ => False
/-- a return -/
def q_rt (M : q_M) (ins : ClassFile.Instr) (len : Nat) (st : List Value) (r : Option Value) : Prop :=
  match ins with
  | .ireturn => len = 1 ∧ ∃ v : Int32, st = [.int v] ∧ r = some (.int v) ∧ (M.2.2.2.1 = some .int ∨ (M.2.2.2.1 = some .boolean ∧ v &&& 1 = v))
  | .lreturn => len = 1 ∧ ∃ v : Int64, st = [.long v] ∧ r = some (.long v) ∧ M.2.2.2.1 = some .long
  | .areturn => len = 1 ∧ ∃ (o : Option Nat) (ty : FieldType), st = [va_rf o] ∧ r = some (va_rf o) ∧ M.2.2.2.1 = some ty ∧ ((∃ n, ty = .object n) ∨ ∃ t, ty = .array t)
  | .return_ => len = 1 ∧ st = [] ∧ r = none ∧ M.2.2.2.1 = none
  | _ => False
/-- the body of a method, in n steps -/
def q_run (C : q_M → List Value → q_S → q_S → Option Value → Prop) (F : q_S → Option Value → Prop) (M : q_M) : Nat → Nat → List (Nat × Value) → List Value → q_S → Prop
  | 0, _, _, _, _ => False
  | n + 1, pc, ls, st, x => ∃ (ins : ClassFile.Instr) (len : Nat), decode M.2.1 pc = .ok (ins, len) ∧
      ((∃ pc' ls' st', q_smp M pc ins len ls st x pc' ls' st' ∧ q_run C F M n pc' ls' st' x) ∨
       (∃ pc' ls' st' x', q_hp M pc ins len ls st x pc' ls' st' x' ∧ q_run C F M n pc' ls' st' x') ∨
       (∃ M' av rest x1 r, q_cl M ins len st x M' av rest ∧ C M' av x x1 r ∧ q_run C F M n (pc + 3) ls (r.toList ++ rest) x1) ∨
       (∃ r, q_rt M ins len st r ∧ F x r))
def q_X (C : q_M → List Value → q_S → q_S → Option Value → Prop) (F : q_S → Option Value → Prop) (M : q_M) (pc : Nat) (ls : List (Nat × Value)) (st : List Value) (x : q_S) : Prop := ∃ n, q_run C F M n pc ls st x
/-- a call of depth d at most -/
def q_call : Nat → q_M → List Value → q_S → q_S → Option Value → Prop
  | 0, _, _, _, _, _ => False
  | d + 1, M, av, x, x', r => M ∈ q_MT ∧ av.length ≤ M.2.2.1 ∧ (∀ v ∈ av, v.category = 1) ∧ q_X (q_call d) (fun y o => y = x' ∧ o = r) M 0 (q_la 0 av) [] x
end
section
/-! How the machine's heap holds a pure state; what a call's contract says. -/
def q_good (w : Cond) : Bool := (w.onTables && w.keeps) || (match w with | .arrayClass _ => true | _ => false)
def q_WS : List Cond := lw_tbl.filter q_good
def q_nest (w : Cond) : Bool := match w with | .fieldLinkNest _ _ _ _ _ _ => true | .methodLinkNest _ _ _ _ => true | .castable _ _ => true | _ => false
def q_NW : List Cond := lw_tbl.filter q_nest
def q_wM (M : q_M) : List Cond := Cond.code M.1 M.2.1 M.2.2.1 M.2.2.2.1 :: q_WS
def q_tys (dA : Nat → ClassId) : List (ClassId × FieldType) := [(dA 0, .int), (dA 1, .boolean), (dA 2, .object "java/lang/Object")]
def q_A (x : q_S) : Nat → Prop := fun a => q_ow x a = true ∨ q_sz x ≤ a
def q_Rw (D : va_G) (dA : Nat → ClassId) (x : q_S) (ws : va_W) (H : Heap) : Prop :=
  va_P D qC ws H ∧ va_D (fun a => q_ow x a = true) ws ∧
  (∀ ci a : Nat, q_al x ci a = true → ∃ (q0 : Nat) (fs : List Value) (q : vw_C), qC[ci]? = some q ∧ ws[q0]? = some (a, .inr (ci, fs)) ∧ fs.length = q.2.2 ∧ ∀ k : Nat, k < q.2.2 → fs[k]? = some (q_fd x ci k a)) ∧
  (∀ (t a n : Nat) (f : Nat → Int32), q_ai x t a = some (n, f) → ∃ q0 : Nat, ws[q0]? = some (a, .inl (dA (q_kd t), n, .inl f))) ∧
  (∀ (t a n : Nat) (f : Nat → Option Nat), q_ar x t a = some (n, f) → ∃ q0 : Nat, ws[q0]? = some (a, .inl (dA 2, n, .inr (.inr (.inr (.inr f)))))) ∧
  (∀ (t u a : Nat) (y z : Nat × (Nat → Int32)), q_ai x t a = some y → q_ai x u a = some z → t = u) ∧
  (∀ (t u a : Nat) (y z : Nat × (Nat → Option Nat)), q_ar x t a = some y → q_ar x u a = some z → t = u)
def q_AL0 : String := "java/util/ArrayList"
def q_Kv (D : va_G) (dA : Nat → ClassId) (x : q_S) (U : State) : Prop :=
  va_K D qC (q_tys dA) U ∧ (∀ w ∈ q_NW, va_Nw w U) ∧ va_AO "java/lang/Object" U ∧ va_Mi "[Ljava/lang/Object;" (q_mo x) U ∧ va_Dc U
def q_Kh (x : q_S) (A : Nat → Prop) (U : State) (H : Heap) : Prop :=
  va_Z "java/util/ArrayList" "DEFAULTCAPACITY_EMPTY_ELEMENTDATA" "[Ljava/lang/Object;" (.ref (q_z0 x)) A U H ∧ va_T (.object "java/lang/Object") (q_z0 x) 0 (fun _ => .null) A U H ∧ va_X (q_sb x) (q_sL x) (q_sx x) U H ∧ q_sb x < H.size ∧ ¬ A (q_sb x)
def q_Mo (x x' : q_S) : Prop := q_sz x ≤ q_sz x' ∧ q_sl x ≤ q_sl x' ∧ (∀ a, q_ow x' a = true → q_A x a) ∧ q_en x' = q_en x
def q_Pre (D : va_G) (dA : Nat → ClassId) (av : List Value) (x : q_S) : Array Value → State → Prop := va_Pc av (fun U => q_Kv D dA x U ∧ q_Kh x (q_A x) U U.heap ∧ U.heap.size = q_sz x ∧ ∃ ws, q_Rw D dA x ws U.heap)
def q_Pst (D : va_G) (dA : Nat → ClassId) (x x' : q_S) (r : Option Value) : Array Value → State → Outcome → State → Prop := fun _ st oc t => oc = .returned r ∧ t.heap.size = q_sz x' ∧ (∃ ws, q_Rw D dA x' ws t.heap) ∧ va_F (q_A x) st t
def q_rm (d mc ms : Nat) : Room := { frames := d, cells := mc, slots := ms, locals := 64 * d }
def q_CT (l : Launch) (D : va_G) (dA : Nat → ClassId) (d : Nat) (M : q_M) (av : List Value) (x x' : q_S) (r : Option Value) : Prop :=
  M ∈ q_MT ∧ q_Mo x x' ∧ Met l M.1 (q_wM M) (q_rm d (q_sz x' - q_sz x) (q_sl x' - q_sl x)) (q_Pre D dA av x) (q_Pst D dA x x' r) (q_sz x' - q_sz x) (q_sl x' - q_sl x) (q_A x)
theorem q_Mo.rf (x : q_S) : q_Mo x x := ⟨Nat.le_refl _, Nat.le_refl _, fun _ h => Or.inl h, rfl⟩
theorem q_Mo.tr {x y z : q_S} (h : q_Mo x y) (g : q_Mo y z) : q_Mo x z := by
  refine ⟨Nat.le_trans h.1 g.1, Nat.le_trans h.2.1 g.2.1, fun a ha => ?_, g.2.2.2.trans h.2.2.2⟩
  rcases g.2.2.1 a ha with h1 | h1
  · exact h.2.2.1 a h1
  · exact Or.inr (Nat.le_trans h.1 h1)
theorem q_Mo.A {x y : q_S} (h : q_Mo x y) {a : Nat} (ha : q_A y a) : q_A x a := by
  rcases ha with h1 | h1
  · exact h.2.2.1 a h1
  · exact Or.inr (Nat.le_trans h.1 h1)
theorem q_Kv.en {D : va_G} {dA : Nat → ClassId} {x y : q_S} {U : State} (e : q_en y = q_en x) (h : q_Kv D dA x U) : q_Kv D dA y U := by
  unfold q_Kv at h ⊢
  rw [show q_mo y = q_mo x by unfold q_mo; rw [e]]
  exact h
theorem q_NW_mv {w : Cond} (hw : w ∈ q_NW) {s U : State} (hW : s.WarmedH U.vm) (h : va_Nw w s) : va_Nw w U := by
  have h1 := (List.mem_filter.mp hw).2
  unfold q_nest at h1
  split at h1
  · exact va_Nw.warmF hW h
  · exact va_Nw.warmM hW h
  · exact va_Nw.warmC hW h
  · cases h1
theorem q_Kv.warm {D : va_G} {dA : Nat → ClassId} {x : q_S} {s U : State} (hW : s.WarmedH U.vm) (h : q_Kv D dA x s) : q_Kv D dA x U :=
  ⟨va_K.moved hW.alike h.1, fun w hw => q_NW_mv hw hW (h.2.1 w hw), va_AO.moved hW.alike h.2.2.1, va_Mi.moved hW.alike h.2.2.2.1, va_Dc.moved hW.alike h.2.2.2.2⟩
theorem q_NW_same {w : Cond} (hw : w ∈ q_NW) {u U : State} (hv : u.vm = U.vm) (h : va_Nw w u) : va_Nw w U := by
  refine va_Nw.same ?_ hv h
  have h1 := (List.mem_filter.mp hw).2
  unfold q_nest at h1
  split at h1 <;> first | rfl | cases h1
theorem q_Kh.to {x y : q_S} {A B : Nat → Prop} {u U : State} {H H1 : Heap} (e : q_en y = q_en x) (hvm : u.vm.Alike U.vm) (hz : H.size ≤ H1.size) (hq : ∀ a : Nat, a < H.size → ¬ A a → H1[a]? = H[a]?) (hBA : ∀ q, B q → A q) (h : q_Kh x A u H) : q_Kh y B U H1 := by
  unfold q_Kh at h ⊢
  rw [show q_z0 y = q_z0 x by unfold q_z0; rw [e], show q_sb y = q_sb x by unfold q_sb; rw [e], show q_sL y = q_sL x by unfold q_sL; rw [e], show q_sx y = q_sx x by unfold q_sx; rw [e]]
  obtain ⟨h1, h2, h3, h4, h5⟩ := h
  exact ⟨va_Z.moved hvm ((h1.kept hq).narrow hBA), va_T.moved hvm ((h2.kept hq).narrow hBA), va_X.moved hvm (h3.kept (hq _ h4 h5)), Nat.lt_of_lt_of_le h4 hz, fun z => h5 (hBA _ z)⟩
theorem q_Pre.blind {D : va_G} {dA : Nat → ClassId} {av : List Value} {x : q_S} : FrameBlind (q_Pre D dA av x) := by
  intro a U g mk h
  obtain ⟨h1, h2, h3, h4, h5⟩ := h
  refine ⟨h1, ⟨va_K.moved (u := U) (U := U.calling g mk a) (Vm.Alike.refl U.vm) h2.1, fun w hw => q_NW_same (u := U) (U := U.calling g mk a) hw rfl (h2.2.1 w hw), va_AO.moved (u := U) (U := U.calling g mk a) (Vm.Alike.refl U.vm) h2.2.2.1, va_Mi.moved (u := U) (U := U.calling g mk a) (Vm.Alike.refl U.vm) h2.2.2.2.1, va_Dc.moved (u := U) (U := U.calling g mk a) (Vm.Alike.refl U.vm) h2.2.2.2.2⟩, ?_, h4, h5⟩
  exact q_Kh.to (u := U) (U := U.calling g mk a) rfl (Vm.Alike.refl U.vm) (Nat.le_refl _) (fun _ _ _ => rfl) (fun _ z => z) h3
end
section
/-! Every entry of the tables stands on words of the Statement. -/
theorem q_inW (i : Nat) {w : Cond} (h : lw_tbl[i]? = some w) (hg : q_good w = true) : w ∈ q_WS := List.mem_filter.mpr ⟨List.mem_of_getElem? h, hg⟩
theorem q_inN (i : Nat) {w : Cond} (h : lw_tbl[i]? = some w) (hg : q_nest w = true) : w ∈ q_NW := List.mem_filter.mpr ⟨List.mem_of_getElem? h, hg⟩
theorem q_inL {ws : List Cond} (ps : List Nat) (hp : ws = ps.filterMap (fun i => lw_tbl[i]?)) (hg : ws.all q_good = true) : ∀ w ∈ ws, w ∈ q_WS := by
  intro w hw
  have h1 := List.all_eq_true.mp hg w hw
  rw [hp] at hw
  obtain ⟨i, -, hi⟩ := List.mem_filterMap.mp hw
  exact q_inW i hi h1
def q_okC (q : vw_C) : Prop := ∃ tyf : Nat → FieldType, (∀ w ∈ u_ws q.1 q.2.1 q.2.2, w ∈ q_WS) ∧ (∀ k, k < q.2.2 → parseFieldDescriptor (q.2.1 k).2.2.1 = some (tyf k)) ∧ (∀ a, a < q.2.2 → ∀ b, b < q.2.2 → a ≠ b → (q.2.1 a).2.1 ≠ (q.2.1 b).2.1)
def q_okF (e : q_F) : Prop := ∃ q : vw_C, qC[e.2.2.1]? = some q ∧ e.2.2.2.1 < q.2.2 ∧ parseFieldDescriptor (q.2.1 e.2.2.2.1).2.2.1 = some e.2.2.2.2.2.2.1 ∧ (q.2.1 e.2.2.2.1).2.2.2 = e.2.2.2.2.2.2.2 ∧
  (match e.2.2.2.2.2.1 with | none => Cond.fieldLink e.1 e.2.1 e.2.2.2.2.1 (q.2.1 e.2.2.2.1).2.1 (q.2.1 e.2.2.2.1).2.2.1 ∈ q_WS | some h => Cond.fieldLinkNest e.1 e.2.1 e.2.2.2.2.1 (q.2.1 e.2.2.2.1).2.1 (q.2.1 e.2.2.2.1).2.2.1 h ∈ q_NW) ∧
  (e.2.2.2.2.1 = (q.2.1 e.2.2.2.1).1 ∨ Cond.sameField e.2.2.2.2.1 (q.2.1 e.2.2.2.1).1 (q.2.1 e.2.2.2.1).2.1 (q.2.1 e.2.2.2.1).2.2.1 ∈ q_WS) ∧ (e.2.2.2.2.2.2.2 = true → e.2.2.2.2.2.1 = none → (q.2.1 e.2.2.2.1).1 = e.1)
def q_okM (M : q_M) : Prop := plainName M.1.cls = true ∧ Cond.code M.1 M.2.1 M.2.2.1 M.2.2.2.1 ∈ q_WS ∧ M.2.2.1 ≤ 45 ∧ M.1.cls ≠ "java/lang/invoke/MethodHandle" ∧ M.1.cls ≠ "java/lang/invoke/VarHandle" ∧ (parseMethodDescriptor M.1.desc).map (fun d => d.parameters.length) = some M.2.2.2.2 ∧ Cond.initialized M.1.cls ∈ q_WS ∧ True
def q_okL (e : q_L) : Prop := match e.2.2.2 with | none => Cond.methodLink e.1 e.2.1 e.2.2.1.1 ∈ q_WS | some h => Cond.methodLinkNest e.1 e.2.1 e.2.2.1.1 h ∈ q_NW
def q_okS (e : q_L) : Prop := q_okL e ∧ Cond.static e.2.2.1.1 ∈ q_WS
def q_okV (e : q_L) : Prop := q_okL e ∧ Cond.instanceMethod e.2.2.1.1 ∈ q_WS ∧ Cond.selects e.2.2.1.1.cls e.2.2.1.1 e.2.2.1.1 ∈ q_WS
def q_okI (e : q_L) : Prop := q_okL e ∧ Cond.instanceMethod e.2.2.1.1 ∈ q_WS ∧ e.2.2.1.1.name = "<init>" ∧ e.2.2.1.2.2.2.1 = none
def q_okN (e : q_N) : Prop := ∃ (q : vw_C) (tyf : Nat → FieldType), qC[e.2.2.1]? = some q ∧ e.2.2.2.length = q.2.2 ∧ (∀ k, k < q.2.2 → parseFieldDescriptor (q.2.1 k).2.2.1 = some (tyf k)) ∧ (∀ j, j < q.2.2 → defaultValue (tyf j) = vp_V e.2.2.2 j) ∧ Cond.classLink e.1 e.2.1 q.1 ∈ q_WS ∧ Cond.instantiable q.1 q.2.2 ∈ q_WS ∧ Cond.initialized q.1 ∈ q_WS
theorem q_Cok : ∀ (ci : Nat) (q : vw_C), qC[ci]? = some q → q_okC q := sorry
theorem q_FLok : ∀ e ∈ q_FL, q_okF e := sorry
theorem q_MTok : ∀ e ∈ q_MT, q_okM e := sorry
theorem q_CSok : ∀ e ∈ q_CS, q_okS e := sorry
theorem q_CVok : ∀ e ∈ q_CV, q_okV e := sorry
theorem q_CIok : ∀ e ∈ q_CI, q_okI e := sorry
theorem q_NLok : ∀ e ∈ q_NL, q_okN e := sorry
theorem q_SLok : ∀ e ∈ q_SL, Cond.fieldLink e.1 e.2 "java/util/ArrayList" "DEFAULTCAPACITY_EMPTY_ELEMENTDATA" "[Ljava/lang/Object;" ∈ q_WS := sorry
theorem q_KLok : ∀ e ∈ q_KL, Cond.classLink e.1 e.2.1 e.2.2 ∈ q_WS := sorry
theorem q_DLok : ∀ e ∈ q_DL, Cond.constantLong e.1 e.2.1 e.2.2 ∈ q_WS := sorry
theorem q_ILok : ∀ e ∈ q_IL, Cond.constant e.1 e.2.1 e.2.2 ∈ q_WS := sorry
theorem q_MLok : ∀ e ∈ q_ML, Cond.classLink e.1 e.2 "[Ljava/lang/Object;" ∈ q_WS := sorry
theorem q_OLok : ∀ e ∈ q_OL, Cond.methodLink e.1 e.2 Lib.objectInit ∈ q_WS := sorry
theorem q_GLok : ∀ e ∈ q_GL, Cond.methodLink e.1 e.2 ⟨"java/lang/Object", "getClass", "()Ljava/lang/Class;"⟩ ∈ q_WS := sorry
theorem q_YLok : ∀ e ∈ q_YL, Cond.methodLink e.1 e.2 arraycopyName ∈ q_WS := sorry
theorem q_QLok : ∀ e ∈ q_QL, Cond.classLink e.1 e.2 "java/lang/Object" ∈ q_WS := sorry
theorem q_XLok : ∀ e ∈ q_XL, Cond.methodLink e.1 e.2 Lib.Math.max.name ∈ q_WS := sorry
theorem q_VLok : ∀ e ∈ q_VL, Cond.methodLink e.1 e.2 Lib.Math.min.name ∈ q_WS := sorry
theorem q_mx1 : Cond.static Lib.Math.max.name ∈ q_WS := sorry
theorem q_mn1 : Cond.static Lib.Math.min.name ∈ q_WS := sorry
theorem q_mx2 : Cond.initialized "java/lang/Math" ∈ q_WS := sorry
theorem q_mx3 : Cond.code Lib.Math.max.name Lib.Math.max.code 2 (some .int) ∈ q_WS := sorry
theorem q_mn3 : Cond.code Lib.Math.min.name Lib.Math.min.code 2 (some .int) ∈ q_WS := sorry
theorem q_ob1 : Cond.instanceMethod Lib.objectInit ∈ q_WS := sorry
theorem q_ob2 : Cond.code Lib.objectInit ⟨#[0xb1]⟩ 1 none ∈ q_WS := sorry
theorem q_gc1 : Cond.selects "[Ljava/lang/Object;" ⟨"java/lang/Object", "getClass", "()Ljava/lang/Class;"⟩ ⟨"java/lang/Object", "getClass", "()Ljava/lang/Class;"⟩ ∈ q_WS := sorry
theorem q_gc2 : Cond.instanceMethod ⟨"java/lang/Object", "getClass", "()Ljava/lang/Class;"⟩ ∈ q_WS := sorry
theorem q_gc3 : Cond.native ⟨"java/lang/Object", "getClass", "()Ljava/lang/Class;"⟩ ∈ q_WS := sorry
theorem q_ac1 : Cond.native arraycopyName ∈ q_WS := sorry
theorem q_ac2 : Cond.static arraycopyName ∈ q_WS := sorry
theorem q_ac3 : Cond.initialized "java/lang/System" ∈ q_WS := sorry
theorem q_arI : Cond.arrayClass (newarray.typeOf .int) ∈ q_WS := sorry
theorem q_arZ : Cond.arrayClass (newarray.typeOf .boolean) ∈ q_WS := sorry
theorem q_ALok : ∀ (ci : Nat) (q : vw_C), ci ∈ q_AL → qC[ci]? = some q → Cond.castable q.1 "java/lang/Object" ∈ q_NW := sorry
end
section
/-! Each instruction that leaves the pure state as it is: the machine follows. -/
def q_Cx (p : Program) (s : State) (m : MethodId) (args : Array Value) (meth : Method) (c : Code) (M : q_M) (D : va_G) (dA : Nat → ClassId) (x0 : q_S) : Prop :=
  p.tables.exec = Jvm.exec ∧ c.code = M.2.1 ∧ c.maxLocals = M.2.2.1 ∧ s.vm.findClass M.1.cls = some m.cls ∧ (∀ w ∈ q_WS, w.before args s = true) ∧ q_Kv D dA x0 s ∧ q_Kh x0 (q_A x0) s s.heap ∧ meth.name = M.1.name ∧ s.heap.size = q_sz x0
def q_In (D : va_G) (dA : Nat → ClassId) (x0 : q_S) (H0 : Heap) (x : q_S) (H : Heap) (locs : List Loc) : Prop :=
  (∃ ws, q_Rw D dA x ws H) ∧ H.size = q_sz x ∧ q_Mo x0 x ∧ va_S (q_A x0) H0 H locs
theorem q_ref_or (r : Option Nat) : va_rf r = .null ∨ ∃ a, va_rf r = .ref a := by
  cases r with
  | none => exact Or.inl rfl
  | some a => exact Or.inr ⟨a, rfl⟩
theorem q_kd_or (t : Nat) : q_kd t = 0 ∨ q_kd t = 1 := by
  unfold q_kd
  split
  · exact Or.inr rfl
  · exact Or.inl rfl
theorem q_cat (r : Option Nat) : (va_rf r).category = 1 := by
  cases r <;> rfl
theorem q_st1_eq {lv : List (Nat × Value)} (h : q_c1 lv) (i : Nat) (v : Value) : (i, v) :: lv.filter (fun q => !(q.1 == i) && !(q.1 + 1 == i && q.2.category == 2)) = q_st1 lv i v := by
  unfold q_st1
  congr 1
  refine List.filter_congr (fun q hq => ?_)
  rw [h q hq]
  simp
theorem q_c1_st {lv : List (Nat × Value)} (h : q_c1 lv) {i : Nat} {v : Value} (hv : v.category = 1) : q_c1 (q_st1 lv i v) := by
  intro q hq
  rcases List.mem_cons.mp hq with h1 | h1
  · rw [h1]; exact hv
  · exact h q (List.mem_filter.mp h1).1
theorem q_la_c1 : ∀ (vs : List Value) (i : Nat), (∀ v ∈ vs, v.category = 1) → q_c1 (q_la i vs)
  | [], _, _ => fun q hq => by cases hq
  | v :: vs, i, h => fun q hq => by
    rcases List.mem_cons.mp hq with h1 | h1
    · rw [h1]; exact h v List.mem_cons_self
    · exact q_la_c1 vs (i + 1) (fun w hw => h w (List.mem_cons_of_mem _ hw)) q h1
theorem q_la_eq : ∀ (vs : List Value) (i : Nat), (∀ v ∈ vs, v.category = 1) → lv_args i vs = q_la i vs
  | [], _, _ => rfl
  | v :: vs, i, h => by
    show (i, v) :: lv_args (if v.category = 2 then i + 2 else i + 1) vs = (i, v) :: q_la (i + 1) vs
    rw [h v List.mem_cons_self, if_neg (by decide), q_la_eq vs (i + 1) (fun w hw => h w (List.mem_cons_of_mem _ hw))]
theorem q_sl_len : ∀ (vs : List Value), (∀ v ∈ vs, v.category = 1) → (lg_sl vs).length = vs.length
  | [], _ => rfl
  | v :: vs, h => by
    show ((if v.category = 2 then [Slot.val v, .second] else [.val v]) ++ lg_sl vs).length = vs.length + 1
    rw [h v List.mem_cons_self, if_neg (by decide), List.length_append, q_sl_len vs (fun w hw => h w (List.mem_cons_of_mem _ hw))]
    show 1 + vs.length = vs.length + 1
    omega
section QS1
variable {p : Program} {l : Launch} {e : Env} {R : Room} {s : State} {m : MethodId} {args : Array Value} {below : List Frame} {meth : Method} {c : Code} {H : Heap} {locs : List Loc} {cells slots : Nat} {Q : State → Prop}
variable {M : q_M} {D : va_G} {dA : Nat → ClassId} {x0 x : q_S} {pc pc' len : Nat} {ins : ClassFile.Instr} {ls : Array Slot} {lv lv' : List (Nat × Value)} {st st' : List Value}
theorem q_same {F : String × String × String × Bool} {ref : String} (hts : ∀ w ∈ q_WS, w.before args s = true) (h : ref = F.1 ∨ Cond.sameField ref F.1 F.2.1 F.2.2.1 ∈ q_WS) : ∀ z, s.fieldFound? F.1 F.2.1 F.2.2.1 = some z → s.fieldFound? ref F.2.1 F.2.2.1 = some z := by
  intro z hz
  rcases h with h | h
  · rw [h]; exact hz
  · exact u_same (hts _ h) z hz
set_option maxHeartbeats 4000000 in
theorem q_S1 (X : q_Cx p s m args meth c M D dA x0) (hR1 : 1 ≤ R.frames) (hR2 : 64 ≤ R.locals) (hcc : cells ≤ R.cells) (hss : slots ≤ R.slots) (hl : lv_has ls M.2.2.1 lv) (hc1 : q_c1 lv) (I : q_In D dA x0 s.heap x H locs) (hd : decode M.2.1 pc = .ok (ins, len)) (h : q_smp M pc ins len lv st x pc' lv' st')
    (k : ∀ ls' : Array Slot, lv_has ls' M.2.2.1 lv' → q_c1 lv' → W p l e R s m args below meth c H locs cells slots Q (F0 m pc' ls' st')) : W p l e R s m args below meth c H locs cells slots Q (F0 m pc ls st) := by
  obtain ⟨hx, hb, hml, hown, hts, hKv, hKh, hnm, hsz⟩ := X
  obtain ⟨⟨ws, hP, hD, hO, hAi, hAr, -, -⟩, hHz, hMo, hS⟩ := I
  have hK := hKv.1
  have hen := hMo.2.2.2
  have hnO : s.vm.findClass "[Ljava/lang/Object;" = some (dA 2) := va_nmO (hK.2 2 _ rfl).2 (by decide +kernel)
  cases ins with
  | iconst n => obtain ⟨rfl, rfl, rfl, rfl⟩ := h; exact lv_iconst hx hb hd rfl (k ls hl hc1)
  | bipush n => obtain ⟨rfl, rfl, rfl, rfl⟩ := h; exact lv_bipush hx hb hd rfl (k ls hl hc1)
  | sipush n => obtain ⟨rfl, rfl, rfl, rfl⟩ := h; exact lv_sipush hx hb hd rfl (k ls hl hc1)
  | aconst_null => obtain ⟨rfl, rfl, rfl, rfl⟩ := h; exact lv_null hx hb hd (k ls hl hc1)
  | iload_n i => obtain ⟨rfl, rfl, rfl, v, hv, rfl⟩ := h; exact lv_iload_n hx hb hd rfl (hl.2.2 _ hv) (k ls hl hc1)
  | iload i => obtain ⟨rfl, rfl, rfl, v, hv, rfl⟩ := h; exact lv_iload hx hb hd (hl.2.2 _ hv) (k ls hl hc1)
  | aload_n i =>
    obtain ⟨rfl, rfl, rfl, r, hv, rfl⟩ := h
    cases r with
    | none => exact lv_aload_nN hx hb hd rfl (hl.2.2 _ hv) (k ls hl hc1)
    | some a => exact lv_aload_n hx hb hd rfl (hl.2.2 _ hv) (k ls hl hc1)
  | aload i =>
    obtain ⟨rfl, rfl, rfl, r, hv, rfl⟩ := h
    cases r with
    | none => exact lv_aloadN hx hb hd (hl.2.2 _ hv) (k ls hl hc1)
    | some a => exact lv_aload hx hb hd (hl.2.2 _ hv) (k ls hl hc1)
  | istore_n i => obtain ⟨rfl, rfl, hn, v, rfl, rfl⟩ := h; exact lv_istore_n hx hb hd rfl hl hn (q_st1_eq hc1 _ _) (fun ls' h' => k ls' h' (q_c1_st hc1 rfl))
  | istore i => obtain ⟨rfl, rfl, hn, v, rfl, rfl⟩ := h; exact lv_istore hx hb hd hl hn (q_st1_eq hc1 _ _) (fun ls' h' => k ls' h' (q_c1_st hc1 rfl))
  | astore_n i =>
    obtain ⟨rfl, rfl, hn, r, rfl, rfl⟩ := h
    cases r with
    | none => exact lv_astore_nN hx hb hd rfl hl hn (q_st1_eq hc1 _ _) (fun ls' h' => k ls' h' (q_c1_st hc1 rfl))
    | some a => exact lv_astore_n hx hb hd rfl hl hn (q_st1_eq hc1 _ _) (fun ls' h' => k ls' h' (q_c1_st hc1 rfl))
  | astore i =>
    obtain ⟨rfl, rfl, hn, r, rfl, rfl⟩ := h
    cases r with
    | none => exact lv_astoreN hx hb hd hl hn (q_st1_eq hc1 _ _) (fun ls' h' => k ls' h' (q_c1_st hc1 rfl))
    | some a => exact lv_astore hx hb hd hl hn (q_st1_eq hc1 _ _) (fun ls' h' => k ls' h' (q_c1_st hc1 rfl))
  | iinc i n =>
    obtain ⟨rfl, rfl, hn, rfl, v, hv, rfl⟩ := h
    obtain ⟨k0, hk⟩ := List.mem_iff_getElem?.mp hv
    exact lv_iinc hx hb hd hl hk rfl hn (q_st1_eq hc1 _ _) (fun ls' h' => k ls' h' (q_c1_st hc1 rfl))
  | iadd => obtain ⟨rfl, rfl, rfl, a, b, rest, rfl, rfl⟩ := h; exact lv_iadd hx hb hd (k ls hl hc1)
  | isub => obtain ⟨rfl, rfl, rfl, a, b, rest, rfl, rfl⟩ := h; exact lv_isub hx hb hd (k ls hl hc1)
  | imul => obtain ⟨rfl, rfl, rfl, a, b, rest, rfl, rfl⟩ := h; exact lv_imul hx hb hd (k ls hl hc1)
  | iand => obtain ⟨rfl, rfl, rfl, a, b, rest, rfl, rfl⟩ := h; exact lv_iand hx hb hd (k ls hl hc1)
  | ior => obtain ⟨rfl, rfl, rfl, a, b, rest, rfl, rfl⟩ := h; exact lv_ior hx hb hd (k ls hl hc1)
  | ixor => obtain ⟨rfl, rfl, rfl, a, b, rest, rfl, rfl⟩ := h; exact lv_ixor hx hb hd (k ls hl hc1)
  | irem => obtain ⟨rfl, rfl, rfl, a, b, rest, hne, rfl, rfl⟩ := h; exact lv_irem hx hb hd hne (k ls hl hc1)
  | ishl => obtain ⟨rfl, rfl, rfl, a, b, rest, rfl, rfl⟩ := h; exact lv_ishl hx hb hd (k ls hl hc1)
  | ishr => obtain ⟨rfl, rfl, rfl, a, b, rest, rfl, rfl⟩ := h; exact lv_ishr hx hb hd (k ls hl hc1)
  | iushr => obtain ⟨rfl, rfl, rfl, a, b, rest, rfl, rfl⟩ := h; exact lv_iushr hx hb hd rfl (k ls hl hc1)
  | i2l => obtain ⟨rfl, rfl, rfl, a, rest, rfl, rfl⟩ := h; exact lv_i2l hx hb hd rfl (k ls hl hc1)
  | lcmp => obtain ⟨rfl, rfl, rfl, a, b, rest, rfl, rfl⟩ := h; exact W.lcmp hx hb hd (k ls hl hc1)
  | dup => obtain ⟨rfl, rfl, rfl, v, rest, hv, rfl, rfl⟩ := h; exact lv_dup hx hb hd hv (k ls hl hc1)
  | pop => obtain ⟨rfl, rfl, rfl, v, hv, rfl⟩ := h; exact lv_pop hx hb hd hv (k ls hl hc1)
  | dup_x1 => obtain ⟨rfl, rfl, rfl, v, w, rest, hv, hw, rfl, rfl⟩ := h; exact lv_dup_x1 hx hb hd hv hw (k ls hl hc1)
  | dup2 => obtain ⟨rfl, rfl, rfl, v, w, rest, hv, hw, rfl, rfl⟩ := h; exact lv_dup2_11 hx hb hd hv hw (k ls hl hc1)
  | ifCond cn off =>
    obtain ⟨rfl, rfl, v, tgt, rfl, ht, hc⟩ := h
    cases cn with
    | eq =>
      rcases hc with ⟨hc, rfl⟩ | ⟨hc, rfl⟩
      · exact lv_if_eq hx hb hd ht (fun _ => k ls hl hc1) (fun z => absurd hc z)
      · exact lv_if_eq hx hb hd ht (fun z => absurd z hc) (fun _ => k ls hl hc1)
    | ne =>
      rcases hc with ⟨hc, rfl⟩ | ⟨hc, rfl⟩
      · exact lv_if_ne hx hb hd ht (fun _ => k ls hl hc1) (fun z => absurd z hc)
      · exact lv_if_ne hx hb hd ht (fun z => absurd z hc) (fun _ => k ls hl hc1)
    | lt =>
      rcases hc with ⟨hc, rfl⟩ | ⟨hc, rfl⟩
      · exact lv_if_lt hx hb hd ht (fun _ => k ls hl hc1) (fun z => absurd hc z)
      · exact lv_if_lt hx hb hd ht (fun z => absurd z hc) (fun _ => k ls hl hc1)
    | ge =>
      rcases hc with ⟨hc, rfl⟩ | ⟨hc, rfl⟩
      · exact lv_if_ge hx hb hd ht (fun _ => k ls hl hc1) (fun z => absurd hc z)
      · exact lv_if_ge hx hb hd ht (fun z => absurd z hc) (fun _ => k ls hl hc1)
    | gt =>
      rcases hc with ⟨hc, rfl⟩ | ⟨hc, rfl⟩
      · exact lv_if_gt hx hb hd ht (fun _ => k ls hl hc1) (fun z => absurd hc z)
      · exact lv_if_gt hx hb hd ht (fun z => absurd z hc) (fun _ => k ls hl hc1)
    | le =>
      rcases hc with ⟨hc, rfl⟩ | ⟨hc, rfl⟩
      · exact lv_if_le hx hb hd ht (fun _ => k ls hl hc1) (fun z => absurd hc z)
      · exact lv_if_le hx hb hd ht (fun z => absurd z hc) (fun _ => k ls hl hc1)
  | if_icmp cn off =>
    obtain ⟨rfl, rfl, a, b, tgt, rfl, ht, hc⟩ := h
    cases cn with
    | eq =>
      rcases hc with ⟨hc, rfl⟩ | ⟨hc, rfl⟩
      · exact lv_icmp_eq hx hb hd ht (fun _ => k ls hl hc1) (fun z => absurd hc z)
      · exact lv_icmp_eq hx hb hd ht (fun z => absurd z hc) (fun _ => k ls hl hc1)
    | ne =>
      rcases hc with ⟨hc, rfl⟩ | ⟨hc, rfl⟩
      · exact lv_icmp_ne hx hb hd ht (fun _ => k ls hl hc1) (fun z => absurd z hc)
      · exact lv_icmp_ne hx hb hd ht (fun z => absurd z hc) (fun _ => k ls hl hc1)
    | lt =>
      rcases hc with ⟨hc, rfl⟩ | ⟨hc, rfl⟩
      · exact lv_icmp_lt hx hb hd ht (fun _ => k ls hl hc1) (fun z => absurd hc z)
      · exact lv_icmp_lt hx hb hd ht (fun z => absurd z hc) (fun _ => k ls hl hc1)
    | ge =>
      rcases hc with ⟨hc, rfl⟩ | ⟨hc, rfl⟩
      · exact lv_icmp_ge hx hb hd ht (fun _ => k ls hl hc1) (fun z => absurd hc z)
      · exact lv_icmp_ge hx hb hd ht (fun z => absurd z hc) (fun _ => k ls hl hc1)
    | gt =>
      rcases hc with ⟨hc, rfl⟩ | ⟨hc, rfl⟩
      · exact lv_icmp_gt hx hb hd ht (fun _ => k ls hl hc1) (fun z => absurd hc z)
      · exact lv_icmp_gt hx hb hd ht (fun z => absurd z hc) (fun _ => k ls hl hc1)
    | le =>
      rcases hc with ⟨hc, rfl⟩ | ⟨hc, rfl⟩
      · exact lv_icmp_le hx hb hd ht (fun _ => k ls hl hc1) (fun z => absurd hc z)
      · exact lv_icmp_le hx hb hd ht (fun z => absurd z hc) (fun _ => k ls hl hc1)
  | if_acmp cn off =>
    obtain ⟨rfl, rfl, a, b, tgt, rfl, ht, hc⟩ := h
    cases cn with
    | eq =>
      rcases hc with ⟨hc, rfl⟩ | ⟨hc, rfl⟩
      · exact lv_acmp_eq hx hb hd ht (fun _ => k ls hl hc1) (fun z => absurd hc z)
      · exact lv_acmp_eq hx hb hd ht (fun z => absurd z hc) (fun _ => k ls hl hc1)
    | ne =>
      rcases hc with ⟨hc, rfl⟩ | ⟨hc, rfl⟩
      · exact lv_acmp_ne hx hb hd ht (fun _ => k ls hl hc1) (fun z => absurd z hc)
      · exact lv_acmp_ne hx hb hd ht (fun z => absurd z hc) (fun _ => k ls hl hc1)
  | ifnull off =>
    obtain ⟨rfl, rfl, r, tgt, rfl, ht, hc⟩ := h
    cases r with
    | none =>
      rcases hc with ⟨hc, rfl⟩ | ⟨hc, rfl⟩
      · exact lv_ifnullN hx hb hd ht (k ls hl hc1)
      · exact absurd rfl hc
    | some a =>
      rcases hc with ⟨hc, rfl⟩ | ⟨hc, rfl⟩
      · cases hc
      · exact lv_ifnull hx hb hd (k ls hl hc1)
  | ifnonnull off =>
    obtain ⟨rfl, rfl, r, tgt, rfl, ht, hc⟩ := h
    cases r with
    | none =>
      rcases hc with ⟨hc, rfl⟩ | ⟨hc, rfl⟩
      · exact absurd rfl hc
      · exact lv_ifnonnullN hx hb hd (k ls hl hc1)
    | some a =>
      rcases hc with ⟨hc, rfl⟩ | ⟨hc, rfl⟩
      · exact lv_ifnonnull hx hb hd ht (k ls hl hc1)
      · cases hc
  | goto off => obtain ⟨rfl, rfl, rfl, tgt, ht, rfl⟩ := h; exact lv_goto hx hb hd ht (k ls hl hc1)
  | getfield idx =>
    obtain ⟨rfl, rfl, rfl, en, a, rest, he, h1, h2, rfl, hal, rfl⟩ := h
    obtain ⟨q, hq, hk, hty, hfin, hlink, hsm, hde⟩ := q_FLok en he
    obtain ⟨own, idx', ci, fk, ref, host, ty, fin⟩ := en
    dsimp only at h1 h2 hq hk hty hfin hlink hsm hde hal k ⊢
    subst h1 h2
    obtain ⟨q0, fs, q', hq', hw, hlen, hfs⟩ := hO ci a hal
    cases hq.symm.trans hq'
    obtain ⟨tyf, hin, -, -⟩ := q_Cok ci q hq
    cases host with
    | none => exact va_get (ws := ws) hx hb hts hin hown hK hP q0 hw hq fk hk (hts _ hlink) (q_same hts hsm) (hfs fk hk) hd (k ls hl hc1)
    | some hst => exact va_getN (ws := ws) hx hb hts hin hown hK hP q0 hw hq fk hk (va_Nw.use rfl (hKv.2.1 _ hlink)) (q_same hts hsm) (hfs fk hk) hd (k ls hl hc1)
  | getstatic idx =>
    obtain ⟨rfl, rfl, rfl, he, rfl⟩ := h
    have e0 : q_z0 x = q_z0 x0 := by unfold q_z0; rw [hen]
    rw [e0] at k
    exact va_gets hx hb hKh.1 hS hown (hts _ (q_SLok _ he)) (fun _ z => z) hd (k ls hl hc1)
  | iaload =>
    obtain ⟨rfl, rfl, rfl, a, i, rest, rfl, hc⟩ := h
    rcases hc with ⟨t, n, f, hkd, ha, hin, rfl⟩ | ⟨rfl, hin, rfl⟩
    · obtain ⟨q0, hw⟩ := hAi t a n f ha
      rw [hkd] at hw
      exact va_iald (ws := ws) hx hb hK hP q0 0 hw rfl hin hd (k ls hl hc1)
    · have e1 : q_sb x = q_sb x0 := by unfold q_sb; rw [hen]
      have e2 : q_sL x = q_sL x0 := by unfold q_sL; rw [hen]
      have e3 : q_sx x = q_sx x0 := by unfold q_sx; rw [hen]
      rw [e2] at hin
      rw [e3] at k
      rw [e1]
      exact va_sld hx hb hKh.2.2.1 hKh.2.2.2.1 hKh.2.2.2.2 hS hin hd (k ls hl hc1)
  | baload =>
    obtain ⟨rfl, rfl, rfl, a, i, rest, t, n, f, rfl, hkd, ha, hin, rfl⟩ := h
    obtain ⟨q0, hw⟩ := hAi t a n f ha
    rw [hkd] at hw
    exact va_zald (ws := ws) hx hb hK hP q0 1 hw rfl hin hd (k ls hl hc1)
  | aaload =>
    obtain ⟨rfl, rfl, rfl, a, i, rest, t, n, f, rfl, ha, hin, rfl⟩ := h
    obtain ⟨q0, hw⟩ := hAr t a n f ha
    exact va_aldq (ws := ws) hx hb hK hP q0 2 hw rfl hin hd (k ls hl hc1)
  | arraylength =>
    obtain ⟨rfl, rfl, rfl, a, rest, rfl, hc⟩ := h
    rcases hc with ⟨t, n, f, ha, rfl⟩ | ⟨t, n, f, ha, rfl⟩ | ⟨rfl, rfl⟩ | ⟨rfl, rfl⟩
    · obtain ⟨q0, hw⟩ := hAi t a n f ha
      rcases q_kd_or t with hkd | hkd
      · rw [hkd] at hw
        exact va_alen (ws := ws) hx hb hK hP q0 0 hw rfl rfl hd (k ls hl hc1)
      · rw [hkd] at hw
        exact va_alen (ws := ws) hx hb hK hP q0 1 hw rfl rfl hd (k ls hl hc1)
    · obtain ⟨q0, hw⟩ := hAr t a n f ha
      exact va_alen (ws := ws) hx hb hK hP q0 2 hw rfl rfl hd (k ls hl hc1)
    · have e0 : q_z0 x = q_z0 x0 := by unfold q_z0; rw [hen]
      rw [e0]
      exact va_tlen hx hb hKh.2.1 hS rfl hd (k ls hl hc1)
    · have e1 : q_sb x = q_sb x0 := by unfold q_sb; rw [hen]
      have e2 : q_sL x = q_sL x0 := by unfold q_sL; rw [hen]
      rw [e2] at k
      rw [e1]
      exact va_slen hx hb hKh.2.2.1 hKh.2.2.2.1 hKh.2.2.2.2 hS hd (k ls hl hc1)
  | checkcast idx =>
    obtain ⟨rfl, rfl, rfl, rfl, hc⟩ := h
    rcases hc with ⟨rest, rfl⟩ | ⟨a, ci, rest, q, rfl, hal, hq, he⟩ | ⟨a, t, n, f, rest, rfl, ha, he⟩
    · exact lv_castN hx hb hd (k ls hl hc1)
    · obtain ⟨q0, fs, q', hq', hw, -, -⟩ := hO ci a hal
      cases hq.symm.trans hq'
      exact va_castS hx hb hown (hts _ (q_KLok _ he)) (hK.1 ci q hq).2 (va_recv hK hP hq hw) hd (k ls hl hc1)
    · obtain ⟨q0, hw⟩ := hAr t a n f ha
      exact va_castA (ws := ws) hx hb hown (hts _ (q_KLok _ he)) hP q0 hw hnO hd (k ls hl hc1)
  | ldc2_w idx => obtain ⟨rfl, rfl, rfl, v, he, rfl⟩ := h; exact lv_ldc2 hx hb hown (hts _ (q_DLok _ he)) hd (k ls hl hc1)
  | ldc idx =>
    obtain ⟨rfl, rfl, rfl, h⟩ := h
    rcases h with ⟨he, rfl⟩ | ⟨v, he, rfl⟩
    · have e0 : q_mo x = q_mo x0 := by unfold q_mo; rw [hen]
      rw [e0] at k
      exact va_ldcM hx hb hown (hts _ (q_MLok _ he)) hKv.2.2.2.1 hd (k ls hl hc1)
    · exact lv_ldc hx hb hown (hts _ (q_ILok _ he)) hd (k ls hl hc1)
  | tableswitch df lo hi offs =>
    obtain ⟨rfl, v, rfl, hc⟩ := h
    rcases hc with ⟨hc, ht⟩ | ⟨h1, h2, off, ho, ht⟩
    · exact lv_tableOut hx hb hd hc ht (k ls hl hc1)
    · exact lv_tableIn hx hb hd h1 h2 ho ht (k ls hl hc1)
  | invokespecial idx =>
    obtain ⟨rfl, rfl, rfl, he, hsum, a, rfl⟩ := h
    exact W.objInit hx hb hown (hts _ (q_OLok _ he)) (hts _ q_ob1) (hts _ q_ob2) rfl (hl.1.trans hml.symm) rfl hd hR1 (by show 2 * 0 + _ + 12 ≤ _; omega) (k ls hl hc1)
  | invokestatic idx =>
    obtain ⟨rfl, rfl, rfl, a, b, rest, hsum, rfl, hc⟩ := h
    rcases hc with ⟨he, rfl⟩ | ⟨he, rfl⟩
    · exact va_mmax hx hb (hml.trans hl.1.symm) hown (hts _ (q_XLok _ he)) (hts _ q_mx1) (hts _ q_mx2) (hts _ q_mx3) hR1 (by omega) hcc hss hd (k ls hl hc1)
    · exact va_mmin hx hb (hml.trans hl.1.symm) hown (hts _ (q_VLok _ he)) (hts _ q_mn1) (hts _ q_mx2) (hts _ q_mn3) hR1 (by omega) hcc hss hd (k ls hl hc1)
  | invokevirtual idx =>
    obtain ⟨rfl, rfl, rfl, he, a, t, n, f, rest, hsum, rfl, ha, rfl⟩ := h
    obtain ⟨q0, hw⟩ := hAr t a n f ha
    have e0 : q_mo x = q_mo x0 := by unfold q_mo; rw [hen]
    rw [e0] at k
    have hcell := hP q0 _ hw
    exact va_getC (C := "[Ljava/lang/Object;") hx hb (hml.trans hl.1.symm) hown (hts _ (q_GLok _ he)) (va_Dc.use hKv.2.2.2.2) (hts _ q_gc1) (hts _ q_gc2) (hts _ q_gc3) hKv.2.2.2.1 ⟨_, hcell, rfl, hnO⟩ hR1 (by omega) hd (k ls hl hc1)
  | _ => exact False.elim h
end QS1
end
section
/-! System.arraycopy between two arrays of Object: what is behind it, with the heap's size. -/
section QCP
variable {p : Program} {l : Launch} {e : Env} {R : Room} {s : State} {m : MethodId} {args : Array Value} {below : List Frame} {meth : Method} {c : Code} {H : Heap} {locs : List Loc} {cells slots : Nat} {Q : State → Prop}
variable {cc : ByteArray} {pc : Nat} {ls : Array Slot} {rest : List Value} {D : va_G} {A : Nat → Prop} {dA : Nat → ClassId} {ws : va_W}
theorem q_nn (z : Int32) (hz : ¬ z < 0) : z.toInt = (z.toNatClampNeg : Int) := by
  have hz0 : (0 : Int) ≤ z.toInt := by
    have := Int32.not_lt.mp hz
    simpa using Int32.le_iff_toInt_le.mp this
  show z.toInt = ((z.toInt.toNat : Nat) : Int)
  omega
set_option maxHeartbeats 4000000 in
theorem q_copy (hx : p.tables.exec = Jvm.exec) (hb : c.code = cc) (hml : c.maxLocals = ls.size) {own : String} {index : Nat} (hown : s.vm.findClass own = some m.cls) (hlink : (Cond.methodLink own index arraycopyName).before args s = true) (hnat : (Cond.native arraycopyName).before args s = true) (hstat : (Cond.static arraycopyName).before args s = true) (hini : (Cond.initialized "java/lang/System").before args s = true)
    (hK : va_K D qC (q_tys dA) s) (hP : va_P D qC ws H) (hD : va_D A ws) (q0 q1 : Nat) {a0 a1 n0 n1 : Nat} {f g : Nat → Option Nat} (hw0 : ws[q0]? = some (a0, .inl (dA 2, n0, .inr (.inr (.inr (.inr f)))))) (hw1 : ws[q1]? = some (a1, .inl (dA 2, n1, .inr (.inr (.inr (.inr g))))))
    {sp dp n : Int32} (h1 : ¬ sp < 0) (h2 : ¬ dp < 0) (h3 : ¬ n < 0) (h4 : sp.toNatClampNeg + n.toNatClampNeg ≤ n0) (h5 : dp.toNatClampNeg + n.toNatClampNeg ≤ n1) (hel : ∀ i : Nat, i < n.toNatClampNeg → ∀ y : Nat, f (sp.toNatClampNeg + i) = some y → va_Any "java/lang/Object" s H y)
    (hR1 : 1 ≤ R.frames) (hR2 : (rest.map fun v => v.category).sum + 18 ≤ R.locals) (hdg : decode cc pc = .ok (.invokestatic index, 3))
    (kk : ∀ (H1 : Heap) (locs1 : List Loc), va_P D qC (ws.set q1 (a1, .inl (dA 2, n1, .inr (.inr (.inr (.inr (va_cpy f g sp.toNatClampNeg dp.toNatClampNeg n.toNatClampNeg))))))) H1 → H1.size = H.size → (∀ z, z ≠ a1 → H1[z]? = H[z]?) → (∀ z ∈ locs1, z ∈ locs ∨ z.base = a1) → W p l e R s m args below meth c H1 locs1 cells slots Q (F0 m (pc + 3) ls rest)) : W p l e R s m args below meth c H locs cells slots Q (F0 m pc ls (.int n :: .int dp :: .ref a1 :: .int sp :: .ref a0 :: rest)) := by
  intro T hT X
  have hc0 : H[a0]? = some (vp_cell (dA 2) (n0, .inr (.inr (.inr (.inr f))))) := hP q0 _ hw0
  have hc1 : H[a1]? = some (vp_cell (dA 2) (n1, .inr (.inr (.inr (.inr g))))) := hP q1 _ hw1
  obtain ⟨kA, comp, r1, r2, r3, -⟩ := (hK.2 2 _ rfl).2
  have hwd : nativeFrameWords "java/lang/System" "arraycopy" 5 = 7 := by decide
  obtain ⟨vm', X', step⟩ := X.arraycopy hx hown hlink hnat hstat hini (src := a0) (dst := a1) (cs := vp_cell (dA 2) (n0, .inr (.inr (.inr (.inr f))))) (cd := vp_cell (dA 2) (n1, .inr (.inr (.inr (.inr g))))) (srcPos := sp) (destPos := dp) (n := n) (by rw [hT]; exact hc0) (by rw [hT]; exact hc1)
    (fun _ h => by cases h) (fun _ h => by cases h) (fun h => by cases h) (fun h => by cases h) r1 r1 r2 r2 rfl h1 h2 h3
    (by rw [q_nn sp h1, q_nn n h3]; show ¬ _ > ((arrV (dA 2) n0 (fun j => va_rf (f j))).slots.size : Int); rw [arrV_size]; omega)
    (by rw [q_nn dp h2, q_nn n h3]; show ¬ _ > ((arrV (dA 2) n1 (fun j => va_rf (g j))).slots.size : Int); rw [arrV_size]; omega)
    (fun vm₁ hal i hi => by
      have e : (vp_cell (dA 2) (n0, .inr (.inr (.inr (.inr f))))).slots.getD (sp.toNatClampNeg + i) .null = va_rf (f (sp.toNatClampNeg + i)) := by
        show (arrV (dA 2) n0 (fun j => va_rf (f j))).slots.getD _ _ = _
        rw [Array.getD_eq_getD_getElem?, arrV_read _ _ (by omega)]
        rfl
      rw [e]
      cases hy : f (sp.toNatClampNeg + i) with
      | none => exact ⟨rfl, trivial⟩
      | some y =>
        obtain ⟨cellV, g1, g2, ⟨kC, hkC⟩, hasg⟩ := hel i hi y hy
        obtain ⟨kE, hkE, -⟩ := Vm.findClass_spec r3
        obtain ⟨kC', hkC', -⟩ := hal.2.2 _ _ hkC
        obtain ⟨kE', hkE', -⟩ := hal.2.2 _ _ hkE
        refine ⟨rfl, cellV, (show T.heap[y]? = some cellV by rw [hT]; exact g1), (fun q h => by rw [h] at g2; cases g2), ⟨kC', hkC'⟩, ?_, ?_⟩
        · exact ⟨kE', hkE'⟩
        · show vm₁.assignable _ _ = true
          rw [hal.assignable]
          exact hasg _ r3)
    (g := F0 m pc ls (.int n :: .int dp :: .ref a1 :: .int sp :: .ref a0 :: rest)) rfl (by rw [hml]) (rest := rest) rfl (by rw [hb]; exact hdg) hR1 (by show 2 * 0 + _ + _ ≤ _; omega)
  have e1 : copied (vp_cell (dA 2) (n0, .inr (.inr (.inr (.inr f))))) (vp_cell (dA 2) (n1, .inr (.inr (.inr (.inr g))))) sp dp n = vp_cell (dA 2) (n1, .inr (.inr (.inr (.inr (va_cpy f g sp.toNatClampNeg dp.toNatClampNeg n.toNatClampNeg))))) := by
    rw [vp_cell_q, vp_cell_q, vp_cell_q]
    exact va_copied (fun z => va_rf z) (dA 2) (dA 2) f g h4
  rw [e1] at X' step
  have hl : a1 < H.size := (Array.getElem?_eq_some_iff.mp hc1).1
  generalize hnc : vp_cell (dA 2) (n1, .inr (.inr (.inr (.inr (va_cpy f g sp.toNatClampNeg dp.toNatClampNeg n.toNatClampNeg))))) = nc at X' step
  have hheap : ((T.setVm vm').setCell a1 nc).heap = H.setIfInBounds a1 nc := by rw [← hT]; rfl
  have oq : ∀ q : Nat, q ≠ a1 → (H.setIfInBounds a1 nc)[q]? = H[q]? := fun q hq => by simp [Array.getElem?_setIfInBounds, Ne.symm hq]
  obtain ⟨t, b1, b2⟩ := kk (H.setIfInBounds a1 nc) _ (hP.set hD hw1 (show (H.setIfInBounds a1 nc)[a1]? = some _ by rw [hnc]; simp [Array.getElem?_setIfInBounds, hl]) oq) (by simp) oq (fun z hz => by
      rcases List.mem_append.mp hz with h | h
      · exact Or.inl h
      · obtain ⟨w, -, hw⟩ := List.mem_map.mp h
        exact Or.inr (by rw [← hw])) _ hheap X'
  exact ⟨t, step t b1, b2⟩
end QCP
end
section
/-! Each instruction that changes the pure state: the machine follows. -/
theorem q_gset {ws : va_W} {q0 q1 : Nat} {e : Nat × va_E} (h : q1 ≠ q0) : (ws.set q0 e)[q1]? = ws[q1]? := by
  rw [List.getElem?_set]
  rw [if_neg (Ne.symm h)]
theorem q_gset0 {ws : va_W} {q0 : Nat} {e e0 : Nat × va_E} (h : ws[q0]? = some e0) : (ws.set q0 e)[q0]? = some e := by
  rw [List.getElem?_set, if_pos rfl, if_pos (List.getElem?_eq_some_iff.mp h).1]
section QR
variable {D : va_G} {dA : Nat → ClassId} {x : q_S} {ws : va_W} {H H1 : Heap}
theorem q_Rw_putF {ci k a q0 : Nat} {fs : List Value} {q : vw_C} {v : Value} (h : q_Rw D dA x ws H) (hq : qC[ci]? = some q) (hk : k < q.2.2) (hlen : fs.length = q.2.2) (hfs : ∀ j : Nat, j < q.2.2 → fs[j]? = some (q_fd x ci j a)) (hw : ws[q0]? = some (a, .inr (ci, fs))) (hP1 : va_P D qC (ws.set q0 (a, .inr (ci, fs.set k v))) H1) : q_Rw D dA (q_putF x ci k a v) (ws.set q0 (a, .inr (ci, fs.set k v))) H1 := by
  obtain ⟨hP, hD, hO, hAi, hAr, hu1, hu2⟩ := h
  refine ⟨hP1, hD.set hw, fun cj b hal => ?_, fun t b n f hf => ?_, fun t b n f hf => ?_, hu1, hu2⟩
  · obtain ⟨q1, fs', q', hq', hw', hlen', hfs'⟩ := hO cj b hal
    by_cases hc : q1 = q0
    · subst hc
      cases hw.symm.trans hw'
      cases hq.symm.trans hq'
      refine ⟨q1, fs.set k v, q, hq, q_gset0 hw, by rw [List.length_set]; exact hlen, fun j hj => ?_⟩
      rw [List.getElem?_set]
      by_cases hjk : k = j
      · subst hjk
        rw [if_pos rfl, if_pos (by omega)]
        show some v = some (if _ then v else _)
        rw [if_pos ⟨rfl, rfl, rfl⟩]
      · rw [if_neg hjk, hfs j hj]
        show some _ = some (if _ then v else _)
        rw [if_neg (fun z => hjk z.2.1.symm)]
    · refine ⟨q1, fs', q', hq', by rw [q_gset hc]; exact hw', hlen', fun j hj => ?_⟩
      rw [hfs' j hj]
      show some _ = some (if _ then v else _)
      rw [if_neg (fun z => hc (hD.1 q1 q0 _ _ hw' hw z.2.2))]
  · obtain ⟨q1, hw'⟩ := hAi t b n f hf
    have hc : q1 ≠ q0 := fun z => by subst z; cases hw.symm.trans hw'
    exact ⟨q1, by rw [q_gset hc]; exact hw'⟩
  · obtain ⟨q1, hw'⟩ := hAr t b n f hf
    have hc : q1 ≠ q0 := fun z => by subst z; cases hw.symm.trans hw'
    exact ⟨q1, by rw [q_gset hc]; exact hw'⟩
theorem q_Rw_putI {t a q0 n : Nat} {f g : Nat → Int32} (h : q_Rw D dA x ws H) (ha : q_ai x t a = some (n, f)) (hw : ws[q0]? = some (a, .inl (dA (q_kd t), n, .inl f))) (hP1 : va_P D qC (ws.set q0 (a, .inl (dA (q_kd t), n, .inl g))) H1) : q_Rw D dA (q_putI x t a n g) (ws.set q0 (a, .inl (dA (q_kd t), n, .inl g))) H1 := by
  obtain ⟨hP, hD, hO, hAi, hAr, hu1, hu2⟩ := h
  have old : ∀ (u b : Nat) (y : Nat × (Nat → Int32)), q_ai (q_putI x t a n g) u b = some y → ∃ z, q_ai x u b = some z := by
    intro u b y hy
    have hy : (if u = t ∧ b = a then some (n, g) else q_ai x u b) = some y := hy
    by_cases hc : u = t ∧ b = a
    · exact ⟨_, by rw [hc.1, hc.2]; exact ha⟩
    · rw [if_neg hc] at hy; exact ⟨_, hy⟩
  refine ⟨hP1, hD.set hw, fun cj b hal => ?_, fun u b n' f' hf => ?_, fun u b n' f' hf => ?_, fun u u' b y z hy hz => ?_, hu2⟩
  · obtain ⟨q1, fs', q', hq', hw', hlen', hfs'⟩ := hO cj b hal
    have hc : q1 ≠ q0 := fun z => by subst z; have h9 := hw.symm.trans hw'; simp at h9
    exact ⟨q1, fs', q', hq', by rw [q_gset hc]; exact hw', hlen', hfs'⟩
  · have hf2 : (if u = t ∧ b = a then some (n, g) else q_ai x u b) = some (n', f') := hf
    by_cases hc : u = t ∧ b = a
    · rw [if_pos hc] at hf2
      cases hf2
      rw [hc.1, hc.2]
      exact ⟨q0, q_gset0 hw⟩
    · rw [if_neg hc] at hf2
      obtain ⟨q1, hw'⟩ := hAi u b n' f' hf2
      have hne : q1 ≠ q0 := fun z => by
        subst z
        have hb : b = a := congrArg (fun o : Nat × va_E => o.1) (Option.some.inj (hw'.symm.trans hw))
        subst hb
        exact hc ⟨hu1 u t b _ _ hf2 ha, rfl⟩
      exact ⟨q1, by rw [q_gset hne]; exact hw'⟩
  · obtain ⟨q1, hw'⟩ := hAr u b n' f' hf
    have hc : q1 ≠ q0 := fun z => by subst z; have h9 := hw.symm.trans hw'; simp at h9
    exact ⟨q1, by rw [q_gset hc]; exact hw'⟩
  · obtain ⟨y', hy'⟩ := old u b y hy
    obtain ⟨z', hz'⟩ := old u' b z hz
    exact hu1 u u' b y' z' hy' hz'
theorem q_Rw_putR {t a q0 n : Nat} {f g : Nat → Option Nat} (h : q_Rw D dA x ws H) (ha : q_ar x t a = some (n, f)) (hw : ws[q0]? = some (a, .inl (dA 2, n, .inr (.inr (.inr (.inr f)))))) (hP1 : va_P D qC (ws.set q0 (a, .inl (dA 2, n, .inr (.inr (.inr (.inr g)))))) H1) : q_Rw D dA (q_putR x t a n g) (ws.set q0 (a, .inl (dA 2, n, .inr (.inr (.inr (.inr g)))))) H1 := by
  obtain ⟨hP, hD, hO, hAi, hAr, hu1, hu2⟩ := h
  have old : ∀ (u b : Nat) (y : Nat × (Nat → Option Nat)), q_ar (q_putR x t a n g) u b = some y → ∃ z, q_ar x u b = some z := by
    intro u b y hy
    have hy : (if u = t ∧ b = a then some (n, g) else q_ar x u b) = some y := hy
    by_cases hc : u = t ∧ b = a
    · exact ⟨_, by rw [hc.1, hc.2]; exact ha⟩
    · rw [if_neg hc] at hy; exact ⟨_, hy⟩
  refine ⟨hP1, hD.set hw, fun cj b hal => ?_, fun u b n' f' hf => ?_, fun u b n' f' hf => ?_, hu1, fun u u' b y z hy hz => ?_⟩
  · obtain ⟨q1, fs', q', hq', hw', hlen', hfs'⟩ := hO cj b hal
    have hc : q1 ≠ q0 := fun z => by subst z; have h9 := hw.symm.trans hw'; simp at h9
    exact ⟨q1, fs', q', hq', by rw [q_gset hc]; exact hw', hlen', hfs'⟩
  · obtain ⟨q1, hw'⟩ := hAi u b n' f' hf
    have hc : q1 ≠ q0 := fun z => by subst z; have h9 := hw.symm.trans hw'; simp at h9
    exact ⟨q1, by rw [q_gset hc]; exact hw'⟩
  · have hf2 : (if u = t ∧ b = a then some (n, g) else q_ar x u b) = some (n', f') := hf
    by_cases hc : u = t ∧ b = a
    · rw [if_pos hc] at hf2
      cases hf2
      rw [hc.2]
      exact ⟨q0, q_gset0 hw⟩
    · rw [if_neg hc] at hf2
      obtain ⟨q1, hw'⟩ := hAr u b n' f' hf2
      have hne : q1 ≠ q0 := fun z => by
        subst z
        have hb : b = a := congrArg (fun o : Nat × va_E => o.1) (Option.some.inj (hw'.symm.trans hw))
        subst hb
        exact hc ⟨hu2 u t b _ _ hf2 ha, rfl⟩
      exact ⟨q1, by rw [q_gset hne]; exact hw'⟩
  · obtain ⟨y', hy'⟩ := old u b y hy
    obtain ⟨z', hz'⟩ := old u' b z hz
    exact hu2 u u' b y' z' hy' hz'
theorem q_gapp {q1 : Nat} {e o : Nat × va_E} (h : ws[q1]? = some o) : (ws ++ [e])[q1]? = some o := by
  rw [List.getElem?_append_left (List.getElem?_eq_some_iff.mp h).1]; exact h
theorem q_gapp0 {e : Nat × va_E} : (ws ++ [e])[ws.length]? = some e := by
  rw [List.getElem?_append_right (Nat.le_refl _), Nat.sub_self]; rfl
theorem q_P1 {e : Nat × va_E} (hP : va_P D qC ws H) (hz : ∀ q : Nat, q < H.size → H1[q]? = H[q]?) (he : va_at D qC e H1) : va_P D qC (ws ++ [e]) H1 := by
  refine (hP.kept (fun k o ho => hz o.1 ((hP k o ho).lt))).app (fun k o ho => ?_)
  have hk : k < 1 := (List.getElem?_eq_some_iff.mp ho).1
  rw [show k = 0 by omega] at ho
  cases ho
  exact he
theorem q_D1 {A B : Nat → Prop} {a : Nat} {e : va_E} (hP : va_P D qC ws H) (hD : va_D A ws) (ha : a = H.size) (hAB : ∀ q, A q → B q) (hB : B a) : va_D B (ws ++ [(a, e)]) :=
  va_D.push (hD.weaken (fun _ _ _ z => hAB _ z)) hP ha hB
theorem q_Rw_newO {ci : Nat} {q : vw_C} {fs : List Value} (h : q_Rw D dA x ws H) (hz : H.size = q_sz x) (hz1 : ∀ q : Nat, q < H.size → H1[q]? = H[q]?) (hq : qC[ci]? = some q) (hlen : fs.length = q.2.2) (he : va_at D qC (q_sz x, .inr (ci, fs)) H1) : q_Rw D dA (q_newO x ci fs.length (vp_V fs)) (ws ++ [(q_sz x, .inr (ci, fs))]) H1 := by
  obtain ⟨hP, hD, hO, hAi, hAr, hu1, hu2⟩ := h
  have own1 : ∀ a, q_ow x a = true → q_ow (q_newO x ci fs.length (vp_V fs)) a = true := fun a ha => by
    show (if a = q_sz x then true else q_ow x a) = true
    split
    · rfl
    · exact ha
  refine ⟨q_P1 hP hz1 he, q_D1 hP hD hz.symm own1 (by show (if q_sz x = q_sz x then true else _) = true; rw [if_pos rfl]), fun cj b hal => ?_, fun t b n f hf => ?_, fun t b n f hf => ?_, hu1, hu2⟩
  · have hal : (if cj = ci ∧ b = q_sz x then true else q_al x cj b) = true := hal
    by_cases hc : cj = ci ∧ b = q_sz x
    · rw [hc.1, hc.2]
      refine ⟨ws.length, fs, q, hq, q_gapp0, hlen, fun k hk => ?_⟩
      show _ = some (if ci = ci ∧ q_sz x = q_sz x then vp_V fs k else _)
      rw [if_pos ⟨rfl, rfl⟩]
      unfold vp_V
      rw [List.getD_eq_getElem?_getD, List.getElem?_eq_getElem (by omega)]
      rfl
    · rw [if_neg hc] at hal
      obtain ⟨q1, fs', q', hq', hw', hlen', hfs'⟩ := hO cj b hal
      refine ⟨q1, fs', q', hq', q_gapp hw', hlen', fun k hk => ?_⟩
      show _ = some (if cj = ci ∧ b = q_sz x then vp_V fs k else _)
      rw [if_neg hc]
      exact hfs' k hk
  · obtain ⟨q1, hw'⟩ := hAi t b n f hf
    exact ⟨q1, q_gapp hw'⟩
  · obtain ⟨q1, hw'⟩ := hAr t b n f hf
    exact ⟨q1, q_gapp hw'⟩
theorem q_Rw_newI {t n : Nat} (h : q_Rw D dA x ws H) (hz : H.size = q_sz x) (hz1 : ∀ q : Nat, q < H.size → H1[q]? = H[q]?) (he : va_at D qC (q_sz x, .inl (dA (q_kd t), n, .inl (fun _ => 0))) H1) : q_Rw D dA (q_newI x t n) (ws ++ [(q_sz x, .inl (dA (q_kd t), n, .inl (fun _ => 0)))]) H1 := by
  obtain ⟨hP, hD, hO, hAi, hAr, hu1, hu2⟩ := h
  have own1 : ∀ a, q_ow x a = true → q_ow (q_newI x t n) a = true := fun a ha => by
    show (if a = q_sz x then true else q_ow x a) = true
    split
    · rfl
    · exact ha
  have no : ∀ (u : Nat) (y : Nat × (Nat → Int32)), ¬ q_ai x u (q_sz x) = some y := fun u y hy => by
    obtain ⟨q1, hw'⟩ := hAi u (q_sz x) y.1 y.2 hy
    have := (hP q1 _ hw').lt
    rw [hz] at this
    exact absurd this (Nat.lt_irrefl _)
  refine ⟨q_P1 hP hz1 he, q_D1 hP hD hz.symm own1 (by show (if q_sz x = q_sz x then true else _) = true; rw [if_pos rfl]), fun cj b hal => ?_, fun u b n' f hf => ?_, fun u b n' f hf => ?_, fun u u' b y z hy hz' => ?_, hu2⟩
  · obtain ⟨q1, fs', q', hq', hw', hlen', hfs'⟩ := hO cj b hal
    exact ⟨q1, fs', q', hq', q_gapp hw', hlen', hfs'⟩
  · have hf2 : (if u = t ∧ b = q_sz x then some (n, fun _ => 0) else q_ai x u b) = some (n', f) := hf
    by_cases hc : u = t ∧ b = q_sz x
    · rw [if_pos hc] at hf2
      cases hf2
      rw [hc.1, hc.2]
      exact ⟨ws.length, q_gapp0⟩
    · rw [if_neg hc] at hf2
      obtain ⟨q1, hw'⟩ := hAi u b n' f hf2
      exact ⟨q1, q_gapp hw'⟩
  · obtain ⟨q1, hw'⟩ := hAr u b n' f hf
    exact ⟨q1, q_gapp hw'⟩
  · have hy : (if u = t ∧ b = q_sz x then some (n, fun _ => 0) else q_ai x u b) = some y := hy
    have hz' : (if u' = t ∧ b = q_sz x then some (n, fun _ => 0) else q_ai x u' b) = some z := hz'
    by_cases hc : u = t ∧ b = q_sz x
    · by_cases hc' : u' = t ∧ b = q_sz x
      · rw [hc.1, hc'.1]
      · rw [if_neg hc', hc.2] at hz'
        exact absurd hz' (no _ _)
    · by_cases hc' : u' = t ∧ b = q_sz x
      · rw [if_neg hc, hc'.2] at hy
        exact absurd hy (no _ _)
      · rw [if_neg hc] at hy
        rw [if_neg hc'] at hz'
        exact hu1 u u' b y z hy hz'
theorem q_Rw_newR {t n : Nat} (h : q_Rw D dA x ws H) (hz : H.size = q_sz x) (hz1 : ∀ q : Nat, q < H.size → H1[q]? = H[q]?) (he : va_at D qC (q_sz x, .inl (dA 2, n, .inr (.inr (.inr (.inr (fun _ => none)))))) H1) : q_Rw D dA (q_newR x t n) (ws ++ [(q_sz x, .inl (dA 2, n, .inr (.inr (.inr (.inr (fun _ => none))))))]) H1 := by
  obtain ⟨hP, hD, hO, hAi, hAr, hu1, hu2⟩ := h
  have own1 : ∀ a, q_ow x a = true → q_ow (q_newR x t n) a = true := fun a ha => by
    show (if a = q_sz x then true else q_ow x a) = true
    split
    · rfl
    · exact ha
  have no : ∀ (u : Nat) (y : Nat × (Nat → Option Nat)), ¬ q_ar x u (q_sz x) = some y := fun u y hy => by
    obtain ⟨q1, hw'⟩ := hAr u (q_sz x) y.1 y.2 hy
    have := (hP q1 _ hw').lt
    rw [hz] at this
    exact absurd this (Nat.lt_irrefl _)
  refine ⟨q_P1 hP hz1 he, q_D1 hP hD hz.symm own1 (by show (if q_sz x = q_sz x then true else _) = true; rw [if_pos rfl]), fun cj b hal => ?_, fun u b n' f hf => ?_, fun u b n' f hf => ?_, hu1, fun u u' b y z hy hz' => ?_⟩
  · obtain ⟨q1, fs', q', hq', hw', hlen', hfs'⟩ := hO cj b hal
    exact ⟨q1, fs', q', hq', q_gapp hw', hlen', hfs'⟩
  · obtain ⟨q1, hw'⟩ := hAi u b n' f hf
    exact ⟨q1, q_gapp hw'⟩
  · have hf2 : (if u = t ∧ b = q_sz x then some (n, fun _ => none) else q_ar x u b) = some (n', f) := hf
    by_cases hc : u = t ∧ b = q_sz x
    · rw [if_pos hc] at hf2
      cases hf2
      rw [hc.2]
      exact ⟨ws.length, q_gapp0⟩
    · rw [if_neg hc] at hf2
      obtain ⟨q1, hw'⟩ := hAr u b n' f hf2
      exact ⟨q1, q_gapp hw'⟩
  · have hy : (if u = t ∧ b = q_sz x then some (n, fun _ => none) else q_ar x u b) = some y := hy
    have hz' : (if u' = t ∧ b = q_sz x then some (n, fun _ => none) else q_ar x u' b) = some z := hz'
    by_cases hc : u = t ∧ b = q_sz x
    · by_cases hc' : u' = t ∧ b = q_sz x
      · rw [hc.1, hc'.1]
      · rw [if_neg hc', hc.2] at hz'
        exact absurd hz' (no _ _)
    · by_cases hc' : u' = t ∧ b = q_sz x
      · rw [if_neg hc, hc'.2] at hy
        exact absurd hy (no _ _)
      · rw [if_neg hc] at hy
        rw [if_neg hc'] at hz'
        exact hu2 u u' b y z hy hz'
end QR
end
section
/-! Each instruction that changes the pure state: the machine follows. -/
theorem q_updI (f : Nat → Int32) (i : Nat) (v : Int32) : updV (fun j => Value.int (f j)) i (.int v) = fun j => Value.int (upd f i v j) := by
  funext j
  by_cases hj : j = i
  · subst hj; simp [updV, upd]
  · simp [updV, upd, hj]
theorem q_updR (f : Nat → Option Nat) (i : Nat) (r : Option Nat) : updV (fun j => va_rf (f j)) i (va_rf r) = fun j => va_rf (va_up f i r j) := by
  funext j
  by_cases hj : j = i
  · subst hj; simp [updV, va_up]
  · simp [updV, va_up, hj]
section QS2
variable {p : Program} {l : Launch} {e : Env} {R : Room} {s : State} {m : MethodId} {args : Array Value} {below : List Frame} {meth : Method} {c : Code} {H : Heap} {locs : List Loc} {cells slots : Nat} {Q : State → Prop}
variable {M : q_M} {D : va_G} {dA : Nat → ClassId} {x0 x x' : q_S} {pc pc' len : Nat} {ins : ClassFile.Instr} {ls : Array Slot} {lv lv' : List (Nat × Value)} {st st' : List Value}
set_option maxHeartbeats 4000000 in
theorem q_Wput (X : q_Cx p s m args meth c M D dA x0) (I : q_In D dA x0 s.heap x H locs) {idx a : Nat} {en : q_F} {v : Value} {rest : List Value} (hd : decode M.2.1 pc = .ok (.putfield idx, 3)) (he : en ∈ q_FL) (h1 : en.1 = M.1.cls) (h2 : en.2.1 = idx) (hal : q_al x en.2.2.1 a = true) (hna : narrow en.2.2.2.2.2.2.1 v = v) (hfi : fits en.2.2.2.2.2.2.1 v = true) (hff : en.2.2.2.2.2.2.2 = false ∨ (en.2.2.2.2.2.1 = none ∧ M.1.name = "<init>"))
    (k : ∀ (H1 : Heap) (locs1 : List Loc), q_In D dA x0 s.heap (q_putF x en.2.2.1 en.2.2.2.1 a v) H1 locs1 → W p l e R s m args below meth c H1 locs1 cells slots Q (F0 m (pc + 3) ls rest)) : W p l e R s m args below meth c H locs cells slots Q (F0 m pc ls (v :: .ref a :: rest)) := by
  obtain ⟨hx, hb, hml, hown, hts, hKv, hKh, hnm, hsz⟩ := X
  obtain ⟨⟨ws, hRw⟩, hHz, hMo, hS⟩ := I
  have hRw0 := hRw
  obtain ⟨hP, hD, hO, hAi, hAr, -, -⟩ := hRw0
  have hK := hKv.1
  obtain ⟨q, hq, hk, hty, hfin, hlink, hsm, hde⟩ := q_FLok en he
  obtain ⟨own, idx', ci, fk, ref, host, ty, fin⟩ := en
  dsimp only at h1 h2 hq hk hty hfin hlink hsm hde hal hna hfi hff k ⊢
  subst h1 h2
  obtain ⟨q0, fs, q', hq', hw, hlen, hfs⟩ := hO ci a hal
  cases hq.symm.trans hq'
  obtain ⟨tyf, hin, htyf, hnmf⟩ := q_Cok ci q hq
  have hap := va_apart (own := M.1.cls) hts hin tyf htyf hnmf hK hq
  obtain ⟨r, hr1, cell, q1, q2, q3, q4⟩ := hP q0 _ hw
  have hr : r = q := Option.some.inj (hr1.symm.trans hq)
  subst hr
  obtain ⟨hSl, hfc, kC, hkC, hkind⟩ := hK.1 ci _ hq
  obtain ⟨cf, kf, fi, f, hi, hsl⟩ := hSl fk hk
  have hst := (u_facts hfc hkC (u_lays hts hin hk) hi).1
  have hlay := hts _ (hin _ (u_in_lay hk))
  have hA : q_A x0 a := hMo.2.2.1 a (hD.2 q0 _ hw)
  have fin0 : ∀ H' : Heap, H'[a]? = some (cell.setSlot f.slot v) → H'.size = H.size → (∀ z, z ≠ a → H'[z]? = H[z]?) → W p l e R s m args below meth c H' (locs ++ [⟨a, f.slot⟩]) cells slots Q (F0 m (pc + 3) ls rest) := by
    intro H' e1 e2 e3
    rw [hsl] at e1 ⊢
    exact k H' _ ⟨⟨_, q_Rw_putF hRw hq hk hlen hfs hw (hP.set hD hw ⟨_, hq, t_OB.to (V := updV (vp_V fs) fk v) ⟨_, e1, q2, q3, t_set q4 hap hk v⟩ (fun j _ => vp_updV_set (by omega) v j)⟩ e3)⟩, e2.trans hHz, hMo, hS.put e2 e3 hA⟩
  cases fin with
  | false =>
    unfold u_lay at hlay
    rw [if_neg (by rw [hfin]; decide)] at hlay
    have h6 := u_store hfc hkC hkind hlay hi hty hna hfi
    cases host with
    | none => exact W.putK hx hb (f := f) ⟨hown, hts _ hlink, ⟨_, _, _, q_same hts hsm _ hi⟩, hst⟩ (by rw [q2]; exact h6) q1 q3 (by rw [hsl]; exact k2_hasslot (q4 fk hk)) rfl rfl hd fin0
    | some ho => exact va_WputK hx hb (f := f) hown (va_Nw.use rfl (hKv.2.1 _ hlink)) (q_same hts hsm _ hi) hst (by rw [q2]; exact h6) q1 q3 (by rw [hsl]; exact k2_hasslot (q4 fk hk)) rfl rfl hd fin0
  | true =>
    rcases hff with hff | ⟨hff, hini⟩
    · cases hff
    · subst hff
      unfold u_lay at hlay
      rw [if_pos hfin] at hlay
      have hcf : m.cls = cf := by
        obtain ⟨_, _, c', _, _, _, -, -, hf', -, -, -, hown2, -⟩ := Cond.laysFinal_spec hlay
        have e1 : c' = cf := by have := hi.symm.trans hf'; simp at this; exact this.1.symm
        rw [hde rfl rfl] at hown2
        rw [← e1]; exact Option.some.inj (hown.symm.trans hown2)
      have h6 := u_fits hfc hkC hkind (Or.inr hlay) hi hty hna hfi
      exact W.putFinK hx hb hown (hts _ hlink) (q_same hts hsm _ hi) hst hcf (hnm.trans hini) (by rw [q2]; exact h6) q1 q3 (by rw [hsl]; exact k2_hasslot (q4 fk hk)) rfl rfl hd fin0
set_option maxHeartbeats 4000000 in
theorem q_S2 (X : q_Cx p s m args meth c M D dA x0) (hR1 : 1 ≤ R.frames) (hR2 : 64 ≤ R.locals) (hl : lv_has ls M.2.2.1 lv) (I : q_In D dA x0 s.heap x H locs) (hd : decode M.2.1 pc = .ok (ins, len)) (h : q_hp M pc ins len lv st x pc' lv' st' x') (hc1 : q_sz x' - q_sz x0 ≤ R.cells) (hc2 : q_sl x' - q_sl x0 ≤ R.slots)
    (k : ∀ (ls' : Array Slot) (H1 : Heap) (locs1 : List Loc), lv_has ls' M.2.2.1 lv' → q_In D dA x0 s.heap x' H1 locs1 → W p l e R s m args below meth c H1 locs1 (q_sz x' - q_sz x0) (q_sl x' - q_sl x0) Q (F0 m pc' ls' st')) : W p l e R s m args below meth c H locs (q_sz x - q_sz x0) (q_sl x - q_sl x0) Q (F0 m pc ls st) := by
  cases ins with
  | putfield idx =>
    obtain ⟨rfl, rfl, rfl, en, a, v, he, h1, h2, rfl, hal, hna, hfi, hff, rfl⟩ := h
    exact q_Wput X I hd he h1 h2 hal hna hfi hff (fun H1 locs1 I1 => k ls H1 locs1 hl I1)
  | iastore =>
    obtain ⟨rfl, rfl, rfl, a, t, n, i, v, f, rfl, hkd, ha, hin, rfl⟩ := h
    obtain ⟨hx, hb, hml, hown, hts, hKv, hKh, hnm, hsz⟩ := X
    obtain ⟨⟨ws, hRw⟩, hHz, hMo, hS⟩ := I
    have hRw0 := hRw
    obtain ⟨hP, hD, hO, hAi, hAr, -, -⟩ := hRw0
    obtain ⟨q0, hw⟩ := hAi t a n f ha
    have hA : q_A x0 a := hMo.2.2.1 a (hD.2 q0 _ hw)
    have hcell := hP q0 _ hw
    have hcl : dA (q_kd t) = dA 0 := by rw [hkd]
    refine W.iast hx hb hcell (by rw [hcl]; exact (hKv.1.2 0 _ rfl).1 n (fun j => .int (f j))) (fun q => by cases q) (by show ¬ (i < 0 ∨ (arrV _ _ _).slots.size ≤ _); rw [arrV_size]; exact hin) rfl rfl hd fun H1 e1 z1 oq => ?_
    refine k ls H1 _ hl ⟨⟨_, q_Rw_putI hRw ha hw (hP.set hD hw ?_ oq)⟩, z1.trans hHz, hMo, hS.put z1 oq hA⟩
    show H1[a]? = some (vp_cell _ _)
    rw [e1, vp_cell_i, vp_cell_i, arrV_store, q_updI]
  | bastore =>
    obtain ⟨rfl, rfl, rfl, a, t, n, i, v, f, rfl, hkd, ha, hin, rfl⟩ := h
    obtain ⟨hx, hb, hml, hown, hts, hKv, hKh, hnm, hsz⟩ := X
    obtain ⟨⟨ws, hRw⟩, hHz, hMo, hS⟩ := I
    have hRw0 := hRw
    obtain ⟨hP, hD, hO, hAi, hAr, -, -⟩ := hRw0
    obtain ⟨q0, hw⟩ := hAi t a n f ha
    have hA : q_A x0 a := hMo.2.2.1 a (hD.2 q0 _ hw)
    have hcell := hP q0 _ hw
    have hcl : dA (q_kd t) = dA 1 := by rw [hkd]
    refine W.zast hx hb hcell (by rw [hcl]; exact (hKv.1.2 1 _ rfl).1 n (fun j => .int (f j))) (fun q => by cases q) (by show ¬ (i < 0 ∨ (arrV _ _ _).slots.size ≤ _); rw [arrV_size]; exact hin) rfl rfl hd fun H1 e1 z1 oq => ?_
    refine k ls H1 _ hl ⟨⟨_, q_Rw_putI hRw ha hw (hP.set hD hw ?_ oq)⟩, z1.trans hHz, hMo, hS.put z1 oq hA⟩
    show H1[a]? = some (vp_cell _ _)
    rw [e1, vp_cell_i, vp_cell_i, arrV_store]
    show some (arrV _ n (updV _ _ (.int (v &&& 1)))) = _
    rw [q_updI]
  | aastore =>
    obtain ⟨rfl, rfl, rfl, a, t, n, i, r, f, rfl, ha, hin, hr, rfl⟩ := h
    obtain ⟨hx, hb, hml, hown, hts, hKv, hKh, hnm, hsz⟩ := X
    obtain ⟨⟨ws, hRw⟩, hHz, hMo, hS⟩ := I
    have hRw0 := hRw
    obtain ⟨hP, hD, hO, hAi, hAr, -, -⟩ := hRw0
    obtain ⟨q0, hw⟩ := hAr t a n f ha
    have hA : q_A x0 a := hMo.2.2.1 a (hD.2 q0 _ hw)
    have hcell := hP q0 _ hw
    have hK := hKv.1
    have hlt : i.toNatClampNeg < n := Nat.not_le.mp fun q => hin (Or.inr q)
    have hn0 : ¬ i < 0 := fun q => hin (Or.inl q)
    have fin0 : ∀ H1 : Heap, H1[a]? = some ((vp_cell (dA 2) (n, .inr (.inr (.inr (.inr f))))).setSlot i.toNatClampNeg (va_rf r)) → H1.size = H.size → (∀ z, z ≠ a → H1[z]? = H[z]?) → W p l e R s m args below meth c H1 (locs ++ [⟨a, i.toNatClampNeg⟩]) (q_sz x - q_sz x0) (q_sl x - q_sl x0) Q (F0 m (pc + 1) ls st') := by
      intro H1 e1 z1 oq
      refine k ls H1 _ hl ⟨⟨_, q_Rw_putR hRw ha hw (hP.set hD hw ?_ oq)⟩, z1.trans hHz, hMo, hS.put z1 oq hA⟩
      show H1[a]? = some (vp_cell _ _)
      rw [e1, vp_cell_q, vp_cell_q, arrV_store, q_updR]
    cases r with
    | none => exact va_WaastN (C := "java/lang/Object") hx hb hcell ((hK.2 2 _ rfl).1 n (fun j => va_rf (f j))) (fun q => by cases q) (by show ¬ (i < 0 ∨ (arrV _ _ _).slots.size ≤ _); rw [arrV_size]; exact hin) rfl rfl hd fin0
    | some v =>
      obtain ⟨ci, hal, hca⟩ := hr v rfl
      obtain ⟨qk, fs, q, hq, hwv, -, -⟩ := hO ci v hal
      obtain ⟨r', hr', cellV, g1, g2, g3, -⟩ := hP qk _ hwv
      have hcls := (hK.1 ci q hq).2
      obtain ⟨kA, comp, k1, k2, k3, -⟩ := (hK.2 2 _ rfl).2
      obtain ⟨kE, hkE, -⟩ := Vm.findClass_spec k3
      obtain ⟨c0, t1, f1, f2, f3⟩ := Cond.castable_spec (va_Nw.use (A := args) rfl (hKv.2.1 _ (q_ALok ci q hca hq)))
      cases hcls.1.symm.trans f1
      cases k3.symm.trans f2
      obtain ⟨kC, hkC, -⟩ := hcls.2
      exact W.aast hx hb hcell (fun q h => by cases h) (fun h => by cases h) k1 k2 rfl hkE ⟨hn0, by show _ < (arrV _ _ _).slots.size; rw [arrV_size]; exact hlt⟩ g1 (fun q h => by rw [g3] at h; cases h) (by rw [g2]; exact hkC) (by rw [g2]; exact f3) rfl rfl hd fin0
  | new idx =>
    obtain ⟨rfl, rfl, rfl, en, he, h1, h2, rfl, rfl⟩ := h
    obtain ⟨hx, hb, hml, hown, hts, hKv, hKh, hnm, hsz⟩ := X
    obtain ⟨⟨ws, hRw⟩, hHz, hMo, hS⟩ := I
    obtain ⟨q, tyf, hq, hlen, htyf, hdv, hcl, hins, hini⟩ := q_NLok en he
    obtain ⟨own, idx', ci, fs⟩ := en
    dsimp only at h1 h2 hq hlen hdv hcl hins hini hc1 hc2 k ⊢
    subst h1 h2
    obtain ⟨tyf', hin, -, -⟩ := q_Cok ci q hq
    have hKn := hKv.1.1 ci _ hq
    have hm1 := hMo.1
    have hm2 := hMo.2.1
    have ec : q_sz x + 1 - q_sz x0 = (q_sz x - q_sz x0) + 1 := by omega
    have es : q_sl x + fs.length - q_sl x0 = (q_sl x - q_sl x0) + fs.length := by omega
    have hc1 : q_sz x + 1 - q_sz x0 ≤ R.cells := hc1
    have hc2 : q_sl x + fs.length - q_sl x0 ≤ R.slots := hc2
    refine W.newcK hx hb hown (hts _ hcl) (hts _ hins) (hts _ hini) rfl hd (by omega) (by omega) hKn.2.1 hHz fun H1 kC hkC e1 z1 o1 => ?_
    have hz1 : ∀ z : Nat, z < H.size → H1[z]? = H[z]? := fun z hz => o1 z (by omega)
    have hat : va_at D qC (q_sz x, .inr (ci, fs)) H1 := ⟨_, hq, (u_born tyf hts hin hKn hkC e1 htyf).to (fun j hj => hdv j hj)⟩
    have I1 : q_In D dA x0 s.heap (q_newO x ci fs.length (vp_V fs)) H1 locs := ⟨⟨_, q_Rw_newO hRw hHz hz1 hq hlen hat⟩, z1, ⟨Nat.le_trans hm1 (Nat.le_succ _), Nat.le_trans hm2 (Nat.le_add_right _ _), fun b hb' => by
        have hb' : (if b = q_sz x then true else q_ow x b) = true := hb'
        by_cases hbz : b = q_sz x
        · exact Or.inr (by omega)
        · rw [if_neg hbz] at hb'; exact hMo.2.2.1 b hb', hMo.2.2.2⟩, ⟨Nat.le_trans hS.1 (by omega), fun z h1 h2 => (hz1 z (Nat.lt_of_lt_of_le h1 hS.1)).trans (hS.2.1 z h1 h2), hS.2.2⟩⟩
    exact W.cs ec.symm (by rw [← hlen]; exact es.symm) (k ls H1 locs hl I1)
  | newarray ty =>
    obtain ⟨rfl, rfl, rfl, v, t, rest, rfl, hn0, hnb, hty, rfl, rfl⟩ := h
    obtain ⟨hx, hb, hml, hown, hts, hKv, hKh, hnm, hsz⟩ := X
    obtain ⟨⟨ws, hRw⟩, hHz, hMo, hS⟩ := I
    have hm1 := hMo.1
    have hm2 := hMo.2.1
    generalize hN : v.toNatClampNeg = N at *
    have ec : q_sz x + 1 - q_sz x0 = (q_sz x - q_sz x0) + 1 := by omega
    have es : q_sl x + N - q_sl x0 = (q_sl x - q_sl x0) + N := by omega
    have hc1 : q_sz x + 1 - q_sz x0 ≤ R.cells := hc1
    have hc2 : q_sl x + N - q_sl x0 ≤ R.slots := hc2
    have I1 : ∀ H1 : Heap, va_at D qC (q_sz x, .inl (dA (q_kd t), N, .inl (fun _ => 0))) H1 → H1.size = q_sz x + 1 → (∀ z, z < q_sz x → H1[z]? = H[z]?) → q_In D dA x0 s.heap (q_newI x t N) H1 locs := fun H1 hat z1 o1 => by
      have hz1 : ∀ z : Nat, z < H.size → H1[z]? = H[z]? := fun z hz => o1 z (by omega)
      exact ⟨⟨_, q_Rw_newI hRw hHz hz1 hat⟩, z1, ⟨Nat.le_trans hm1 (Nat.le_succ _), Nat.le_trans hm2 (Nat.le_add_right _ _), fun b hb' => by
        have hb' : (if b = q_sz x then true else q_ow x b) = true := hb'
        by_cases hbz : b = q_sz x
        · exact Or.inr (by omega)
        · rw [if_neg hbz] at hb'; exact hMo.2.2.1 b hb', hMo.2.2.2⟩, ⟨Nat.le_trans hS.1 (by omega), fun z h1 h2 => (hz1 z (Nat.lt_of_lt_of_le h1 hS.1)).trans (hS.2.1 z h1 h2), hS.2.2⟩⟩
    rcases hty with ⟨rfl, hkd⟩ | ⟨rfl, hkd⟩
    · refine va_newaK hx hb (hts _ q_arI) rfl hd rfl hn0 hN (show N * 4 ≤ 536870912 by omega) (by omega) (by omega) hHz fun H1 cA e1 z1 o1 hAr hNm => ?_
      have hcA : cA = dA 0 := Option.some.inj (hNm.symm.trans (hKv.1.2 0 _ rfl).2)
      refine W.cs ec.symm es.symm (k ls H1 locs hl (I1 H1 ?_ z1 o1))
      show H1[q_sz x]? = some (vp_cell _ _)
      rw [e1, hkd, hcA]
      rfl
    · refine va_newaK hx hb (hts _ q_arZ) rfl hd rfl hn0 hN (show N * 1 ≤ 536870912 by omega) (by omega) (by omega) hHz fun H1 cA e1 z1 o1 hAr hNm => ?_
      have hcA : cA = dA 1 := Option.some.inj (hNm.symm.trans (hKv.1.2 1 _ rfl).2)
      refine W.cs ec.symm es.symm (k ls H1 locs hl (I1 H1 ?_ z1 o1))
      show H1[q_sz x]? = some (vp_cell _ _)
      rw [e1, hkd, hcA]
      rfl
  | anewarray idx =>
    obtain ⟨rfl, rfl, rfl, he, v, t, rest, rfl, hn0, hnb, rfl, rfl⟩ := h
    obtain ⟨hx, hb, hml, hown, hts, hKv, hKh, hnm, hsz⟩ := X
    obtain ⟨⟨ws, hRw⟩, hHz, hMo, hS⟩ := I
    have hm1 := hMo.1
    have hm2 := hMo.2.1
    have ec : q_sz x + 1 - q_sz x0 = (q_sz x - q_sz x0) + 1 := by omega
    have es : q_sl x + v.toNatClampNeg - q_sl x0 = (q_sl x - q_sl x0) + v.toNatClampNeg := by omega
    have hc1 : q_sz x + 1 - q_sz x0 ≤ R.cells := hc1
    have hc2 : q_sl x + v.toNatClampNeg - q_sl x0 ≤ R.slots := hc2
    refine W.anew hx hb hown (hts _ (q_QLok _ he)) (va_AO.use hKv.2.2.1) rfl hd rfl hn0 (by omega) (by omega) (by omega) fun cA kA comp f1 f2 f3 f4 => ?_
    generalize hH1 : H.push ({ cls := cA, slots := Array.replicate v.toNatClampNeg .null, vm := .none } : Cell) = H1
    have z1 : H1.size = q_sz x + 1 := by rw [← hH1, Array.size_push, hHz]
    have e1 : H1[H.size]? = some (arrV cA v.toNatClampNeg (fun _ => .null)) := by rw [← hH1, Array.getElem?_push_size, ← arrV_new]
    have hz1 : ∀ z : Nat, z < H.size → H1[z]? = H[z]? := fun z hz => by rw [← hH1, Array.getElem?_push, if_neg (Nat.ne_of_lt hz)]
    obtain ⟨kA', comp', r1, r2, r3, r4⟩ := (hKv.1.2 2 _ rfl).2
    have hcA : cA = dA 2 := Option.some.inj (f1.symm.trans r4)
    have hat : va_at D qC (q_sz x, .inl (dA 2, v.toNatClampNeg, .inr (.inr (.inr (.inr (fun _ => none)))))) H1 := by
      show H1[q_sz x]? = some (vp_cell _ _)
      rw [← hHz, e1, hcA]
      rfl
    have I1 : q_In D dA x0 s.heap (q_newR x t v.toNatClampNeg) H1 locs := ⟨⟨_, q_Rw_newR hRw hHz hz1 hat⟩, z1, ⟨Nat.le_trans hm1 (Nat.le_succ _), Nat.le_trans hm2 (Nat.le_add_right _ _), fun b hb' => by
        have hb' : (if b = q_sz x then true else q_ow x b) = true := hb'
        by_cases hbz : b = q_sz x
        · exact Or.inr (by omega)
        · rw [if_neg hbz] at hb'; exact hMo.2.2.1 b hb', hMo.2.2.2⟩, ⟨Nat.le_trans hS.1 (by omega), fun z h1 h2 => (hz1 z (Nat.lt_of_lt_of_le h1 hS.1)).trans (hS.2.1 z h1 h2), hS.2.2⟩⟩
    rw [hHz]
    exact W.cs ec.symm es.symm (k ls H1 locs hl I1)
  | invokestatic idx =>
    obtain ⟨rfl, rfl, rfl, he, hsum, n, dp, sp, a0, a1, t0, t1, n0, n1, f, g, rfl, ha0, ha1, h1, h2, h3, h4, h5, hel, rfl⟩ := h
    obtain ⟨hx, hb, hml, hown, hts, hKv, hKh, hnm, hsz⟩ := X
    obtain ⟨⟨ws, hRw⟩, hHz, hMo, hS⟩ := I
    have hRw0 := hRw
    obtain ⟨hP, hD, hO, hAi, hAr, -, -⟩ := hRw0
    obtain ⟨q0, hw0⟩ := hAr t0 a0 n0 f ha0
    obtain ⟨q1, hw1⟩ := hAr t1 a1 n1 g ha1
    exact q_copy hx hb (hml.trans hl.1.symm) hown (hts _ (q_YLok _ he)) (hts _ q_ac1) (hts _ q_ac2) (hts _ q_ac3) hKv.1 hP hD q0 q1 hw0 hw1 h1 h2 h3 h4 h5 (fun i hi y hy => by
        obtain ⟨ci, hal, hca⟩ := hel i hi y hy
        obtain ⟨qk, fs, q, hq, hwv, -, -⟩ := hO ci y hal
        obtain ⟨c0, t1, f1, f2, f3⟩ := Cond.castable_spec (va_Nw.use (A := args) rfl (hKv.2.1 _ (q_ALok ci q hca hq)))
        exact va_rAny hKv.1 hP hwv hq (fun comp c1 g1 g2 => by
          cases g1.symm.trans f2
          cases g2.symm.trans f1
          exact f3)) hR1 (by omega) hd (fun H1 locs1 hPq z1 oq hL => k ls H1 locs1 hl ⟨⟨_, q_Rw_putR hRw ha1 hw1 hPq⟩, z1.trans hHz, hMo, ⟨Nat.le_trans hS.1 (by omega), fun z g1 g2 => by
            rw [oq z (fun e => g2 (by rw [e]; exact hMo.2.2.1 _ (hD.2 q1 _ hw1)))]
            exact hS.2.1 z g1 g2, fun z hz => by
            rcases hL z hz with hz | hz
            · exact hS.2.2 z hz
            · rw [hz]; exact hMo.2.2.1 _ (hD.2 q1 _ hw1)⟩⟩)
  | _ => exact False.elim h
end QS2
end
section
/-! The whole body, calls and returns; the contract of every call. -/
theorem q_Mo_new {x x' : q_S} {k : Nat} (h1 : q_sz x' = q_sz x + 1) (h2 : q_sl x' = q_sl x + k) (h3 : q_ow x' = fun b => if b = q_sz x then true else q_ow x b) (h4 : q_en x' = q_en x) : q_Mo x x' := by
  refine ⟨by omega, by omega, fun b hb => ?_, h4⟩
  rw [h3] at hb
  by_cases hc : b = q_sz x
  · exact Or.inr (by omega)
  · have hb : (if b = q_sz x then true else q_ow x b) = true := hb
    rw [if_neg hc] at hb
    exact Or.inl hb
theorem q_hp_mo {M : q_M} {pc : Nat} {ins : ClassFile.Instr} {len : Nat} {ls : List (Nat × Value)} {st : List Value} {x : q_S} {pc' : Nat} {ls' : List (Nat × Value)} {st' : List Value} {x' : q_S} (h : q_hp M pc ins len ls st x pc' ls' st' x') : q_Mo x x' := by
  cases ins with
  | putfield idx => obtain ⟨-, -, -, en, a, v, -, -, -, -, -, -, -, -, rfl⟩ := h; exact q_Mo.rf x
  | iastore => obtain ⟨-, -, -, a, t, n, i, v, f, -, -, -, -, rfl⟩ := h; exact q_Mo.rf x
  | bastore => obtain ⟨-, -, -, a, t, n, i, v, f, -, -, -, -, rfl⟩ := h; exact q_Mo.rf x
  | aastore => obtain ⟨-, -, -, a, t, n, i, r, f, -, -, -, -, rfl⟩ := h; exact q_Mo.rf x
  | new idx => obtain ⟨-, -, -, en, -, -, -, -, rfl⟩ := h; exact q_Mo_new rfl rfl rfl rfl
  | newarray ty => obtain ⟨-, -, -, v, t, rest, -, -, -, -, -, rfl⟩ := h; exact q_Mo_new rfl rfl rfl rfl
  | anewarray idx => obtain ⟨-, -, -, -, v, t, rest, -, -, -, -, rfl⟩ := h; exact q_Mo_new rfl rfl rfl rfl
  | invokestatic idx => obtain ⟨-, -, -, -, -, n, dp, sp, a0, a1, t0, t1, n0, n1, f, g, -, -, -, -, -, -, -, -, -, rfl⟩ := h; exact q_Mo.rf x
  | _ => exact False.elim h
theorem q_hp_ls {M : q_M} {pc : Nat} {ins : ClassFile.Instr} {len : Nat} {ls : List (Nat × Value)} {st : List Value} {x : q_S} {pc' : Nat} {ls' : List (Nat × Value)} {st' : List Value} {x' : q_S} (h : q_hp M pc ins len ls st x pc' ls' st' x') : ls' = ls := by
  cases ins with
  | putfield idx => exact h.2.2.1
  | iastore => exact h.2.2.1
  | bastore => exact h.2.2.1
  | aastore => exact h.2.2.1
  | new idx => exact h.2.2.1
  | newarray ty => exact h.2.2.1
  | anewarray idx => exact h.2.2.1
  | invokestatic idx => exact h.2.2.1
  | _ => exact False.elim h
theorem q_run_mo {C : q_M → List Value → q_S → q_S → Option Value → Prop} {F : q_S → Option Value → Prop} {M : q_M} (hC : ∀ M' av x x1 r, C M' av x x1 r → q_Mo x x1) : ∀ (n pc : Nat) (ls : List (Nat × Value)) (st : List Value) (x : q_S), q_run C F M n pc ls st x → ∃ x' r, F x' r ∧ q_Mo x x' := by
  intro n
  induction n with
  | zero => intro pc ls st x h; exact False.elim h
  | succ n ih =>
    intro pc ls st x h
    obtain ⟨ins, len, -, h⟩ := h
    rcases h with ⟨pc', ls', st', -, h⟩ | ⟨pc', ls', st', x', hh, h⟩ | ⟨M', av, rest, x1, r, -, hc, h⟩ | ⟨r, -, hf⟩
    · exact ih _ _ _ _ h
    · obtain ⟨x2, r, hf, g⟩ := ih _ _ _ _ h
      exact ⟨x2, r, hf, (q_hp_mo hh).tr g⟩
    · obtain ⟨x2, r2, hf, g⟩ := ih _ _ _ _ h
      exact ⟨x2, r2, hf, (hC _ _ _ _ _ hc).tr g⟩
    · exact ⟨x, r, hf, q_Mo.rf x⟩
theorem q_good_in {ws : List Cond} (h : ∀ w ∈ ws, w ∈ q_WS) : GoodIn q_WS ws := by
  intro w hw
  refine ⟨h w hw, ?_⟩
  have h1 := (List.mem_filter.mp (h w hw)).2
  unfold q_good at h1
  rcases Bool.or_eq_true_iff.mp h1 with h2 | h2
  · exact Or.inl h2
  · right
    split at h2
    · exact ⟨_, rfl⟩
    · cases h2
section QCORE
variable {p : Program} {l : Launch} {e : Env} {R : Room} {s : State} {m : MethodId} {args : Array Value} {below : List Frame} {meth : Method} {c : Code} {Q : State → Prop}
variable {M : q_M} {D : va_G} {dA : Nat → ClassId} {x0 : q_S}
/-- what a call leaves: the machine's part and the pure part -/
theorem q_after {x x1 : q_S} {H : Heap} {locs : List Loc} {cells slots pc mc ms : Nat} {ls : Array Slot} {st rest : List Value} {r : Option Value} {a : Array Value} (I : q_In D dA x0 s.heap x H locs) (hmo : q_Mo x x1)
    (hr : va_Run p l e R s m args below meth c H locs cells slots mc ms (F0 m pc ls st) rest (q_Pst D dA x x1 r a) (q_A x))
    (k : ∀ (H1 : Heap) (locs1 : List Loc), q_In D dA x0 s.heap x1 H1 locs1 → W p l e R s m args below meth c H1 locs1 (cells + mc) (slots + ms) Q (F0 m (pc + 3) ls (r.toList ++ rest))) : W p l e R s m args below meth c H locs cells slots Q (F0 m pc ls st) := by
  intro T hT X
  obtain ⟨v, st₀, t, T', L, h0, X', hL, e1, e2, ⟨hv, hz, hR, hF⟩, stp⟩ := hr T hT X
  cases hv
  obtain ⟨-, hHz, hMo, hS⟩ := I
  have hF1 : ∀ q : Nat, q < H.size → ¬ q_A x q → T'.heap[q]? = H[q]? := fun q h1 h2 => by rw [e1, hF.2 q (by rw [h0]; exact h1) h2, h0]
  have hz1 : H.size ≤ T'.heap.size := by rw [e1, ← h0]; exact hF.1
  obtain ⟨t2, a1, b1⟩ := k T'.heap (locs ++ L) ⟨by rw [e1]; exact hR, by rw [e1]; exact hz, hMo.tr hmo, ⟨Nat.le_trans hS.1 hz1, fun q h1 h2 => by
      rw [hF1 q (Nat.lt_of_lt_of_le h1 hS.1) (fun z => h2 (hMo.A z))]
      exact hS.2.1 q h1 h2, fun q hq => by
      rcases List.mem_append.mp hq with h | h
      · exact hS.2.2 q h
      · exact hMo.A (hL q h)⟩⟩ T' rfl X'
  exact ⟨t2, stp t2 a1, b1⟩
set_option maxHeartbeats 4000000 in
theorem q_S3 {d : Nat} (X : q_Cx p s m args meth c M D dA x0) (hR1 : d + 1 ≤ R.frames) (hR2 : 64 * (d + 1) ≤ R.locals) {x x1 : q_S} {H : Heap} {locs : List Loc} {pc len : Nat} {ins : ClassFile.Instr} {ls : Array Slot} {lv : List (Nat × Value)} {st av rest : List Value} {M' : q_M} {r : Option Value} (hl : lv_has ls M.2.2.1 lv) (I : q_In D dA x0 s.heap x H locs) (hd : decode M.2.1 pc = .ok (ins, len)) (h : q_cl M ins len st x M' av rest) (hct : q_CT l D dA d M' av x x1 r) (hc1 : q_sz x1 - q_sz x0 ≤ R.cells) (hc2 : q_sl x1 - q_sl x0 ≤ R.slots)
    (k : ∀ (H1 : Heap) (locs1 : List Loc), q_In D dA x0 s.heap x1 H1 locs1 → W p l e R s m args below meth c H1 locs1 (q_sz x1 - q_sz x0) (q_sl x1 - q_sl x0) Q (F0 m (pc + 3) ls (r.toList ++ rest))) : W p l e R s m args below meth c H locs (q_sz x - q_sz x0) (q_sl x - q_sl x0) Q (F0 m pc ls st) := by
  obtain ⟨hM', hmo, hMet⟩ := hct
  obtain ⟨hx, hb, hml, hown, hts, hKv, hKh, hnm, hsz⟩ := X
  have I0 := I
  obtain ⟨⟨ws, hRw⟩, hHz, hMo, hS⟩ := I0
  have hm1 := hMo.1
  have hm2 := hMo.2.1
  have hn1 := hmo.1
  have hn2 := hmo.2.1
  have ec : (q_sz x - q_sz x0) + (q_sz x1 - q_sz x) = q_sz x1 - q_sz x0 := by omega
  have es : (q_sl x - q_sl x0) + (q_sl x1 - q_sl x) = q_sl x1 - q_sl x0 := by omega
  obtain ⟨hpl, hcode, hmaxL, hy1, hy2, hnp, hini, hwi⟩ := q_MTok M' hM'
  have hG : GoodIn q_WS (q_wM M') := q_good_in (fun w hw => by
    rcases List.mem_cons.mp hw with h1 | h1
    · rw [h1]; exact hcode
    · exact h1)
  have hpre : ∀ U : State, U.heap = H → s.WarmedH U.vm → q_Pre D dA av x av.toArray U := fun U hU hW => by
    refine ⟨rfl, (hKv.en hMo.2.2.2).warm hW, ?_, by rw [hU]; exact hHz, ws, by rw [hU]; exact hRw⟩
    rw [hU]
    exact q_Kh.to hMo.2.2.2 hW.alike hS.1 (fun a h1 h2 => hS.2.1 a h1 h2) (fun q z => hMo.A z) hKh
  have hf : (q_sz x - q_sz x0) + (q_sz x1 - q_sz x) ≤ R.cells ∧ (q_sl x - q_sl x0) + (q_sl x1 - q_sl x) ≤ R.slots := ⟨by omega, by omega⟩
  have hrm : (q_rm d (q_sz x1 - q_sz x) (q_sl x1 - q_sl x)).frames + 1 ≤ R.frames ∧ 8 + (M'.2.2.1 + 11) + (q_rm d (q_sz x1 - q_sz x) (q_sl x1 - q_sl x)).locals ≤ R.locals := ⟨hR1, by show 8 + (M'.2.2.1 + 11) + 64 * d ≤ R.locals; omega⟩
  have kk : ∀ (H1 : Heap) (locs1 : List Loc), q_In D dA x0 s.heap x1 H1 locs1 → W p l e R s m args below meth c H1 locs1 ((q_sz x - q_sz x0) + (q_sz x1 - q_sz x)) ((q_sl x - q_sl x0) + (q_sl x1 - q_sl x)) Q (F0 m (pc + 3) ls (r.toList ++ rest)) := fun H1 locs1 I1 => W.cs ec es (k H1 locs1 I1)
  have hp8 : (rest.map fun v => v.category).sum ≤ 8 → 2 * (F0 m pc ls st).monitorRoom + (rest.map fun v => v.category).sum ≤ 8 := fun h => by show 2 * 0 + _ ≤ 8; omega
  cases ins with
  | invokestatic idx =>
    obtain ⟨rfl, hsum, hlen, rfl, ho, he⟩ := h
    obtain ⟨hl1, hst⟩ := q_CSok _ he
    cases ho with
    | none => exact q_after I hmo (va_runS ⟨hx, hb, hml, hown, hts⟩ hMet ⟨callB_of M'.2.2.2.2 hts hG rfl rfl rfl (hts _ hini) (hts _ hl1) ⟨hy1, hy2, hnp⟩ hrm, hts _ hst⟩ ⟨q_Pre.blind, hpre⟩ rfl hlen hl.1 rfl (hp8 hsum) hd hf) kk
    | some ho => exact q_after I hmo (va_runSN ⟨hx, hb, hml, hown, hts⟩ hMet ⟨va_cnB M'.2.2.2.2 hts hG rfl rfl rfl (hKv.2.1 _ hl1) (hts _ hini) ⟨hy1, hy2, hnp⟩ hrm, hts _ hst, trivial⟩ ⟨q_Pre.blind, hpre⟩ rfl hlen hl.1 rfl (hp8 hsum) hd hf) kk
  | invokevirtual idx =>
    obtain ⟨rfl, hsum, b, ci, as, ho, q, rfl, hlen, rfl, he, hal, hq, hqc⟩ := h
    obtain ⟨hl1, hst, hse⟩ := q_CVok _ he
    obtain ⟨q0, fs, q', hq', hw, -, -⟩ := hRw.2.2.1 ci b hal
    cases hq.symm.trans hq'
    have hrec := va_recv hKv.1 hRw.1 hq hw
    rw [hqc] at hrec
    cases ho with
    | none => exact q_after I hmo (va_runV (C := M'.1.cls) ⟨hx, hb, hml, hown, hts⟩ hMet ⟨callB_of M'.2.2.2.2 hts hG rfl rfl rfl (hts _ hini) (hts _ hl1) ⟨hy1, hy2, hnp⟩ hrm, hts _ hst, hts _ hse⟩ ⟨q_Pre.blind, hrec, hpre⟩ rfl hlen hl.1 rfl (hp8 hsum) hd hf) kk
    | some ho => exact q_after I hmo (va_runVN (C := M'.1.cls) ⟨hx, hb, hml, hown, hts⟩ hMet ⟨va_cnB M'.2.2.2.2 hts hG rfl rfl rfl (hKv.2.1 _ hl1) (hts _ hini) ⟨hy1, hy2, hnp⟩ hrm, hts _ hst, hts _ hse⟩ ⟨q_Pre.blind, hrec, hpre⟩ rfl hlen hl.1 rfl (hp8 hsum) hd hf) kk
  | invokespecial idx =>
    obtain ⟨rfl, hsum, b, as, ho, rfl, hlen, rfl, he⟩ := h
    obtain ⟨hl1, hst, hnm2, hret⟩ := q_CIok _ he
    have hwi2 : q_wM M' = Cond.code M'.1 M'.2.1 M'.2.2.1 none :: q_WS := by unfold q_wM; rw [hret]
    cases ho with
    | none => exact q_after I hmo (va_runI ⟨hx, hb, hml, hown, hts⟩ hMet ⟨callB_of M'.2.2.2.2 hts hG hwi2 rfl rfl (hts _ hini) (hts _ hl1) ⟨hy1, hy2, hnp⟩ hrm, hnm2, hts _ hst⟩ ⟨q_Pre.blind, hpre⟩ rfl hlen hl.1 rfl (hp8 hsum) hd hf) kk
    | some ho => exact q_after I hmo (va_runIN ⟨hx, hb, hml, hown, hts⟩ hMet ⟨va_cnB M'.2.2.2.2 hts hG hwi2 rfl rfl (hKv.2.1 _ hl1) (hts _ hini) ⟨hy1, hy2, hnp⟩ hrm, hnm2, hts _ hst⟩ ⟨q_Pre.blind, hpre⟩ rfl hlen hl.1 rfl (hp8 hsum) hd hf) kk
  | _ => exact False.elim h
/-- the walk of a whole body; what is done at a return is a hypothesis -/
theorem q_walk {d : Nat} {F : q_S → Option Value → Prop} (X : q_Cx p s m args meth c M D dA x0) (hR1 : d + 1 ≤ R.frames) (hR2 : 64 * (d + 1) ≤ R.locals) (hC : ∀ M' av x x1 r, q_call d M' av x x1 r → q_CT l D dA d M' av x x1 r)
    (hcap : ∀ x r, F x r → q_sz x - q_sz x0 ≤ R.cells ∧ q_sl x - q_sl x0 ≤ R.slots)
    (hret : ∀ (x : q_S) (r : Option Value) (ins : ClassFile.Instr) (len pc : Nat) (ls : Array Slot) (st : List Value) (H : Heap) (locs : List Loc), F x r → q_In D dA x0 s.heap x H locs → decode M.2.1 pc = .ok (ins, len) → q_rt M ins len st r → W p l e R s m args below meth c H locs (q_sz x - q_sz x0) (q_sl x - q_sl x0) Q (F0 m pc ls st)) :
    ∀ (n pc : Nat) (lv : List (Nat × Value)) (st : List Value) (x : q_S) (ls : Array Slot) (H : Heap) (locs : List Loc), q_run (q_call d) F M n pc lv st x → lv_has ls M.2.2.1 lv → q_c1 lv → q_In D dA x0 s.heap x H locs → W p l e R s m args below meth c H locs (q_sz x - q_sz x0) (q_sl x - q_sl x0) Q (F0 m pc ls st) := by
  have hmo : ∀ M' av x x1 r, q_call d M' av x x1 r → q_Mo x x1 := fun M' av x x1 r h => (hC M' av x x1 r h).2.1
  have cap : ∀ {n pc lv st} {x : q_S}, q_run (q_call d) F M n pc lv st x → q_sz x - q_sz x0 ≤ R.cells ∧ q_sl x - q_sl x0 ≤ R.slots := fun {n pc lv st x} h => by
    obtain ⟨x', r, hf, g⟩ := q_run_mo hmo _ _ _ _ _ h
    obtain ⟨c1, c2⟩ := hcap x' r hf
    have g1 := g.1
    have g2 := g.2.1
    exact ⟨by omega, by omega⟩
  intro n
  induction n with
  | zero => intro pc lv st x ls H locs h; exact False.elim h
  | succ n ih =>
    intro pc lv st x ls H locs h hl hc1 I
    obtain ⟨ins, len, hd, h⟩ := h
    rcases h with ⟨pc', ls', st', hh, h⟩ | ⟨pc', ls', st', x', hh, h⟩ | ⟨M', av, rest, x1, r, hh, hc, h⟩ | ⟨r, hh, hf⟩
    · obtain ⟨c1, c2⟩ := cap h
      exact q_S1 X (by omega) (by omega) c1 c2 hl hc1 I hd hh (fun ls1 hl1 hc2 => ih _ _ _ _ _ _ _ h hl1 hc2 I)
    · obtain ⟨c1, c2⟩ := cap h
      have hls := q_hp_ls hh
      subst hls
      exact q_S2 X (by omega) (by omega) hl I hd hh c1 c2 (fun ls1 H1 locs1 hl1 I1 => ih _ _ _ _ _ _ _ h hl1 hc1 I1)
    · obtain ⟨c1, c2⟩ := cap h
      exact q_S3 X hR1 hR2 hl I hd hh (hC _ _ _ _ _ hc) c1 c2 (fun H1 locs1 I1 => ih _ _ _ _ _ _ _ h hl hc1 I1)
    · exact hret x r ins len pc ls st H locs hf I hd hh
end QCORE
theorem q_zb {v : Int32} (h : v &&& 1 = v) : narrow .boolean (.int v) = .int v := by
  show Value.int (v &&& 1) = _
  rw [h]
set_option maxHeartbeats 4000000 in
/-- every call that the pure machine makes, the machine makes -/
theorem q_sound (l : Launch) (D : va_G) (dA : Nat → ClassId) : ∀ (d : Nat) (M : q_M) (av : List Value) (x x' : q_S) (r : Option Value), q_call d M av x x' r → q_CT l D dA d M av x x' r := by
  intro d
  induction d with
  | zero => intro M av x x' r h; exact False.elim h
  | succ d ih =>
    intro M av x x' r h
    obtain ⟨hM, hlen, hcat, n, hrun⟩ := h
    obtain ⟨hpl, hcode, hmaxL, hy1, hy2, hnp, hini, hwi⟩ := q_MTok M hM
    have hMo : q_Mo x x' := by
      obtain ⟨y, o, ⟨e1, -⟩, g⟩ := q_run_mo (fun M' av x x1 r h => (ih M' av x x1 r h).2.1) _ _ _ _ _ hrun
      rw [← e1]; exact g
    refine ⟨hM, hMo, Met.ofW (cc := M.2.1) (maxL := M.2.2.1) (ret := M.2.2.2.1) hpl rfl ?_⟩
    intro p e s m args below meth c s₁ B hml hv
    obtain ⟨rfl, hKv, hKh, hsz, hR⟩ := hv
    have hx := B.exec
    have hb := B.bytes
    have hr := B.returns
    have hts0 := atoms_spec (ws := q_wM M) B.pre
    have hts : ∀ w ∈ q_WS, w.before av.toArray s = true := fun w hw => hts0 w (List.mem_cons_of_mem _ hw)
    have hown : s.vm.findClass M.1.cls = some m.cls := findClass_of_methodNamed B.named
    have hlocks := B.notSynchronized
    have hin : meth.name = M.1.name := (name_of_methodNamed B.named B.method).1
    have X : q_Cx p s m av.toArray meth c M D dA x := ⟨hx, hb, hml, hown, hts, hKv, hKh, hin, hsz⟩
    have I : q_In D dA x s.heap x s.heap [] := ⟨hR, hsz, q_Mo.rf x, va_S.rf⟩
    have hl := lv_entry av (n := M.2.2.1) (by rw [q_sl_len av hcat]; exact hlen)
    rw [q_la_eq av 0 hcat] at hl
    rw [lg_entry_eq]
    generalize (lg_sl av ++ List.replicate (M.2.2.1 - (lg_sl av).length) Slot.unset).toArray = ls at hl ⊢
    have hw := q_walk (p := p) (l := l) (e := e) (R := q_rm (d + 1) (q_sz x' - q_sz x) (q_sl x' - q_sl x)) (below := below) (Q := MQ below (q_Pst D dA x x' r) av.toArray s (q_sz x' - q_sz x) (q_sl x' - q_sl x) (q_A x)) (F := fun y o => y = x' ∧ o = r) X (Nat.le_refl _) (Nat.le_refl _) ih
      (fun y o h => by rw [h.1]; exact ⟨Nat.le_refl _, Nat.le_refl _⟩)
      (fun y o ins len pc ls st H locs hF I hd hh => by
        obtain ⟨rfl, rfl⟩ := hF
        obtain ⟨hRw, hHz, hMo, hS⟩ := I
        cases ins with
        | ireturn =>
          obtain ⟨rfl, v, rfl, rfl, hty⟩ := hh
          rcases hty with hty | ⟨hty, hv⟩
          · exact W.iret hx hb (hr.trans hty) (fun t ht hW => ⟨rfl, by rw [ht]; exact hHz, by rw [ht]; exact hRw, hS.F ht⟩) hS.2.2 hd
          · exact W.zret hx hb (hr.trans hty) (q_zb hv) (fun t ht hW => ⟨rfl, by rw [ht]; exact hHz, by rw [ht]; exact hRw, hS.F ht⟩) hS.2.2 hd
        | lreturn =>
          obtain ⟨rfl, v, rfl, rfl, hty⟩ := hh
          exact W.lret hx hb (hr.trans hty) (fun t ht hW => ⟨rfl, by rw [ht]; exact hHz, by rw [ht]; exact hRw, hS.F ht⟩) hS.2.2 hd
        | areturn =>
          obtain ⟨rfl, o, ty, rfl, rfl, hty, hrt⟩ := hh
          exact W.aret hx hb (hr.trans hty) hrt (q_ref_or o) (fun t ht hW => ⟨rfl, by rw [ht]; exact hHz, by rw [ht]; exact hRw, hS.F ht⟩) hS.2.2 hd
        | return_ =>
          obtain ⟨rfl, rfl, rfl, hty⟩ := hh
          exact W.vret hx hb (hr.trans hty) (fun t ht hW => ⟨rfl, by rw [ht]; exact hHz, by rw [ht]; exact hRw, hS.F ht⟩) hS.2.2 hd
        | _ => exact False.elim hh)
      n 0 (q_la 0 av) [] x ls s.heap [] hrun hl (q_la_c1 av 0 hcat) I
    rw [Nat.sub_self, Nat.sub_self] at hw
    exact hw
end
section
/-! What the printed functions are made of: reads, writes and makings on the pure state, each of which may fail. -/
def q_gI (x : q_S) (r : Option Nat) (ci k : Nat) : Option Int32 := match r with
  | some a => if q_al x ci a = true then (match q_fd x ci k a with | .int v => some v | _ => none) else none
  | none => none
def q_gR (x : q_S) (r : Option Nat) (ci k : Nat) : Option (Option Nat) := match r with
  | some a => if q_al x ci a = true then (match q_fd x ci k a with | .ref b => some (some b) | .null => some none | _ => none) else none
  | none => none
def q_pI (x : q_S) (r : Option Nat) (ci k : Nat) (v : Int32) : Option q_S := match r with
  | some a => if q_al x ci a = true then some (q_putF x ci k a (.int v)) else none
  | none => none
def q_pZ (x : q_S) (r : Option Nat) (ci k : Nat) (v : Int32) : Option q_S := match r with
  | some a => if q_al x ci a = true ∧ (v = 0 ∨ v = 1) then some (q_putF x ci k a (.int v)) else none
  | none => none
def q_pR (x : q_S) (r : Option Nat) (ci k : Nat) (v : Option Nat) : Option q_S := match r with
  | some a => if q_al x ci a = true then some (q_putF x ci k a (va_rf v)) else none
  | none => none
def q_lI (x : q_S) (t : Nat) (r : Option Nat) (i : Int32) : Option Int32 := match r with
  | some a => (match q_ai x t a with | some y => if i < 0 ∨ y.1 ≤ i.toNatClampNeg then none else some (y.2 i.toNatClampNeg) | none => none)
  | none => none
def q_sI (x : q_S) (t : Nat) (r : Option Nat) (i v : Int32) : Option q_S := match r with
  | some a => (match q_ai x t a with | some y => if i < 0 ∨ y.1 ≤ i.toNatClampNeg then none else some (q_putI x t a y.1 (upd y.2 i.toNatClampNeg v)) | none => none)
  | none => none
def q_lR (x : q_S) (t : Nat) (r : Option Nat) (i : Int32) : Option (Option Nat) := match r with
  | some a => (match q_ar x t a with | some y => if i < 0 ∨ y.1 ≤ i.toNatClampNeg then none else some (y.2 i.toNatClampNeg) | none => none)
  | none => none
def q_ok (x : q_S) (v : Option Nat) : Bool := match v with
  | some b => q_AL.any (fun ci => q_al x ci b)
  | none => true
def q_sR (x : q_S) (t : Nat) (r : Option Nat) (i : Int32) (v : Option Nat) : Option q_S := match r with
  | some a => (match q_ar x t a with | some y => if (i < 0 ∨ y.1 ≤ i.toNatClampNeg) ∨ q_ok x v = false then none else some (q_putR x t a y.1 (va_up y.2 i.toNatClampNeg v)) | none => none)
  | none => none
def q_len (x : q_S) (t : Nat) (r : Option Nat) : Option Int32 := match r with
  | some a => (match q_ai x t a with | some y => some (Int32.ofNat y.1) | none => none)
  | none => none
def q_lenR (x : q_S) (t : Nat) (r : Option Nat) : Option Int32 := match r with
  | some a => (match q_ar x t a with | some y => some (Int32.ofNat y.1) | none => if a = q_z0 x then some (Int32.ofNat 0) else none)
  | none => none
def q_lenS (x : q_S) (r : Option Nat) : Option Int32 := if r = some (q_sb x) then some (Int32.ofNat (q_sL x)) else none
def q_lS (x : q_S) (r : Option Nat) (i : Int32) : Option Int32 := if r = some (q_sb x) ∧ ¬ (i < 0 ∨ q_sL x ≤ i.toNatClampNeg) then some (q_sx x i.toNatClampNeg) else none
def q_nI (x : q_S) (t : Nat) (v : Int32) : Option q_S := if v < 0 ∨ 100000 < v.toNatClampNeg then none else some (q_newI x t v.toNatClampNeg)
def q_nR (x : q_S) (t : Nat) (v : Int32) : Option q_S := if v < 0 ∨ 100000 < v.toNatClampNeg then none else some (q_newR x t v.toNatClampNeg)
def q_nO (x : q_S) (ci : Nat) (dv : List Value) : Option q_S := some (q_newO x ci dv.length (vp_V dv))
/-- an object of a class, or null -/
def q_ck (x : q_S) (r : Option Nat) (ci : Nat) : Option Unit := match r with
  | some a => if q_al x ci a = true then some () else none
  | none => some ()
/-- an object of a class -/
def q_av (x : q_S) (r : Option Nat) (ci : Nat) : Option Nat := match r with
  | some a => if q_al x ci a = true then some a else none
  | none => none
/-- an array of references -/
def q_aa (x : q_S) (t : Nat) (r : Option Nat) : Option Nat := match r with
  | some a => (match q_ar x t a with | some _ => some a | none => none)
  | none => none
def q_cp (x : q_S) (t : Nat) (r0 : Option Nat) (sp : Int32) (r1 : Option Nat) (dp n : Int32) : Option q_S := match r0, r1 with
  | some a0, some a1 => (match q_ar x t a0, q_ar x t a1 with
    | some y, some z => if sp < 0 ∨ dp < 0 ∨ n < 0 ∨ y.1 < sp.toNatClampNeg + n.toNatClampNeg ∨ z.1 < dp.toNatClampNeg + n.toNatClampNeg ∨ (List.range n.toNatClampNeg).all (fun i => q_ok x (y.2 (sp.toNatClampNeg + i))) = false then none
        else some (q_putR x t a1 z.1 (va_cpy y.2 z.2 sp.toNatClampNeg dp.toNatClampNeg n.toNatClampNeg))
    | _, _ => none)
  | _, _ => none
theorem q_bind {α β : Type} {o : Option α} {f : α → Option β} {b : β} (h : o.bind f = some b) : ∃ a, o = some a ∧ f a = some b := by
  cases o with
  | none => cases h
  | some a => exact ⟨a, rfl, h⟩
theorem q_ite {c : Prop} {i : Decidable c} {α : Type} {a b : Option α} {r : α} (h : (@ite _ c i a b) = some r) : (c ∧ a = some r) ∨ (¬ c ∧ b = some r) := by
  by_cases hc : c
  · rw [if_pos hc] at h; exact Or.inl ⟨hc, h⟩
  · rw [if_neg hc] at h; exact Or.inr ⟨hc, h⟩
theorem q_gI_sp {x : q_S} {r : Option Nat} {ci k : Nat} {v : Int32} (h : q_gI x r ci k = some v) : ∃ a, r = some a ∧ q_al x ci a = true ∧ q_fd x ci k a = .int v := by
  cases r with
  | none => cases h
  | some a =>
    unfold q_gI at h
    dsimp only at h
    rcases q_ite h with ⟨hc, h⟩ | ⟨-, h⟩
    · refine ⟨a, rfl, hc, ?_⟩
      split at h
      · next v' e => cases h; exact e
      · cases h
    · cases h
theorem q_gR_sp {x : q_S} {r : Option Nat} {ci k : Nat} {v : Option Nat} (h : q_gR x r ci k = some v) : ∃ a, r = some a ∧ q_al x ci a = true ∧ q_fd x ci k a = va_rf v := by
  cases r with
  | none => cases h
  | some a =>
    unfold q_gR at h
    dsimp only at h
    rcases q_ite h with ⟨hc, h⟩ | ⟨-, h⟩
    · refine ⟨a, rfl, hc, ?_⟩
      split at h
      · next v' e => cases h; exact e
      · next e => cases h; exact e
      · cases h
    · cases h
theorem q_pI_sp {x : q_S} {r : Option Nat} {ci k : Nat} {v : Int32} {y : q_S} (h : q_pI x r ci k v = some y) : ∃ a, r = some a ∧ q_al x ci a = true ∧ y = q_putF x ci k a (.int v) := by
  cases r with
  | none => cases h
  | some a =>
    unfold q_pI at h
    dsimp only at h
    rcases q_ite h with ⟨hc, h⟩ | ⟨-, h⟩
    · cases h; exact ⟨a, rfl, hc, rfl⟩
    · cases h
theorem q_pZ_sp {x : q_S} {r : Option Nat} {ci k : Nat} {v : Int32} {y : q_S} (h : q_pZ x r ci k v = some y) : ∃ a, r = some a ∧ q_al x ci a = true ∧ (v = 0 ∨ v = 1) ∧ y = q_putF x ci k a (.int v) := by
  cases r with
  | none => cases h
  | some a =>
    unfold q_pZ at h
    dsimp only at h
    rcases q_ite h with ⟨hc, h⟩ | ⟨-, h⟩
    · cases h; exact ⟨a, rfl, hc.1, hc.2, rfl⟩
    · cases h
theorem q_pR_sp {x : q_S} {r : Option Nat} {ci k : Nat} {v : Option Nat} {y : q_S} (h : q_pR x r ci k v = some y) : ∃ a, r = some a ∧ q_al x ci a = true ∧ y = q_putF x ci k a (va_rf v) := by
  cases r with
  | none => cases h
  | some a =>
    unfold q_pR at h
    dsimp only at h
    rcases q_ite h with ⟨hc, h⟩ | ⟨-, h⟩
    · cases h; exact ⟨a, rfl, hc, rfl⟩
    · cases h
theorem q_lI_sp {x : q_S} {t : Nat} {r : Option Nat} {i v : Int32} (h : q_lI x t r i = some v) : ∃ a y, r = some a ∧ q_ai x t a = some y ∧ vp_in i y.1 ∧ v = y.2 i.toNatClampNeg := by
  cases r with
  | none => cases h
  | some a =>
    unfold q_lI at h
    dsimp only at h
    split at h
    · next y e =>
      rcases q_ite h with ⟨-, h⟩ | ⟨hc, h⟩
      · cases h
      · cases h; exact ⟨a, y, rfl, e, hc, rfl⟩
    · cases h
theorem q_sI_sp {x : q_S} {t : Nat} {r : Option Nat} {i v : Int32} {x1 : q_S} (h : q_sI x t r i v = some x1) : ∃ a y, r = some a ∧ q_ai x t a = some y ∧ vp_in i y.1 ∧ x1 = q_putI x t a y.1 (upd y.2 i.toNatClampNeg v) := by
  cases r with
  | none => cases h
  | some a =>
    unfold q_sI at h
    dsimp only at h
    split at h
    · next y e =>
      rcases q_ite h with ⟨-, h⟩ | ⟨hc, h⟩
      · cases h
      · cases h; exact ⟨a, y, rfl, e, hc, rfl⟩
    · cases h
theorem q_lR_sp {x : q_S} {t : Nat} {r : Option Nat} {i : Int32} {v : Option Nat} (h : q_lR x t r i = some v) : ∃ a y, r = some a ∧ q_ar x t a = some y ∧ vp_in i y.1 ∧ v = y.2 i.toNatClampNeg := by
  cases r with
  | none => cases h
  | some a =>
    unfold q_lR at h
    dsimp only at h
    split at h
    · next y e =>
      rcases q_ite h with ⟨-, h⟩ | ⟨hc, h⟩
      · cases h
      · cases h; exact ⟨a, y, rfl, e, hc, rfl⟩
    · cases h
theorem q_ok_sp {x : q_S} {v : Option Nat} (h : q_ok x v = true) : ∀ b : Nat, v = some b → ∃ ci, q_al x ci b = true ∧ ci ∈ q_AL := by
  intro b hb
  subst hb
  obtain ⟨ci, h1, h2⟩ := List.any_eq_true.mp h
  exact ⟨ci, h2, h1⟩
theorem q_sR_sp {x : q_S} {t : Nat} {r : Option Nat} {i : Int32} {v : Option Nat} {x1 : q_S} (h : q_sR x t r i v = some x1) : ∃ a y, r = some a ∧ q_ar x t a = some y ∧ vp_in i y.1 ∧ (∀ b : Nat, v = some b → ∃ ci, q_al x ci b = true ∧ ci ∈ q_AL) ∧ x1 = q_putR x t a y.1 (va_up y.2 i.toNatClampNeg v) := by
  cases r with
  | none => cases h
  | some a =>
    unfold q_sR at h
    dsimp only at h
    split at h
    · next y e =>
      rcases q_ite h with ⟨-, h⟩ | ⟨hc, h⟩
      · cases h
      · cases h
        refine ⟨a, y, rfl, e, fun z => hc (Or.inl z), q_ok_sp ?_, rfl⟩
        cases hk : q_ok x v with
        | true => rfl
        | false => exact absurd (Or.inr hk) hc
    · cases h
theorem q_len_sp {x : q_S} {t : Nat} {r : Option Nat} {v : Int32} (h : q_len x t r = some v) : ∃ a y, r = some a ∧ q_ai x t a = some y ∧ v = Int32.ofNat y.1 := by
  cases r with
  | none => cases h
  | some a =>
    unfold q_len at h
    dsimp only at h
    split at h
    · next y e => cases h; exact ⟨a, y, rfl, e, rfl⟩
    · cases h
theorem q_lenR_sp {x : q_S} {t : Nat} {r : Option Nat} {v : Int32} (h : q_lenR x t r = some v) : ∃ a, r = some a ∧ ((∃ y, q_ar x t a = some y ∧ v = Int32.ofNat y.1) ∨ (a = q_z0 x ∧ v = Int32.ofNat 0)) := by
  cases r with
  | none => cases h
  | some a =>
    unfold q_lenR at h
    dsimp only at h
    split at h
    · next y e => cases h; exact ⟨a, rfl, Or.inl ⟨y, e, rfl⟩⟩
    · rcases q_ite h with ⟨hc, h⟩ | ⟨-, h⟩
      · cases h; exact ⟨a, rfl, Or.inr ⟨hc, rfl⟩⟩
      · cases h
theorem q_av_sp {x : q_S} {r : Option Nat} {ci a : Nat} (h : q_av x r ci = some a) : r = some a ∧ q_al x ci a = true := by
  cases r with
  | none => cases h
  | some b =>
    unfold q_av at h
    dsimp only at h
    rcases q_ite h with ⟨hc, h⟩ | ⟨-, h⟩
    · cases h; exact ⟨rfl, hc⟩
    · cases h
theorem q_aa_sp {x : q_S} {t : Nat} {r : Option Nat} {a : Nat} (h : q_aa x t r = some a) : r = some a ∧ ∃ y, q_ar x t a = some y := by
  cases r with
  | none => cases h
  | some b =>
    unfold q_aa at h
    dsimp only at h
    split at h
    · next y e => cases h; exact ⟨rfl, y, e⟩
    · cases h
theorem q_nI_sp {x : q_S} {t : Nat} {v : Int32} {x1 : q_S} (h : q_nI x t v = some x1) : ¬ v < 0 ∧ v.toNatClampNeg ≤ 100000 ∧ x1 = q_newI x t v.toNatClampNeg := by
  unfold q_nI at h
  rcases q_ite h with ⟨-, h⟩ | ⟨hc, h⟩
  · cases h
  · cases h; exact ⟨fun z => hc (Or.inl z), Nat.le_of_not_lt (fun z => hc (Or.inr z)), rfl⟩
theorem q_nR_sp {x : q_S} {t : Nat} {v : Int32} {x1 : q_S} (h : q_nR x t v = some x1) : ¬ v < 0 ∧ v.toNatClampNeg ≤ 100000 ∧ x1 = q_newR x t v.toNatClampNeg := by
  unfold q_nR at h
  rcases q_ite h with ⟨-, h⟩ | ⟨hc, h⟩
  · cases h
  · cases h; exact ⟨fun z => hc (Or.inl z), Nat.le_of_not_lt (fun z => hc (Or.inr z)), rfl⟩
end
section
/-! A row an instruction, over the pure machine: goal first. -/
section QROW
variable {C : q_M → List Value → q_S → q_S → Option Value → Prop} {F : q_S → Option Value → Prop} {M : q_M} {pc : Nat} {ls : List (Nat × Value)} {st rest : List Value} {x : q_S}
theorem q_s1 {ins : ClassFile.Instr} {len pc' : Nat} {ls' : List (Nat × Value)} {st' : List Value} (hd : decode M.2.1 pc = .ok (ins, len)) (h : q_smp M pc ins len ls st x pc' ls' st') (k : q_X C F M pc' ls' st' x) : q_X C F M pc ls st x := by
  obtain ⟨n, k⟩ := k
  exact ⟨n + 1, ins, len, hd, Or.inl ⟨pc', ls', st', h, k⟩⟩
theorem q_s2 {ins : ClassFile.Instr} {len pc' : Nat} {ls' : List (Nat × Value)} {st' : List Value} {x' : q_S} (hd : decode M.2.1 pc = .ok (ins, len)) (h : q_hp M pc ins len ls st x pc' ls' st' x') (k : q_X C F M pc' ls' st' x') : q_X C F M pc ls st x := by
  obtain ⟨n, k⟩ := k
  exact ⟨n + 1, ins, len, hd, Or.inr (Or.inl ⟨pc', ls', st', x', h, k⟩)⟩
theorem q_s3 {ins : ClassFile.Instr} {len : Nat} {M' : q_M} {av : List Value} {x1 : q_S} {r : Option Value} (hd : decode M.2.1 pc = .ok (ins, len)) (h : q_cl M ins len st x M' av rest) (hc : C M' av x x1 r) (k : q_X C F M (pc + 3) ls (r.toList ++ rest) x1) : q_X C F M pc ls st x := by
  obtain ⟨n, k⟩ := k
  exact ⟨n + 1, ins, len, hd, Or.inr (Or.inr (Or.inl ⟨M', av, rest, x1, r, h, hc, k⟩))⟩
theorem q_s4 {ins : ClassFile.Instr} {len : Nat} {r : Option Value} (hd : decode M.2.1 pc = .ok (ins, len)) (h : q_rt M ins len st r) (hf : F x r) : q_X C F M pc ls st x := ⟨1, ins, len, hd, Or.inr (Or.inr (Or.inr ⟨r, h, hf⟩))⟩
theorem r_iconst (pc' : Nat) (v : Int32) {n : Int} (hd : decode M.2.1 pc = .ok (.iconst n, 1)) (hv : Int32.ofInt n = v) (hp : pc + 1 = pc') (k : q_X C F M pc' ls (.int v :: st) x) : q_X C F M pc ls st x := by subst hp; exact q_s1 hd (by subst hv; exact ⟨rfl, rfl, rfl, rfl⟩) k
theorem r_bipush (pc' : Nat) (v : Int32) {n : Int} (hd : decode M.2.1 pc = .ok (.bipush n, 2)) (hv : (Int8.ofInt n).toInt32 = v) (hp : pc + 2 = pc') (k : q_X C F M pc' ls (.int v :: st) x) : q_X C F M pc ls st x := by subst hp; exact q_s1 hd (by subst hv; exact ⟨rfl, rfl, rfl, rfl⟩) k
theorem r_sipush (pc' : Nat) (v : Int32) {n : Int} (hd : decode M.2.1 pc = .ok (.sipush n, 3)) (hv : (Int16.ofInt n).toInt32 = v) (hp : pc + 3 = pc') (k : q_X C F M pc' ls (.int v :: st) x) : q_X C F M pc ls st x := by subst hp; exact q_s1 hd (by subst hv; exact ⟨rfl, rfl, rfl, rfl⟩) k
theorem r_null (pc' : Nat) (hd : decode M.2.1 pc = .ok (.aconst_null, 1)) (hp : pc + 1 = pc') (k : q_X C F M pc' ls (va_rf none :: st) x) : q_X C F M pc ls st x := by subst hp; exact q_s1 hd ⟨rfl, rfl, rfl, rfl⟩ k
theorem r_iload_n (pc' : Nat) (i : Nat) {k0 : Fin 4} {v : Int32} (hd : decode M.2.1 pc = .ok (.iload_n k0, 1)) (hm : ls[i]? = some (k0.val, .int v)) (hp : pc + 1 = pc') (k : q_X C F M pc' ls (.int v :: st) x) : q_X C F M pc ls st x := by subst hp; exact q_s1 hd ⟨rfl, rfl, rfl, v, List.mem_of_getElem? hm, rfl⟩ k
theorem r_iload (pc' : Nat) (i : Nat) {k0 : Nat} {v : Int32} (hd : decode M.2.1 pc = .ok (.iload k0, 2)) (hm : ls[i]? = some (k0, .int v)) (hp : pc + 2 = pc') (k : q_X C F M pc' ls (.int v :: st) x) : q_X C F M pc ls st x := by subst hp; exact q_s1 hd ⟨rfl, rfl, rfl, v, List.mem_of_getElem? hm, rfl⟩ k
theorem r_aload_n (pc' : Nat) (i : Nat) {k0 : Fin 4} {v : Option Nat} (hd : decode M.2.1 pc = .ok (.aload_n k0, 1)) (hm : ls[i]? = some (k0.val, va_rf v)) (hp : pc + 1 = pc') (k : q_X C F M pc' ls (va_rf v :: st) x) : q_X C F M pc ls st x := by subst hp; exact q_s1 hd ⟨rfl, rfl, rfl, v, List.mem_of_getElem? hm, rfl⟩ k
theorem r_aload (pc' : Nat) (i : Nat) {k0 : Nat} {v : Option Nat} (hd : decode M.2.1 pc = .ok (.aload k0, 2)) (hm : ls[i]? = some (k0, va_rf v)) (hp : pc + 2 = pc') (k : q_X C F M pc' ls (va_rf v :: st) x) : q_X C F M pc ls st x := by subst hp; exact q_s1 hd ⟨rfl, rfl, rfl, v, List.mem_of_getElem? hm, rfl⟩ k
theorem r_istore_n (pc' : Nat) (ls' : List (Nat × Value)) {k0 : Fin 4} {v : Int32} (hd : decode M.2.1 pc = .ok (.istore_n k0, 1)) (hk : k0.val < M.2.2.1) (hl : q_st1 ls k0.val (.int v) = ls') (hp : pc + 1 = pc') (k : q_X C F M pc' ls' st x) : q_X C F M pc ls (.int v :: st) x := by subst hp; exact q_s1 hd (by subst hl; exact ⟨rfl, rfl, hk, v, rfl, rfl⟩) k
theorem r_istore (pc' : Nat) (ls' : List (Nat × Value)) {k0 : Nat} {v : Int32} (hd : decode M.2.1 pc = .ok (.istore k0, 2)) (hk : k0 < M.2.2.1) (hl : q_st1 ls k0 (.int v) = ls') (hp : pc + 2 = pc') (k : q_X C F M pc' ls' st x) : q_X C F M pc ls (.int v :: st) x := by subst hp; exact q_s1 hd (by subst hl; exact ⟨rfl, rfl, hk, v, rfl, rfl⟩) k
theorem r_astore_n (pc' : Nat) (ls' : List (Nat × Value)) {k0 : Fin 4} {v : Option Nat} (hd : decode M.2.1 pc = .ok (.astore_n k0, 1)) (hk : k0.val < M.2.2.1) (hl : q_st1 ls k0.val (va_rf v) = ls') (hp : pc + 1 = pc') (k : q_X C F M pc' ls' st x) : q_X C F M pc ls (va_rf v :: st) x := by subst hp; exact q_s1 hd (by subst hl; exact ⟨rfl, rfl, hk, v, rfl, rfl⟩) k
theorem r_astore (pc' : Nat) (ls' : List (Nat × Value)) {k0 : Nat} {v : Option Nat} (hd : decode M.2.1 pc = .ok (.astore k0, 2)) (hk : k0 < M.2.2.1) (hl : q_st1 ls k0 (va_rf v) = ls') (hp : pc + 2 = pc') (k : q_X C F M pc' ls' st x) : q_X C F M pc ls (va_rf v :: st) x := by subst hp; exact q_s1 hd (by subst hl; exact ⟨rfl, rfl, hk, v, rfl, rfl⟩) k
theorem r_iinc (pc' : Nat) (i : Nat) (ls' : List (Nat × Value)) (w : Int32) {j : Nat} {n : Int} {v : Int32} (hd : decode M.2.1 pc = .ok (.iinc j n, 3)) (hm : ls[i]? = some (j, .int v)) (hk : j < M.2.2.1) (hw : Int32.ofInt n = w) (hl : q_st1 ls j (.int (v + w)) = ls') (hp : pc + 3 = pc') (k : q_X C F M pc' ls' st x) : q_X C F M pc ls st x := by subst hp; exact q_s1 hd (by subst hw; subst hl; exact ⟨rfl, rfl, hk, rfl, v, List.mem_of_getElem? hm, rfl⟩) k
theorem r_iadd (pc' : Nat) {a b : Int32} (hd : decode M.2.1 pc = .ok (.iadd, 1)) (hp : pc + 1 = pc') (k : q_X C F M pc' ls (.int (a + b) :: st) x) : q_X C F M pc ls (.int b :: .int a :: st) x := by subst hp; exact q_s1 hd ⟨rfl, rfl, rfl, a, b, st, rfl, rfl⟩ k
theorem r_isub (pc' : Nat) {a b : Int32} (hd : decode M.2.1 pc = .ok (.isub, 1)) (hp : pc + 1 = pc') (k : q_X C F M pc' ls (.int (a - b) :: st) x) : q_X C F M pc ls (.int b :: .int a :: st) x := by subst hp; exact q_s1 hd ⟨rfl, rfl, rfl, a, b, st, rfl, rfl⟩ k
theorem r_imul (pc' : Nat) {a b : Int32} (hd : decode M.2.1 pc = .ok (.imul, 1)) (hp : pc + 1 = pc') (k : q_X C F M pc' ls (.int (a * b) :: st) x) : q_X C F M pc ls (.int b :: .int a :: st) x := by subst hp; exact q_s1 hd ⟨rfl, rfl, rfl, a, b, st, rfl, rfl⟩ k
theorem r_iand (pc' : Nat) {a b : Int32} (hd : decode M.2.1 pc = .ok (.iand, 1)) (hp : pc + 1 = pc') (k : q_X C F M pc' ls (.int (a &&& b) :: st) x) : q_X C F M pc ls (.int b :: .int a :: st) x := by subst hp; exact q_s1 hd ⟨rfl, rfl, rfl, a, b, st, rfl, rfl⟩ k
theorem r_ior (pc' : Nat) {a b : Int32} (hd : decode M.2.1 pc = .ok (.ior, 1)) (hp : pc + 1 = pc') (k : q_X C F M pc' ls (.int (a ||| b) :: st) x) : q_X C F M pc ls (.int b :: .int a :: st) x := by subst hp; exact q_s1 hd ⟨rfl, rfl, rfl, a, b, st, rfl, rfl⟩ k
theorem r_ixor (pc' : Nat) {a b : Int32} (hd : decode M.2.1 pc = .ok (.ixor, 1)) (hp : pc + 1 = pc') (k : q_X C F M pc' ls (.int (a ^^^ b) :: st) x) : q_X C F M pc ls (.int b :: .int a :: st) x := by subst hp; exact q_s1 hd ⟨rfl, rfl, rfl, a, b, st, rfl, rfl⟩ k
theorem r_ishl (pc' : Nat) {a b : Int32} (hd : decode M.2.1 pc = .ok (.ishl, 1)) (hp : pc + 1 = pc') (k : q_X C F M pc' ls (.int (a <<< (b &&& 31)) :: st) x) : q_X C F M pc ls (.int b :: .int a :: st) x := by subst hp; exact q_s1 hd ⟨rfl, rfl, rfl, a, b, st, rfl, rfl⟩ k
theorem r_ishr (pc' : Nat) {a b : Int32} (hd : decode M.2.1 pc = .ok (.ishr, 1)) (hp : pc + 1 = pc') (k : q_X C F M pc' ls (.int (a >>> (b &&& 31)) :: st) x) : q_X C F M pc ls (.int b :: .int a :: st) x := by subst hp; exact q_s1 hd ⟨rfl, rfl, rfl, a, b, st, rfl, rfl⟩ k
theorem r_iushr (pc' : Nat) {a b : Int32} (hd : decode M.2.1 pc = .ok (.iushr, 1)) (hp : pc + 1 = pc') (k : q_X C F M pc' ls (.int ((a.toUInt32 >>> (b.toUInt32 &&& Int32.toUInt32 31)).toInt32) :: st) x) : q_X C F M pc ls (.int b :: .int a :: st) x := by subst hp; exact q_s1 hd ⟨rfl, rfl, rfl, a, b, st, rfl, rfl⟩ k
theorem r_irem (pc' : Nat) {a b : Int32} (hd : decode M.2.1 pc = .ok (.irem, 1)) (hne : ¬ b = 0) (hp : pc + 1 = pc') (k : q_X C F M pc' ls (.int (a - a / b * b) :: st) x) : q_X C F M pc ls (.int b :: .int a :: st) x := by subst hp; exact q_s1 hd ⟨rfl, rfl, rfl, a, b, st, hne, rfl, rfl⟩ k
theorem r_i2l (pc' : Nat) {a : Int32} (hd : decode M.2.1 pc = .ok (.i2l, 1)) (hp : pc + 1 = pc') (k : q_X C F M pc' ls (.long a.toInt64 :: st) x) : q_X C F M pc ls (.int a :: st) x := by subst hp; exact q_s1 hd ⟨rfl, rfl, rfl, a, st, rfl, rfl⟩ k
theorem r_lcmp (pc' : Nat) {a b : Int64} (hd : decode M.2.1 pc = .ok (.lcmp, 1)) (hp : pc + 1 = pc') (k : q_X C F M pc' ls (.int (lg_cmp a b) :: st) x) : q_X C F M pc ls (.long b :: .long a :: st) x := by subst hp; exact q_s1 hd ⟨rfl, rfl, rfl, a, b, st, rfl, rfl⟩ k
theorem r_dupI (pc' : Nat) {v : Int32} (hd : decode M.2.1 pc = .ok (.dup, 1)) (hp : pc + 1 = pc') (k : q_X C F M pc' ls (.int v :: .int v :: st) x) : q_X C F M pc ls (.int v :: st) x := by subst hp; exact q_s1 hd ⟨rfl, rfl, rfl, .int v, st, rfl, rfl, rfl⟩ k
theorem r_popI (pc' : Nat) {v : Int32} (hd : decode M.2.1 pc = .ok (.pop, 1)) (hp : pc + 1 = pc') (k : q_X C F M pc' ls st x) : q_X C F M pc ls (.int v :: st) x := by subst hp; exact q_s1 hd ⟨rfl, rfl, rfl, .int v, rfl, rfl⟩ k
theorem r_dupR (pc' : Nat) {v : Option Nat} (hd : decode M.2.1 pc = .ok (.dup, 1)) (hp : pc + 1 = pc') (k : q_X C F M pc' ls (va_rf v :: va_rf v :: st) x) : q_X C F M pc ls (va_rf v :: st) x := by subst hp; exact q_s1 hd ⟨rfl, rfl, rfl, va_rf v, st, (q_cat v), rfl, rfl⟩ k
theorem r_popR (pc' : Nat) {v : Option Nat} (hd : decode M.2.1 pc = .ok (.pop, 1)) (hp : pc + 1 = pc') (k : q_X C F M pc' ls st x) : q_X C F M pc ls (va_rf v :: st) x := by subst hp; exact q_s1 hd ⟨rfl, rfl, rfl, va_rf v, (q_cat v), rfl⟩ k
theorem r_dup_x1II (pc' : Nat) {v : Int32} {w : Int32} (hd : decode M.2.1 pc = .ok (.dup_x1, 1)) (hp : pc + 1 = pc') (k : q_X C F M pc' ls (.int v :: .int w :: .int v :: st) x) : q_X C F M pc ls (.int v :: .int w :: st) x := by subst hp; exact q_s1 hd ⟨rfl, rfl, rfl, .int v, .int w, st, rfl, rfl, rfl, rfl⟩ k
theorem r_dup2II (pc' : Nat) {v : Int32} {w : Int32} (hd : decode M.2.1 pc = .ok (.dup2, 1)) (hp : pc + 1 = pc') (k : q_X C F M pc' ls (.int v :: .int w :: .int v :: .int w :: st) x) : q_X C F M pc ls (.int v :: .int w :: st) x := by subst hp; exact q_s1 hd ⟨rfl, rfl, rfl, .int v, .int w, st, rfl, rfl, rfl, rfl⟩ k
theorem r_dup_x1IR (pc' : Nat) {v : Int32} {w : Option Nat} (hd : decode M.2.1 pc = .ok (.dup_x1, 1)) (hp : pc + 1 = pc') (k : q_X C F M pc' ls (.int v :: va_rf w :: .int v :: st) x) : q_X C F M pc ls (.int v :: va_rf w :: st) x := by subst hp; exact q_s1 hd ⟨rfl, rfl, rfl, .int v, va_rf w, st, rfl, (q_cat w), rfl, rfl⟩ k
theorem r_dup2IR (pc' : Nat) {v : Int32} {w : Option Nat} (hd : decode M.2.1 pc = .ok (.dup2, 1)) (hp : pc + 1 = pc') (k : q_X C F M pc' ls (.int v :: va_rf w :: .int v :: va_rf w :: st) x) : q_X C F M pc ls (.int v :: va_rf w :: st) x := by subst hp; exact q_s1 hd ⟨rfl, rfl, rfl, .int v, va_rf w, st, rfl, (q_cat w), rfl, rfl⟩ k
theorem r_dup_x1RI (pc' : Nat) {v : Option Nat} {w : Int32} (hd : decode M.2.1 pc = .ok (.dup_x1, 1)) (hp : pc + 1 = pc') (k : q_X C F M pc' ls (va_rf v :: .int w :: va_rf v :: st) x) : q_X C F M pc ls (va_rf v :: .int w :: st) x := by subst hp; exact q_s1 hd ⟨rfl, rfl, rfl, va_rf v, .int w, st, (q_cat v), rfl, rfl, rfl⟩ k
theorem r_dup2RI (pc' : Nat) {v : Option Nat} {w : Int32} (hd : decode M.2.1 pc = .ok (.dup2, 1)) (hp : pc + 1 = pc') (k : q_X C F M pc' ls (va_rf v :: .int w :: va_rf v :: .int w :: st) x) : q_X C F M pc ls (va_rf v :: .int w :: st) x := by subst hp; exact q_s1 hd ⟨rfl, rfl, rfl, va_rf v, .int w, st, (q_cat v), rfl, rfl, rfl⟩ k
theorem r_dup_x1RR (pc' : Nat) {v : Option Nat} {w : Option Nat} (hd : decode M.2.1 pc = .ok (.dup_x1, 1)) (hp : pc + 1 = pc') (k : q_X C F M pc' ls (va_rf v :: va_rf w :: va_rf v :: st) x) : q_X C F M pc ls (va_rf v :: va_rf w :: st) x := by subst hp; exact q_s1 hd ⟨rfl, rfl, rfl, va_rf v, va_rf w, st, (q_cat v), (q_cat w), rfl, rfl⟩ k
theorem r_dup2RR (pc' : Nat) {v : Option Nat} {w : Option Nat} (hd : decode M.2.1 pc = .ok (.dup2, 1)) (hp : pc + 1 = pc') (k : q_X C F M pc' ls (va_rf v :: va_rf w :: va_rf v :: va_rf w :: st) x) : q_X C F M pc ls (va_rf v :: va_rf w :: st) x := by subst hp; exact q_s1 hd ⟨rfl, rfl, rfl, va_rf v, va_rf w, st, (q_cat v), (q_cat w), rfl, rfl⟩ k
theorem r_if_t (pc' : Nat) {cn : ClassFile.Cond} {off : Int} {v : Int32} (hd : decode M.2.1 pc = .ok (.ifCond cn off, 3)) (ht : (pc : Int) + off = (pc' : Int)) (hc : q_cnd cn v 0) (k : q_X C F M pc' ls st x) : q_X C F M pc ls (.int v :: st) x := q_s1 hd ⟨rfl, rfl, v, pc', rfl, ht, Or.inl ⟨hc, rfl⟩⟩ k
theorem r_if_f (pc' tgt : Nat) {cn : ClassFile.Cond} {off : Int} {v : Int32} (hd : decode M.2.1 pc = .ok (.ifCond cn off, 3)) (ht : (pc : Int) + off = (tgt : Int)) (hc : ¬ q_cnd cn v 0) (hp : pc + 3 = pc') (k : q_X C F M pc' ls st x) : q_X C F M pc ls (.int v :: st) x := by subst hp; exact q_s1 hd ⟨rfl, rfl, v, tgt, rfl, ht, Or.inr ⟨hc, rfl⟩⟩ k
theorem r_ic_t (pc' : Nat) {cn : ClassFile.Cond} {off : Int} {a b : Int32} (hd : decode M.2.1 pc = .ok (.if_icmp cn off, 3)) (ht : (pc : Int) + off = (pc' : Int)) (hc : q_cnd cn a b) (k : q_X C F M pc' ls st x) : q_X C F M pc ls (.int b :: .int a :: st) x := q_s1 hd ⟨rfl, rfl, a, b, pc', rfl, ht, Or.inl ⟨hc, rfl⟩⟩ k
theorem r_ic_f (pc' tgt : Nat) {cn : ClassFile.Cond} {off : Int} {a b : Int32} (hd : decode M.2.1 pc = .ok (.if_icmp cn off, 3)) (ht : (pc : Int) + off = (tgt : Int)) (hc : ¬ q_cnd cn a b) (hp : pc + 3 = pc') (k : q_X C F M pc' ls st x) : q_X C F M pc ls (.int b :: .int a :: st) x := by subst hp; exact q_s1 hd ⟨rfl, rfl, a, b, tgt, rfl, ht, Or.inr ⟨hc, rfl⟩⟩ k
theorem r_ac_t (pc' : Nat) {cn : ClassFile.ACond} {off : Int} {a b : Option Nat} (hd : decode M.2.1 pc = .ok (.if_acmp cn off, 3)) (ht : (pc : Int) + off = (pc' : Int)) (hc : q_acn cn a b) (k : q_X C F M pc' ls st x) : q_X C F M pc ls (va_rf b :: va_rf a :: st) x := q_s1 hd ⟨rfl, rfl, a, b, pc', rfl, ht, Or.inl ⟨hc, rfl⟩⟩ k
theorem r_ac_f (pc' tgt : Nat) {cn : ClassFile.ACond} {off : Int} {a b : Option Nat} (hd : decode M.2.1 pc = .ok (.if_acmp cn off, 3)) (ht : (pc : Int) + off = (tgt : Int)) (hc : ¬ q_acn cn a b) (hp : pc + 3 = pc') (k : q_X C F M pc' ls st x) : q_X C F M pc ls (va_rf b :: va_rf a :: st) x := by subst hp; exact q_s1 hd ⟨rfl, rfl, a, b, tgt, rfl, ht, Or.inr ⟨hc, rfl⟩⟩ k
theorem r_ifnull_t (pc' : Nat) {off : Int} {r : Option Nat} (hd : decode M.2.1 pc = .ok (.ifnull off, 3)) (ht : (pc : Int) + off = (pc' : Int)) (hc : r = none) (k : q_X C F M pc' ls st x) : q_X C F M pc ls (va_rf r :: st) x := q_s1 hd ⟨rfl, rfl, r, pc', rfl, ht, Or.inl ⟨hc, rfl⟩⟩ k
theorem r_ifnull_f (pc' tgt : Nat) {off : Int} {r : Option Nat} (hd : decode M.2.1 pc = .ok (.ifnull off, 3)) (ht : (pc : Int) + off = (tgt : Int)) (hc : ¬ r = none) (hp : pc + 3 = pc') (k : q_X C F M pc' ls st x) : q_X C F M pc ls (va_rf r :: st) x := by subst hp; exact q_s1 hd ⟨rfl, rfl, r, tgt, rfl, ht, Or.inr ⟨hc, rfl⟩⟩ k
theorem r_ifnonnull_t (pc' : Nat) {off : Int} {r : Option Nat} (hd : decode M.2.1 pc = .ok (.ifnonnull off, 3)) (ht : (pc : Int) + off = (pc' : Int)) (hc : ¬ r = none) (k : q_X C F M pc' ls st x) : q_X C F M pc ls (va_rf r :: st) x := q_s1 hd ⟨rfl, rfl, r, pc', rfl, ht, Or.inl ⟨hc, rfl⟩⟩ k
theorem r_ifnonnull_f (pc' tgt : Nat) {off : Int} {r : Option Nat} (hd : decode M.2.1 pc = .ok (.ifnonnull off, 3)) (ht : (pc : Int) + off = (tgt : Int)) (hc : r = none) (hp : pc + 3 = pc') (k : q_X C F M pc' ls st x) : q_X C F M pc ls (va_rf r :: st) x := by subst hp; exact q_s1 hd ⟨rfl, rfl, r, tgt, rfl, ht, Or.inr ⟨hc, rfl⟩⟩ k
theorem r_goto (pc' : Nat) {off : Int} (hd : decode M.2.1 pc = .ok (.goto off, 3)) (ht : (pc : Int) + off = (pc' : Int)) (k : q_X C F M pc' ls st x) : q_X C F M pc ls st x := q_s1 hd ⟨rfl, rfl, rfl, pc', ht, rfl⟩ k
theorem r_swD (pc' : Nat) {d lo hi : Int} {offs : Array Int} {len : Nat} {v : Int32} (hd : decode M.2.1 pc = .ok (.tableswitch d lo hi offs, len)) (hc : v.toInt < lo ∨ hi < v.toInt) (ht : (pc : Int) + d = (pc' : Int)) (k : q_X C F M pc' ls st x) : q_X C F M pc ls (.int v :: st) x := q_s1 hd ⟨rfl, v, rfl, Or.inl ⟨hc, ht⟩⟩ k
theorem r_sw (pc' : Nat) {d lo hi off : Int} {offs : Array Int} {len : Nat} {v : Int32} (hd : decode M.2.1 pc = .ok (.tableswitch d lo hi offs, len)) (h1 : ¬ v.toInt < lo) (h2 : ¬ hi < v.toInt) (ho : offs[(v.toInt - lo).toNat]? = some off) (ht : (pc : Int) + off = (pc' : Int)) (k : q_X C F M pc' ls st x) : q_X C F M pc ls (.int v :: st) x := q_s1 hd ⟨rfl, v, rfl, Or.inr ⟨h1, h2, off, ho, ht⟩⟩ k
theorem r_getI (pc' : Nat) (i : Nat) {idx ci fk : Nat} {ref : String} {host : Option String} {ty : FieldType} {fin : Bool} {r : Option Nat} {v : Int32} (hd : decode M.2.1 pc = .ok (.getfield idx, 3)) (he : q_FL[i]? = some (M.1.cls, idx, ci, fk, ref, host, ty, fin)) (hg : q_gI x r ci fk = some v) (hp : pc + 3 = pc') (k : q_X C F M pc' ls (.int v :: st) x) : q_X C F M pc ls (va_rf r :: st) x := by
  subst hp
  obtain ⟨a, rfl, h1, h2⟩ := q_gI_sp hg
  exact q_s1 hd ⟨rfl, rfl, rfl, _, a, st, List.mem_of_getElem? he, rfl, rfl, rfl, h1, by show _ = q_fd x ci fk a :: st; rw [h2]⟩ k
theorem r_getR (pc' : Nat) (i : Nat) {idx ci fk : Nat} {ref : String} {host : Option String} {ty : FieldType} {fin : Bool} {r v : Option Nat} (hd : decode M.2.1 pc = .ok (.getfield idx, 3)) (he : q_FL[i]? = some (M.1.cls, idx, ci, fk, ref, host, ty, fin)) (hg : q_gR x r ci fk = some v) (hp : pc + 3 = pc') (k : q_X C F M pc' ls (va_rf v :: st) x) : q_X C F M pc ls (va_rf r :: st) x := by
  subst hp
  obtain ⟨a, rfl, h1, h2⟩ := q_gR_sp hg
  exact q_s1 hd ⟨rfl, rfl, rfl, _, a, st, List.mem_of_getElem? he, rfl, rfl, rfl, h1, by show _ = q_fd x ci fk a :: st; rw [h2]⟩ k
theorem r_gets (pc' : Nat) {idx : Nat} (hd : decode M.2.1 pc = .ok (.getstatic idx, 3)) (i : Nat) (he : q_SL[i]? = some (M.1.cls, idx)) (hp : pc + 3 = pc') (k : q_X C F M pc' ls (va_rf (some (q_z0 x)) :: st) x) : q_X C F M pc ls st x := by
  subst hp
  exact q_s1 hd ⟨rfl, rfl, rfl, List.mem_of_getElem? he, rfl⟩ k
theorem r_ldI (pc' t : Nat) {r : Option Nat} {i v : Int32} (hd : decode M.2.1 pc = .ok (.iaload, 1)) (ht : q_kd t = 0) (hg : q_lI x t r i = some v) (hp : pc + 1 = pc') (k : q_X C F M pc' ls (.int v :: st) x) : q_X C F M pc ls (.int i :: va_rf r :: st) x := by
  subst hp
  obtain ⟨a, y, rfl, h1, h2, rfl⟩ := q_lI_sp hg
  exact q_s1 hd ⟨rfl, rfl, rfl, a, i, st, rfl, Or.inl ⟨t, y.1, y.2, ht, h1, h2, rfl⟩⟩ k
theorem r_ldZ (pc' t : Nat) {r : Option Nat} {i v : Int32} (hd : decode M.2.1 pc = .ok (.baload, 1)) (ht : q_kd t = 1) (hg : q_lI x t r i = some v) (hp : pc + 1 = pc') (k : q_X C F M pc' ls (.int v :: st) x) : q_X C F M pc ls (.int i :: va_rf r :: st) x := by
  subst hp
  obtain ⟨a, y, rfl, h1, h2, rfl⟩ := q_lI_sp hg
  exact q_s1 hd ⟨rfl, rfl, rfl, a, i, st, t, y.1, y.2, rfl, ht, h1, h2, rfl⟩ k
theorem r_ldS (pc' : Nat) {r : Option Nat} {i v : Int32} (hd : decode M.2.1 pc = .ok (.iaload, 1)) (hg : q_lS x r i = some v) (hp : pc + 1 = pc') (k : q_X C F M pc' ls (.int v :: st) x) : q_X C F M pc ls (.int i :: va_rf r :: st) x := by
  subst hp
  unfold q_lS at hg
  rcases q_ite hg with ⟨⟨rfl, h2⟩, hg⟩ | ⟨-, hg⟩
  · cases hg
    exact q_s1 hd ⟨rfl, rfl, rfl, q_sb x, i, st, rfl, Or.inr ⟨rfl, h2, rfl⟩⟩ k
  · cases hg
theorem r_ldR (pc' t : Nat) {r v : Option Nat} {i : Int32} (hd : decode M.2.1 pc = .ok (.aaload, 1)) (hg : q_lR x t r i = some v) (hp : pc + 1 = pc') (k : q_X C F M pc' ls (va_rf v :: st) x) : q_X C F M pc ls (.int i :: va_rf r :: st) x := by
  subst hp
  obtain ⟨a, y, rfl, h1, h2, rfl⟩ := q_lR_sp hg
  exact q_s1 hd ⟨rfl, rfl, rfl, a, i, st, t, y.1, y.2, rfl, h1, h2, rfl⟩ k
theorem r_len (pc' t : Nat) {r : Option Nat} {v : Int32} (hd : decode M.2.1 pc = .ok (.arraylength, 1)) (hg : q_len x t r = some v) (hp : pc + 1 = pc') (k : q_X C F M pc' ls (.int v :: st) x) : q_X C F M pc ls (va_rf r :: st) x := by
  subst hp
  obtain ⟨a, y, rfl, h1, rfl⟩ := q_len_sp hg
  exact q_s1 hd ⟨rfl, rfl, rfl, a, st, rfl, Or.inl ⟨t, y.1, y.2, h1, rfl⟩⟩ k
theorem r_lenR (pc' t : Nat) {r : Option Nat} {v : Int32} (hd : decode M.2.1 pc = .ok (.arraylength, 1)) (hg : q_lenR x t r = some v) (hp : pc + 1 = pc') (k : q_X C F M pc' ls (.int v :: st) x) : q_X C F M pc ls (va_rf r :: st) x := by
  subst hp
  obtain ⟨a, rfl, h⟩ := q_lenR_sp hg
  rcases h with ⟨y, h1, rfl⟩ | ⟨rfl, rfl⟩
  · exact q_s1 hd ⟨rfl, rfl, rfl, a, st, rfl, Or.inr (Or.inl ⟨t, y.1, y.2, h1, rfl⟩)⟩ k
  · exact q_s1 hd ⟨rfl, rfl, rfl, q_z0 x, st, rfl, Or.inr (Or.inr (Or.inl ⟨rfl, rfl⟩))⟩ k
theorem r_lenS (pc' : Nat) {r : Option Nat} {v : Int32} (hd : decode M.2.1 pc = .ok (.arraylength, 1)) (hg : q_lenS x r = some v) (hp : pc + 1 = pc') (k : q_X C F M pc' ls (.int v :: st) x) : q_X C F M pc ls (va_rf r :: st) x := by
  subst hp
  unfold q_lenS at hg
  rcases q_ite hg with ⟨rfl, hg⟩ | ⟨-, hg⟩
  · cases hg
    exact q_s1 hd ⟨rfl, rfl, rfl, q_sb x, st, rfl, Or.inr (Or.inr (Or.inr ⟨rfl, rfl⟩))⟩ k
  · cases hg
theorem r_cast (pc' i ci : Nat) {idx : Nat} {r : Option Nat} {u : Unit} {q : vw_C} (hd : decode M.2.1 pc = .ok (.checkcast idx, 3)) (hq : vwCl[ci]? = some q) (he : q_KL[i]? = some (M.1.cls, idx, q.1)) (hg : q_ck x r ci = some u) (hp : pc + 3 = pc') (k : q_X C F M pc' ls (va_rf r :: st) x) : q_X C F M pc ls (va_rf r :: st) x := by
  subst hp
  cases r with
  | none => exact q_s1 hd ⟨rfl, rfl, rfl, rfl, Or.inl ⟨st, rfl⟩⟩ k
  | some a =>
    unfold q_ck at hg
    dsimp only at hg
    rcases q_ite hg with ⟨hc, -⟩ | ⟨-, hg⟩
    · exact q_s1 hd ⟨rfl, rfl, rfl, rfl, Or.inr (Or.inl ⟨a, ci, st, q, rfl, hc, hq, List.mem_of_getElem? he⟩)⟩ k
    · cases hg
theorem r_castA (pc' i t : Nat) {idx a : Nat} {r : Option Nat} (hd : decode M.2.1 pc = .ok (.checkcast idx, 3)) (he : q_KL[i]? = some (M.1.cls, idx, "[Ljava/lang/Object;")) (hg : q_aa x t r = some a) (hp : pc + 3 = pc') (k : q_X C F M pc' ls (va_rf r :: st) x) : q_X C F M pc ls (va_rf r :: st) x := by
  subst hp
  obtain ⟨rfl, y, h1⟩ := q_aa_sp hg
  exact q_s1 hd ⟨rfl, rfl, rfl, rfl, Or.inr (Or.inr ⟨a, t, y.1, y.2, st, rfl, h1, List.mem_of_getElem? he⟩)⟩ k
theorem r_ldc2 (pc' i : Nat) {idx : Nat} {v : Int64} (hd : decode M.2.1 pc = .ok (.ldc2_w idx, 3)) (he : q_DL[i]? = some (M.1.cls, idx, v)) (hp : pc + 3 = pc') (k : q_X C F M pc' ls (.long v :: st) x) : q_X C F M pc ls st x := by
  subst hp
  exact q_s1 hd ⟨rfl, rfl, rfl, v, List.mem_of_getElem? he, rfl⟩ k
theorem r_ldcM (pc' i : Nat) {idx : Nat} (hd : decode M.2.1 pc = .ok (.ldc idx, 2)) (he : q_ML[i]? = some (M.1.cls, idx)) (hp : pc + 2 = pc') (k : q_X C F M pc' ls (va_rf (some (q_mo x)) :: st) x) : q_X C F M pc ls st x := by
  subst hp
  exact q_s1 hd ⟨rfl, rfl, rfl, Or.inl ⟨List.mem_of_getElem? he, rfl⟩⟩ k
theorem r_ldcI (pc' i : Nat) {idx : Nat} {v : Int32} (hd : decode M.2.1 pc = .ok (.ldc idx, 2)) (he : q_IL[i]? = some (M.1.cls, idx, v)) (hp : pc + 2 = pc') (k : q_X C F M pc' ls (.int v :: st) x) : q_X C F M pc ls st x := by
  subst hp
  exact q_s1 hd ⟨rfl, rfl, rfl, Or.inr ⟨v, List.mem_of_getElem? he, rfl⟩⟩ k
theorem r_obj (pc' i : Nat) {idx a : Nat} (hd : decode M.2.1 pc = .ok (.invokespecial idx, 3)) (he : q_OL[i]? = some (M.1.cls, idx)) (hs : (st.map fun v => v.category).sum ≤ 8) (hp : pc + 3 = pc') (k : q_X C F M pc' ls st x) : q_X C F M pc ls (va_rf (some a) :: st) x := by
  subst hp
  exact q_s1 hd ⟨rfl, rfl, rfl, List.mem_of_getElem? he, hs, a, rfl⟩ k
theorem r_getC (pc' i t : Nat) {idx a : Nat} {r : Option Nat} (hd : decode M.2.1 pc = .ok (.invokevirtual idx, 3)) (he : q_GL[i]? = some (M.1.cls, idx)) (hs : (st.map fun v => v.category).sum ≤ 8) (hg : q_aa x t r = some a) (hp : pc + 3 = pc') (k : q_X C F M pc' ls (va_rf (some (q_mo x)) :: st) x) : q_X C F M pc ls (va_rf r :: st) x := by
  subst hp
  obtain ⟨rfl, y, h1⟩ := q_aa_sp hg
  exact q_s1 hd ⟨rfl, rfl, rfl, List.mem_of_getElem? he, a, t, y.1, y.2, st, hs, rfl, h1, rfl⟩ k
theorem r_max (pc' i : Nat) {idx : Nat} {a b : Int32} (hd : decode M.2.1 pc = .ok (.invokestatic idx, 3)) (he : q_XL[i]? = some (M.1.cls, idx)) (hs : (st.map fun v => v.category).sum ≤ 8) (hp : pc + 3 = pc') (k : q_X C F M pc' ls (.int (if a < b then b else a) :: st) x) : q_X C F M pc ls (.int b :: .int a :: st) x := by
  subst hp
  exact q_s1 hd ⟨rfl, rfl, rfl, a, b, st, hs, rfl, Or.inl ⟨List.mem_of_getElem? he, rfl⟩⟩ k
theorem r_min (pc' i : Nat) {idx : Nat} {a b : Int32} (hd : decode M.2.1 pc = .ok (.invokestatic idx, 3)) (he : q_VL[i]? = some (M.1.cls, idx)) (hs : (st.map fun v => v.category).sum ≤ 8) (hp : pc + 3 = pc') (k : q_X C F M pc' ls (.int (if b < a then b else a) :: st) x) : q_X C F M pc ls (.int b :: .int a :: st) x := by
  subst hp
  exact q_s1 hd ⟨rfl, rfl, rfl, a, b, st, hs, rfl, Or.inr ⟨List.mem_of_getElem? he, rfl⟩⟩ k
theorem r_putI (pc' : Nat) (i : Nat) {idx ci fk : Nat} {ref : String} {host : Option String} {ty : FieldType} {fin : Bool} {r : Option Nat} {v : Int32} {x1 : q_S} (hd : decode M.2.1 pc = .ok (.putfield idx, 3)) (he : q_FL[i]? = some (M.1.cls, idx, ci, fk, ref, host, ty, fin)) (hty : ty = .int) (hff : fin = false ∨ (host = none ∧ M.1.name = "<init>")) (hg : q_pI x r ci fk v = some x1) (hp : pc + 3 = pc') (k : q_X C F M pc' ls st x1) : q_X C F M pc ls (.int v :: va_rf r :: st) x := by
  subst hp
  subst hty
  obtain ⟨a, rfl, h1, rfl⟩ := q_pI_sp hg
  exact q_s2 hd ⟨rfl, rfl, rfl, _, a, .int v, List.mem_of_getElem? he, rfl, rfl, rfl, h1, rfl, rfl, hff, rfl⟩ k
theorem r_putZ (pc' : Nat) (i : Nat) {idx ci fk : Nat} {ref : String} {host : Option String} {ty : FieldType} {fin : Bool} {r : Option Nat} {v : Int32} {x1 : q_S} (hd : decode M.2.1 pc = .ok (.putfield idx, 3)) (he : q_FL[i]? = some (M.1.cls, idx, ci, fk, ref, host, ty, fin)) (hty : ty = .boolean) (hff : fin = false ∨ (host = none ∧ M.1.name = "<init>")) (hg : q_pZ x r ci fk v = some x1) (hp : pc + 3 = pc') (k : q_X C F M pc' ls st x1) : q_X C F M pc ls (.int v :: va_rf r :: st) x := by
  subst hp
  subst hty
  obtain ⟨a, rfl, h1, h2, rfl⟩ := q_pZ_sp hg
  refine q_s2 hd ⟨rfl, rfl, rfl, _, a, .int v, List.mem_of_getElem? he, rfl, rfl, rfl, h1, ?_, ?_, hff, rfl⟩ k
  · rcases h2 with rfl | rfl <;> decide
  · rcases h2 with rfl | rfl <;> decide
theorem r_putR (pc' : Nat) (i : Nat) {idx ci fk : Nat} {ref : String} {host : Option String} {ty : FieldType} {fin : Bool} {r v : Option Nat} {x1 : q_S} {cn : String} (hd : decode M.2.1 pc = .ok (.putfield idx, 3)) (he : q_FL[i]? = some (M.1.cls, idx, ci, fk, ref, host, ty, fin)) (hty : ty = .object cn) (hff : fin = false ∨ (host = none ∧ M.1.name = "<init>")) (hg : q_pR x r ci fk v = some x1) (hp : pc + 3 = pc') (k : q_X C F M pc' ls st x1) : q_X C F M pc ls (va_rf v :: va_rf r :: st) x := by
  subst hp
  subst hty
  obtain ⟨a, rfl, h1, rfl⟩ := q_pR_sp hg
  exact q_s2 hd ⟨rfl, rfl, rfl, _, a, va_rf v, List.mem_of_getElem? he, rfl, rfl, rfl, h1, by cases v <;> rfl, by cases v <;> rfl, hff, rfl⟩ k
theorem r_putA (pc' : Nat) (i : Nat) {idx ci fk : Nat} {ref : String} {host : Option String} {ty : FieldType} {fin : Bool} {r v : Option Nat} {x1 : q_S} {cn : FieldType} (hd : decode M.2.1 pc = .ok (.putfield idx, 3)) (he : q_FL[i]? = some (M.1.cls, idx, ci, fk, ref, host, ty, fin)) (hty : ty = .array cn) (hff : fin = false ∨ (host = none ∧ M.1.name = "<init>")) (hg : q_pR x r ci fk v = some x1) (hp : pc + 3 = pc') (k : q_X C F M pc' ls st x1) : q_X C F M pc ls (va_rf v :: va_rf r :: st) x := by
  subst hp
  subst hty
  obtain ⟨a, rfl, h1, rfl⟩ := q_pR_sp hg
  exact q_s2 hd ⟨rfl, rfl, rfl, _, a, va_rf v, List.mem_of_getElem? he, rfl, rfl, rfl, h1, by cases v <;> rfl, by cases v <;> rfl, hff, rfl⟩ k
theorem r_stI (pc' t : Nat) {r : Option Nat} {i v : Int32} {x1 : q_S} (hd : decode M.2.1 pc = .ok (.iastore, 1)) (ht : q_kd t = 0) (hg : q_sI x t r i v = some x1) (hp : pc + 1 = pc') (k : q_X C F M pc' ls st x1) : q_X C F M pc ls (.int v :: .int i :: va_rf r :: st) x := by
  subst hp
  obtain ⟨a, y, rfl, h1, h2, rfl⟩ := q_sI_sp hg
  exact q_s2 hd ⟨rfl, rfl, rfl, a, t, y.1, i, v, y.2, rfl, ht, h1, h2, rfl⟩ k
theorem r_stZ (pc' t : Nat) {r : Option Nat} {i v : Int32} {x1 : q_S} (hd : decode M.2.1 pc = .ok (.bastore, 1)) (ht : q_kd t = 1) (hg : q_sI x t r i (v &&& 1) = some x1) (hp : pc + 1 = pc') (k : q_X C F M pc' ls st x1) : q_X C F M pc ls (.int v :: .int i :: va_rf r :: st) x := by
  subst hp
  obtain ⟨a, y, rfl, h1, h2, rfl⟩ := q_sI_sp hg
  exact q_s2 hd ⟨rfl, rfl, rfl, a, t, y.1, i, v, y.2, rfl, ht, h1, h2, rfl⟩ k
theorem r_stR (pc' t : Nat) {r v : Option Nat} {i : Int32} {x1 : q_S} (hd : decode M.2.1 pc = .ok (.aastore, 1)) (hg : q_sR x t r i v = some x1) (hp : pc + 1 = pc') (k : q_X C F M pc' ls st x1) : q_X C F M pc ls (va_rf v :: .int i :: va_rf r :: st) x := by
  subst hp
  obtain ⟨a, y, rfl, h1, h2, h3, rfl⟩ := q_sR_sp hg
  exact q_s2 hd ⟨rfl, rfl, rfl, a, t, y.1, i, v, y.2, rfl, h1, h2, h3, rfl⟩ k
theorem r_new (pc' i : Nat) {idx ci : Nat} {dv : List Value} {x1 : q_S} (hd : decode M.2.1 pc = .ok (.new idx, 3)) (he : q_NL[i]? = some (M.1.cls, idx, ci, dv)) (hg : q_nO x ci dv = some x1) (hp : pc + 3 = pc') (k : q_X C F M pc' ls (va_rf (some (q_sz x)) :: st) x1) : q_X C F M pc ls st x := by
  subst hp
  cases hg
  exact q_s2 hd ⟨rfl, rfl, rfl, _, List.mem_of_getElem? he, rfl, rfl, rfl, rfl⟩ k
theorem r_newI (pc' t : Nat) {v : Int32} {x1 : q_S} (hd : decode M.2.1 pc = .ok (.newarray .int, 2)) (ht : q_kd t = 0) (hg : q_nI x t v = some x1) (hp : pc + 2 = pc') (k : q_X C F M pc' ls (va_rf (some (q_sz x)) :: st) x1) : q_X C F M pc ls (.int v :: st) x := by
  subst hp
  obtain ⟨h1, h2, rfl⟩ := q_nI_sp hg
  exact q_s2 hd ⟨rfl, rfl, rfl, v, t, st, rfl, h1, h2, Or.inl ⟨rfl, ht⟩, rfl, rfl⟩ k
theorem r_newZ (pc' t : Nat) {v : Int32} {x1 : q_S} (hd : decode M.2.1 pc = .ok (.newarray .boolean, 2)) (ht : q_kd t = 1) (hg : q_nI x t v = some x1) (hp : pc + 2 = pc') (k : q_X C F M pc' ls (va_rf (some (q_sz x)) :: st) x1) : q_X C F M pc ls (.int v :: st) x := by
  subst hp
  obtain ⟨h1, h2, rfl⟩ := q_nI_sp hg
  exact q_s2 hd ⟨rfl, rfl, rfl, v, t, st, rfl, h1, h2, Or.inr ⟨rfl, ht⟩, rfl, rfl⟩ k
theorem r_newR (pc' t i : Nat) {idx : Nat} {v : Int32} {x1 : q_S} (hd : decode M.2.1 pc = .ok (.anewarray idx, 3)) (he : q_QL[i]? = some (M.1.cls, idx)) (hg : q_nR x t v = some x1) (hp : pc + 3 = pc') (k : q_X C F M pc' ls (va_rf (some (q_sz x)) :: st) x1) : q_X C F M pc ls (.int v :: st) x := by
  subst hp
  obtain ⟨h1, h2, rfl⟩ := q_nR_sp hg
  exact q_s2 hd ⟨rfl, rfl, rfl, List.mem_of_getElem? he, v, t, st, rfl, h1, h2, rfl, rfl⟩ k
theorem q_cp_sp {t : Nat} {r0 r1 : Option Nat} {sp dp n : Int32} {x1 : q_S} (h : q_cp x t r0 sp r1 dp n = some x1) : ∃ a0 a1 y z, r0 = some a0 ∧ r1 = some a1 ∧ q_ar x t a0 = some y ∧ q_ar x t a1 = some z ∧ ¬ sp < 0 ∧ ¬ dp < 0 ∧ ¬ n < 0 ∧ sp.toNatClampNeg + n.toNatClampNeg ≤ y.1 ∧ dp.toNatClampNeg + n.toNatClampNeg ≤ z.1 ∧ (∀ i : Nat, i < n.toNatClampNeg → ∀ b : Nat, y.2 (sp.toNatClampNeg + i) = some b → ∃ ci, q_al x ci b = true ∧ ci ∈ q_AL) ∧ x1 = q_putR x t a1 z.1 (va_cpy y.2 z.2 sp.toNatClampNeg dp.toNatClampNeg n.toNatClampNeg) := by
  unfold q_cp at h
  split at h
  · next a0 a1 =>
    split at h
    · next y z e1 e2 =>
      rcases q_ite h with ⟨-, h⟩ | ⟨hc, h⟩
      · cases h
      · cases h
        simp only [not_or] at hc
        obtain ⟨c1, c2, c3, c4, c5, c6⟩ := hc
        refine ⟨a0, a1, y, z, rfl, rfl, e1, e2, c1, c2, c3, by omega, by omega, fun i hi => ?_, rfl⟩
        have c7 : (List.range n.toNatClampNeg).all (fun i => q_ok x (y.2 (sp.toNatClampNeg + i))) = true := by
          cases hk : (List.range n.toNatClampNeg).all (fun i => q_ok x (y.2 (sp.toNatClampNeg + i))) with
          | true => rfl
          | false => exact absurd hk c6
        exact q_ok_sp (List.all_eq_true.mp c7 i (List.mem_range.mpr hi))
    · cases h
  · cases h
theorem r_copy (pc' t i : Nat) {idx : Nat} {r0 r1 : Option Nat} {sp dp n : Int32} {x1 : q_S} (hd : decode M.2.1 pc = .ok (.invokestatic idx, 3)) (he : q_YL[i]? = some (M.1.cls, idx)) (hs : (st.map fun v => v.category).sum ≤ 8) (hg : q_cp x t r0 sp r1 dp n = some x1) (hp : pc + 3 = pc') (k : q_X C F M pc' ls st x1) : q_X C F M pc ls (.int n :: .int dp :: va_rf r1 :: .int sp :: va_rf r0 :: st) x := by
  subst hp
  obtain ⟨a0, a1, y, z, rfl, rfl, h1, h2, h3, h4, h5, h6, h7, h8, rfl⟩ := q_cp_sp hg
  exact q_s2 hd ⟨rfl, rfl, rfl, List.mem_of_getElem? he, hs, n, dp, sp, a0, a1, t, t, y.1, z.1, y.2, z.2, rfl, h1, h2, h3, h4, h5, h6, h7, h8, rfl⟩ k
theorem r_cS (pc' i : Nat) {idx : Nat} {M' : q_M} {host : Option String} (av st' : List Value) {x1 : q_S} {r : Option Value} (hd : decode M.2.1 pc = .ok (.invokestatic idx, 3)) (he : q_CS[i]? = some (M.1.cls, idx, M', host)) (hst : st = av.reverse ++ rest) (hn : av.length = M'.2.2.2.2) (hs : (rest.map fun v => v.category).sum ≤ 8) (hc : C M' av x x1 r) (hs' : r.toList ++ rest = st') (hp : pc + 3 = pc') (k : q_X C F M pc' ls st' x1) : q_X C F M pc ls st x := by
  subst hp
  subst hs'
  exact q_s3 hd ⟨rfl, hs, hn, hst, host, List.mem_of_getElem? he⟩ hc k
theorem r_cI (pc' i : Nat) {idx b : Nat} {M' : q_M} {host : Option String} (as st' : List Value) {x1 : q_S} {r : Option Value} (hd : decode M.2.1 pc = .ok (.invokespecial idx, 3)) (he : q_CI[i]? = some (M.1.cls, idx, M', host)) (hst : st = as.reverse ++ va_rf (some b) :: rest) (hn : as.length = M'.2.2.2.2) (hs : (rest.map fun v => v.category).sum ≤ 8) (hc : C M' (va_rf (some b) :: as) x x1 r) (hs' : r.toList ++ rest = st') (hp : pc + 3 = pc') (k : q_X C F M pc' ls st' x1) : q_X C F M pc ls st x := by
  subst hp
  subst hs'
  exact q_s3 hd ⟨rfl, hs, b, as, host, rfl, hn, hst, List.mem_of_getElem? he⟩ hc k
theorem r_cV (pc' i ci : Nat) {idx b : Nat} {M' : q_M} {host : Option String} {r0 : Option Nat} (as st' : List Value) {x1 : q_S} {r : Option Value} {q : vw_C} (hd : decode M.2.1 pc = .ok (.invokevirtual idx, 3)) (he : q_CV[i]? = some (M.1.cls, idx, M', host)) (hg : q_av x r0 ci = some b) (hq : vwCl[ci]? = some q) (hqc : q.1 = M'.1.cls) (hst : st = as.reverse ++ va_rf r0 :: rest) (hn : as.length = M'.2.2.2.2) (hs : (rest.map fun v => v.category).sum ≤ 8) (hc : C M' (va_rf (some b) :: as) x x1 r) (hs' : r.toList ++ rest = st') (hp : pc + 3 = pc') (k : q_X C F M pc' ls st' x1) : q_X C F M pc ls st x := by
  subst hp
  subst hs'
  obtain ⟨rfl, h1⟩ := q_av_sp hg
  exact q_s3 hd ⟨rfl, hs, b, ci, as, host, q, rfl, hn, hst, List.mem_of_getElem? he, h1, hq, hqc⟩ hc k
theorem r_iret {v : Int32} (hd : decode M.2.1 pc = .ok (.ireturn, 1)) (hr : M.2.2.2.1 = some .int) (hf : F x (some (.int v))) : q_X C F M pc ls [.int v] x := q_s4 hd ⟨rfl, v, rfl, rfl, Or.inl hr⟩ hf
theorem r_zret {v : Int32} (hd : decode M.2.1 pc = .ok (.ireturn, 1)) (hr : M.2.2.2.1 = some .boolean) (hv : v &&& 1 = v) (hf : F x (some (.int v))) : q_X C F M pc ls [.int v] x := q_s4 hd ⟨rfl, v, rfl, rfl, Or.inr ⟨hr, hv⟩⟩ hf
theorem r_lret {v : Int64} (hd : decode M.2.1 pc = .ok (.lreturn, 1)) (hr : M.2.2.2.1 = some .long) (hf : F x (some (.long v))) : q_X C F M pc ls [.long v] x := q_s4 hd ⟨rfl, v, rfl, rfl, hr⟩ hf
theorem r_aretO {v : Option Nat} {cn : String} (hd : decode M.2.1 pc = .ok (.areturn, 1)) (hr : M.2.2.2.1 = some (.object cn)) (hf : F x (some (va_rf v))) : q_X C F M pc ls [va_rf v] x := q_s4 hd ⟨rfl, v, _, rfl, rfl, hr, Or.inl ⟨cn, rfl⟩⟩ hf
theorem r_aretA {v : Option Nat} {cn : FieldType} (hd : decode M.2.1 pc = .ok (.areturn, 1)) (hr : M.2.2.2.1 = some (.array cn)) (hf : F x (some (va_rf v))) : q_X C F M pc ls [va_rf v] x := q_s4 hd ⟨rfl, v, _, rfl, rfl, hr, Or.inr ⟨cn, rfl⟩⟩ hf
theorem r_vret (hd : decode M.2.1 pc = .ok (.return_, 1)) (hr : M.2.2.2.1 = none) (hf : F x none) : q_X C F M pc ls [] x := q_s4 hd ⟨rfl, rfl, rfl, hr⟩ hf
theorem q_s8 {l : List Value} (h : l.length ≤ 4) : (l.map fun v => v.category).sum ≤ 8 := by
  have key : ∀ l : List Value, (l.map fun v => v.category).sum ≤ 2 * l.length := by
    intro l
    induction l with
    | nil => exact Nat.le_refl _
    | cons v t ih =>
      have hv : v.category ≤ 2 := by rcases lv_cat v with h | h <;> omega
      rw [List.map_cons, List.sum_cons, List.length_cons]
      omega
  exact Nat.le_trans (key l) (by omega)
end QROW
end
section
/-! More locals do no harm; more depth does no harm. -/
theorem q_st1_sub {a b : List (Nat × Value)} (h : ∀ q ∈ a, q ∈ b) (i : Nat) (v : Value) : ∀ q ∈ q_st1 a i v, q ∈ q_st1 b i v := by
  intro q hq
  rcases List.mem_cons.mp hq with h1 | h1
  · rw [h1]; exact List.mem_cons_self
  · obtain ⟨h2, h3⟩ := List.mem_filter.mp h1
    exact List.mem_cons_of_mem _ (List.mem_filter.mpr ⟨h q h2, h3⟩)
set_option maxHeartbeats 4000000 in
theorem q_smp_sub {M : q_M} {pc : Nat} {ins : ClassFile.Instr} {len : Nat} {a b : List (Nat × Value)} {st : List Value} {x : q_S} {pc' : Nat} {a' : List (Nat × Value)} {st' : List Value} (h : q_smp M pc ins len a st x pc' a' st') (hs : ∀ q ∈ a, q ∈ b) : ∃ b', q_smp M pc ins len b st x pc' b' st' ∧ ∀ q ∈ a', q ∈ b' := by
  cases ins with
  | iload_n i => obtain ⟨e1, e2, rfl, v, hv, e⟩ := h; exact ⟨b, ⟨e1, e2, rfl, v, hs _ hv, e⟩, hs⟩
  | iload i => obtain ⟨e1, e2, rfl, v, hv, e⟩ := h; exact ⟨b, ⟨e1, e2, rfl, v, hs _ hv, e⟩, hs⟩
  | aload_n i => obtain ⟨e1, e2, rfl, v, hv, e⟩ := h; exact ⟨b, ⟨e1, e2, rfl, v, hs _ hv, e⟩, hs⟩
  | aload i => obtain ⟨e1, e2, rfl, v, hv, e⟩ := h; exact ⟨b, ⟨e1, e2, rfl, v, hs _ hv, e⟩, hs⟩
  | istore_n i => obtain ⟨e1, e2, e3, v, e, rfl⟩ := h; exact ⟨_, ⟨e1, e2, e3, v, e, rfl⟩, q_st1_sub hs _ _⟩
  | istore i => obtain ⟨e1, e2, e3, v, e, rfl⟩ := h; exact ⟨_, ⟨e1, e2, e3, v, e, rfl⟩, q_st1_sub hs _ _⟩
  | astore_n i => obtain ⟨e1, e2, e3, v, e, rfl⟩ := h; exact ⟨_, ⟨e1, e2, e3, v, e, rfl⟩, q_st1_sub hs _ _⟩
  | astore i => obtain ⟨e1, e2, e3, v, e, rfl⟩ := h; exact ⟨_, ⟨e1, e2, e3, v, e, rfl⟩, q_st1_sub hs _ _⟩
  | iinc i n => obtain ⟨e1, e2, e3, e4, v, hv, rfl⟩ := h; exact ⟨_, ⟨e1, e2, e3, e4, v, hs _ hv, rfl⟩, q_st1_sub hs _ _⟩
  | ifCond cn off => obtain ⟨e1, rfl, e⟩ := h; exact ⟨b, ⟨e1, rfl, e⟩, hs⟩
  | if_icmp cn off => obtain ⟨e1, rfl, e⟩ := h; exact ⟨b, ⟨e1, rfl, e⟩, hs⟩
  | if_acmp cn off => obtain ⟨e1, rfl, e⟩ := h; exact ⟨b, ⟨e1, rfl, e⟩, hs⟩
  | ifnull off => obtain ⟨e1, rfl, e⟩ := h; exact ⟨b, ⟨e1, rfl, e⟩, hs⟩
  | ifnonnull off => obtain ⟨e1, rfl, e⟩ := h; exact ⟨b, ⟨e1, rfl, e⟩, hs⟩
  | goto off => obtain ⟨e1, rfl, e⟩ := h; exact ⟨b, ⟨e1, rfl, e⟩, hs⟩
  | tableswitch d lo hi offs => obtain ⟨rfl, e⟩ := h; exact ⟨b, ⟨rfl, e⟩, hs⟩
  | _ => first | exact False.elim h | (obtain ⟨e1, e2, rfl, e⟩ := h; exact ⟨b, ⟨e1, e2, rfl, e⟩, hs⟩)
theorem q_hp_sub {M : q_M} {pc : Nat} {ins : ClassFile.Instr} {len : Nat} {a b : List (Nat × Value)} {st : List Value} {x : q_S} {pc' : Nat} {a' : List (Nat × Value)} {st' : List Value} {x' : q_S} (h : q_hp M pc ins len a st x pc' a' st' x') (hs : ∀ q ∈ a, q ∈ b) : q_hp M pc ins len b st x pc' b st' x' ∧ ∀ q ∈ a', q ∈ b := by
  have hl := q_hp_ls h
  subst hl
  refine ⟨?_, hs⟩
  cases ins with
  | putfield idx => obtain ⟨e1, e2, -, e⟩ := h; exact ⟨e1, e2, rfl, e⟩
  | iastore => obtain ⟨e1, e2, -, e⟩ := h; exact ⟨e1, e2, rfl, e⟩
  | bastore => obtain ⟨e1, e2, -, e⟩ := h; exact ⟨e1, e2, rfl, e⟩
  | aastore => obtain ⟨e1, e2, -, e⟩ := h; exact ⟨e1, e2, rfl, e⟩
  | new idx => obtain ⟨e1, e2, -, e⟩ := h; exact ⟨e1, e2, rfl, e⟩
  | newarray ty => obtain ⟨e1, e2, -, e⟩ := h; exact ⟨e1, e2, rfl, e⟩
  | anewarray idx => obtain ⟨e1, e2, -, e⟩ := h; exact ⟨e1, e2, rfl, e⟩
  | invokestatic idx => obtain ⟨e1, e2, -, e⟩ := h; exact ⟨e1, e2, rfl, e⟩
  | _ => exact False.elim h
theorem q_run_sub {C : q_M → List Value → q_S → q_S → Option Value → Prop} {F : q_S → Option Value → Prop} {M : q_M} : ∀ (n pc : Nat) (a b : List (Nat × Value)) (st : List Value) (x : q_S), q_run C F M n pc a st x → (∀ q ∈ a, q ∈ b) → q_run C F M n pc b st x := by
  intro n
  induction n with
  | zero => intro pc a b st x h; exact False.elim h
  | succ n ih =>
    intro pc a b st x h hs
    obtain ⟨ins, len, hd, h⟩ := h
    refine ⟨ins, len, hd, ?_⟩
    rcases h with ⟨pc', ls', st', hh, h⟩ | ⟨pc', ls', st', x', hh, h⟩ | ⟨M', av, rest, x1, r, hh, hc, h⟩ | ⟨r, hh, hf⟩
    · obtain ⟨b', g1, g2⟩ := q_smp_sub hh hs
      exact Or.inl ⟨pc', b', st', g1, ih _ _ _ _ _ h g2⟩
    · obtain ⟨g1, g2⟩ := q_hp_sub hh hs
      exact Or.inr (Or.inl ⟨pc', b, st', x', g1, ih _ _ _ _ _ h g2⟩)
    · exact Or.inr (Or.inr (Or.inl ⟨M', av, rest, x1, r, hh, hc, ih _ _ _ _ _ h hs⟩))
    · exact Or.inr (Or.inr (Or.inr ⟨r, hh, hf⟩))
theorem q_sub {C : q_M → List Value → q_S → q_S → Option Value → Prop} {F : q_S → Option Value → Prop} {M : q_M} {pc : Nat} {a b : List (Nat × Value)} {st : List Value} {x : q_S} (ps : List Nat) (hp : ps.filterMap (fun i => b[i]?) = a) (k : q_X C F M pc a st x) : q_X C F M pc b st x := by
  obtain ⟨n, k⟩ := k
  refine ⟨n, q_run_sub _ _ _ _ _ _ k (fun q hq => ?_)⟩
  rw [← hp] at hq
  obtain ⟨i, -, hi⟩ := List.mem_filterMap.mp hq
  exact List.mem_of_getElem? hi
theorem q_run_C {C C' : q_M → List Value → q_S → q_S → Option Value → Prop} {F : q_S → Option Value → Prop} {M : q_M} (hC : ∀ M' av x x1 r, C M' av x x1 r → C' M' av x x1 r) : ∀ (n pc : Nat) (a : List (Nat × Value)) (st : List Value) (x : q_S), q_run C F M n pc a st x → q_run C' F M n pc a st x := by
  intro n
  induction n with
  | zero => intro pc a st x h; exact False.elim h
  | succ n ih =>
    intro pc a st x h
    obtain ⟨ins, len, hd, h⟩ := h
    refine ⟨ins, len, hd, ?_⟩
    rcases h with ⟨pc', ls', st', hh, h⟩ | ⟨pc', ls', st', x', hh, h⟩ | ⟨M', av, rest, x1, r, hh, hc, h⟩ | ⟨r, hh, hf⟩
    · exact Or.inl ⟨pc', ls', st', hh, ih _ _ _ _ h⟩
    · exact Or.inr (Or.inl ⟨pc', ls', st', x', hh, ih _ _ _ _ h⟩)
    · exact Or.inr (Or.inr (Or.inl ⟨M', av, rest, x1, r, hh, hC _ _ _ _ _ hc, ih _ _ _ _ h⟩))
    · exact Or.inr (Or.inr (Or.inr ⟨r, hh, hf⟩))
theorem q_call_s : ∀ (d : Nat) (M : q_M) (av : List Value) (x x1 : q_S) (r : Option Value), q_call d M av x x1 r → q_call (d + 1) M av x x1 r := by
  intro d
  induction d with
  | zero => intro M av x x1 r h; exact False.elim h
  | succ d ih =>
    intro M av x x1 r h
    obtain ⟨h1, h2, h3, n, h⟩ := h
    exact ⟨h1, h2, h3, n, q_run_C ih _ _ _ _ _ h⟩
theorem q_call_le {d d' : Nat} (h : d ≤ d') {M : q_M} {av : List Value} {x x1 : q_S} {r : Option Value} (hc : q_call d M av x x1 r) : q_call d' M av x x1 r := by
  obtain ⟨k, rfl⟩ := Nat.le.dest h
  induction k with
  | zero => exact hc
  | succ k ih => exact q_call_s _ _ _ _ _ _ (ih (Nat.le_add_right _ _))
end
