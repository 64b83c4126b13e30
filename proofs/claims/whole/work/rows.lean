section
-- ===== PART A: goes FIRST, ahead of the names: the tables' words, and 'selects' of the private methods out of them =====
/-- a private method of a class that the tables say can be made, by its rows of tables_1 -/
def lw_okq (q : MethodName × Nat) : Prop := (q.1.cls ≠ "java/lang/invoke/MethodHandle" ∧ q.1.cls ≠ "java/lang/invoke/VarHandle") ∧ Cond.instantiable q.1.cls q.2 ∈ tables_1 ∧ Cond.privateMethod q.1 ∈ tables_1 ∧ Cond.instanceMethod q.1 ∈ tables_1
theorem lw_p0 : lw_okq (⟨"GraphWriter", "mayStandAbove", "(II)Z"⟩, 4) := ⟨⟨by decide +kernel, by decide +kernel⟩, List.mem_of_getElem? (i := 17) (by decide +kernel), List.mem_of_getElem? (i := 106) (by decide +kernel), List.mem_of_getElem? (i := 107) (by decide +kernel)⟩
theorem lw_p1 : lw_okq (⟨"GraphWriter", "isDefined", "(I)Z"⟩, 4) := ⟨⟨by decide +kernel, by decide +kernel⟩, List.mem_of_getElem? (i := 17) (by decide +kernel), List.mem_of_getElem? (i := 110) (by decide +kernel), List.mem_of_getElem? (i := 111) (by decide +kernel)⟩
theorem lw_p2 : lw_okq (⟨"GraphWriter", "chainTo", "(II)[I"⟩, 4) := ⟨⟨by decide +kernel, by decide +kernel⟩, List.mem_of_getElem? (i := 17) (by decide +kernel), List.mem_of_getElem? (i := 115) (by decide +kernel), List.mem_of_getElem? (i := 116) (by decide +kernel)⟩
theorem lw_p3 : lw_okq (⟨"GraphWriter$Defined", "putInOrder", "(I)V"⟩, 11) := ⟨⟨by decide +kernel, by decide +kernel⟩, List.mem_of_getElem? (i := 113) (by decide +kernel), List.mem_of_getElem? (i := 299) (by decide +kernel), List.mem_of_getElem? (i := 300) (by decide +kernel)⟩
theorem lw_p4 : lw_okq (⟨"GraphWriter$Defined", "rank", "(I)I"⟩, 11) := ⟨⟨by decide +kernel, by decide +kernel⟩, List.mem_of_getElem? (i := 113) (by decide +kernel), List.mem_of_getElem? (i := 303) (by decide +kernel), List.mem_of_getElem? (i := 304) (by decide +kernel)⟩
theorem lw_p5 : lw_okq (⟨"GraphWriter", "slotTypes", "([I)[I"⟩, 4) := ⟨⟨by decide +kernel, by decide +kernel⟩, List.mem_of_getElem? (i := 17) (by decide +kernel), List.mem_of_getElem? (i := 312) (by decide +kernel), List.mem_of_getElem? (i := 313) (by decide +kernel)⟩
theorem lw_p6 : lw_okq (⟨"GraphWriter", "keep", "(LGraphWriter$Thing;)I"⟩, 4) := ⟨⟨by decide +kernel, by decide +kernel⟩, List.mem_of_getElem? (i := 17) (by decide +kernel), List.mem_of_getElem? (i := 352) (by decide +kernel), List.mem_of_getElem? (i := 353) (by decide +kernel)⟩
theorem lw_p7 : lw_okq (⟨"GraphWriter", "isMade", "(I)Z"⟩, 4) := ⟨⟨by decide +kernel, by decide +kernel⟩, List.mem_of_getElem? (i := 17) (by decide +kernel), List.mem_of_getElem? (i := 496) (by decide +kernel), List.mem_of_getElem? (i := 497) (by decide +kernel)⟩
theorem lw_p8 : lw_okq (⟨"GraphWriter", "mayBeHeld", "(JI)Z"⟩, 4) := ⟨⟨by decide +kernel, by decide +kernel⟩, List.mem_of_getElem? (i := 17) (by decide +kernel), List.mem_of_getElem? (i := 500) (by decide +kernel), List.mem_of_getElem? (i := 501) (by decide +kernel)⟩
theorem lw_p9 : lw_okq (⟨"GraphWriter", "isInstance", "(I)Z"⟩, 4) := ⟨⟨by decide +kernel, by decide +kernel⟩, List.mem_of_getElem? (i := 17) (by decide +kernel), List.mem_of_getElem? (i := 509) (by decide +kernel), List.mem_of_getElem? (i := 510) (by decide +kernel)⟩
theorem lw_p10 : lw_okq (⟨"GraphWriter", "writeObject", "(IZI)V"⟩, 4) := ⟨⟨by decide +kernel, by decide +kernel⟩, List.mem_of_getElem? (i := 17) (by decide +kernel), List.mem_of_getElem? (i := 545) (by decide +kernel), List.mem_of_getElem? (i := 546) (by decide +kernel)⟩
theorem lw_p11 : lw_okq (⟨"GraphWriter", "replaced", "(I)I"⟩, 4) := ⟨⟨by decide +kernel, by decide +kernel⟩, List.mem_of_getElem? (i := 17) (by decide +kernel), List.mem_of_getElem? (i := 550) (by decide +kernel), List.mem_of_getElem? (i := 551) (by decide +kernel)⟩
theorem lw_p12 : lw_okq (⟨"GraphWriter", "writeInts", "(I)V"⟩, 4) := ⟨⟨by decide +kernel, by decide +kernel⟩, List.mem_of_getElem? (i := 17) (by decide +kernel), List.mem_of_getElem? (i := 585) (by decide +kernel), List.mem_of_getElem? (i := 586) (by decide +kernel)⟩
theorem lw_p13 : lw_okq (⟨"GraphWriter", "writeRefs", "(II)V"⟩, 4) := ⟨⟨by decide +kernel, by decide +kernel⟩, List.mem_of_getElem? (i := 17) (by decide +kernel), List.mem_of_getElem? (i := 605) (by decide +kernel), List.mem_of_getElem? (i := 606) (by decide +kernel)⟩
theorem lw_p14 : lw_okq (⟨"GraphWriter", "writeConstant", "(I)V"⟩, 4) := ⟨⟨by decide +kernel, by decide +kernel⟩, List.mem_of_getElem? (i := 17) (by decide +kernel), List.mem_of_getElem? (i := 611) (by decide +kernel), List.mem_of_getElem? (i := 612) (by decide +kernel)⟩
theorem lw_p15 : lw_okq (⟨"GraphWriter", "writeDescriptor", "(LGraphWriter$Defined;)V"⟩, 4) := ⟨⟨by decide +kernel, by decide +kernel⟩, List.mem_of_getElem? (i := 17) (by decide +kernel), List.mem_of_getElem? (i := 616) (by decide +kernel), List.mem_of_getElem? (i := 617) (by decide +kernel)⟩
def lw_privs_1 : List (MethodName × Nat) := [(⟨"GraphWriter", "mayStandAbove", "(II)Z"⟩, 4), (⟨"GraphWriter", "isDefined", "(I)Z"⟩, 4), (⟨"GraphWriter", "chainTo", "(II)[I"⟩, 4), (⟨"GraphWriter$Defined", "putInOrder", "(I)V"⟩, 11), (⟨"GraphWriter$Defined", "rank", "(I)I"⟩, 11), (⟨"GraphWriter", "slotTypes", "([I)[I"⟩, 4), (⟨"GraphWriter", "keep", "(LGraphWriter$Thing;)I"⟩, 4), (⟨"GraphWriter", "isMade", "(I)Z"⟩, 4), (⟨"GraphWriter", "mayBeHeld", "(JI)Z"⟩, 4), (⟨"GraphWriter", "isInstance", "(I)Z"⟩, 4), (⟨"GraphWriter", "writeObject", "(IZI)V"⟩, 4), (⟨"GraphWriter", "replaced", "(I)I"⟩, 4), (⟨"GraphWriter", "writeInts", "(I)V"⟩, 4), (⟨"GraphWriter", "writeRefs", "(II)V"⟩, 4), (⟨"GraphWriter", "writeConstant", "(I)V"⟩, 4), (⟨"GraphWriter", "writeDescriptor", "(LGraphWriter$Defined;)V"⟩, 4)]
theorem lw_r1 : ∀ q ∈ lw_privs_1, lw_okq q := List.forall_mem_cons.mpr ⟨lw_p0, List.forall_mem_cons.mpr ⟨lw_p1, List.forall_mem_cons.mpr ⟨lw_p2, List.forall_mem_cons.mpr ⟨lw_p3, List.forall_mem_cons.mpr ⟨lw_p4, List.forall_mem_cons.mpr ⟨lw_p5, List.forall_mem_cons.mpr ⟨lw_p6, List.forall_mem_cons.mpr ⟨lw_p7, List.forall_mem_cons.mpr ⟨lw_p8, List.forall_mem_cons.mpr ⟨lw_p9, List.forall_mem_cons.mpr ⟨lw_p10, List.forall_mem_cons.mpr ⟨lw_p11, List.forall_mem_cons.mpr ⟨lw_p12, List.forall_mem_cons.mpr ⟨lw_p13, List.forall_mem_cons.mpr ⟨lw_p14, List.forall_mem_cons.mpr ⟨lw_p15, fun _ h => absurd h List.not_mem_nil⟩⟩⟩⟩⟩⟩⟩⟩⟩⟩⟩⟩⟩⟩⟩⟩
theorem lw_p16 : lw_okq (⟨"GraphWriter", "writeInstance", "(II)V"⟩, 4) := ⟨⟨by decide +kernel, by decide +kernel⟩, List.mem_of_getElem? (i := 17) (by decide +kernel), List.mem_of_getElem? (i := 633) (by decide +kernel), List.mem_of_getElem? (i := 634) (by decide +kernel)⟩
theorem lw_p17 : lw_okq (⟨"GraphWriter", "writeParts", "(LGraphWriter$Thing;LGraphWriter$Defined;II)V"⟩, 4) := ⟨⟨by decide +kernel, by decide +kernel⟩, List.mem_of_getElem? (i := 17) (by decide +kernel), List.mem_of_getElem? (i := 644) (by decide +kernel), List.mem_of_getElem? (i := 645) (by decide +kernel)⟩
theorem lw_p18 : lw_okq (⟨"GraphWriter$Out", "goBack", "()V"⟩, 11) := ⟨⟨by decide +kernel, by decide +kernel⟩, List.mem_of_getElem? (i := 29) (by decide +kernel), List.mem_of_getElem? (i := 656) (by decide +kernel), List.mem_of_getElem? (i := 657) (by decide +kernel)⟩
theorem lw_p19 : lw_okq (⟨"GraphWriter", "definedClasses", "()I"⟩, 4) := ⟨⟨by decide +kernel, by decide +kernel⟩, List.mem_of_getElem? (i := 17) (by decide +kernel), List.mem_of_getElem? (i := 678) (by decide +kernel), List.mem_of_getElem? (i := 679) (by decide +kernel)⟩
theorem lw_p20 : lw_okq (⟨"GraphWriterModel", "append", "(JI)V"⟩, 31) := ⟨⟨by decide +kernel, by decide +kernel⟩, List.mem_of_getElem? (i := 687) (by decide +kernel), List.mem_of_getElem? (i := 694) (by decide +kernel), List.mem_of_getElem? (i := 695) (by decide +kernel)⟩
theorem lw_p21 : lw_okq (⟨"GraphWriterModel", "noHandles", "()V"⟩, 31) := ⟨⟨by decide +kernel, by decide +kernel⟩, List.mem_of_getElem? (i := 687) (by decide +kernel), List.mem_of_getElem? (i := 699) (by decide +kernel), List.mem_of_getElem? (i := 700) (by decide +kernel)⟩
theorem lw_p22 : lw_okq (⟨"GraphWriterModel", "out", "(II)Z"⟩, 31) := ⟨⟨by decide +kernel, by decide +kernel⟩, List.mem_of_getElem? (i := 687) (by decide +kernel), List.mem_of_getElem? (i := 802) (by decide +kernel), List.mem_of_getElem? (i := 803) (by decide +kernel)⟩
theorem lw_p23 : lw_okq (⟨"GraphWriterModel", "noClass", "(I)Z"⟩, 31) := ⟨⟨by decide +kernel, by decide +kernel⟩, List.mem_of_getElem? (i := 687) (by decide +kernel), List.mem_of_getElem? (i := 806) (by decide +kernel), List.mem_of_getElem? (i := 807) (by decide +kernel)⟩
theorem lw_p24 : lw_okq (⟨"GraphWriterModel", "below", "(II)Z"⟩, 31) := ⟨⟨by decide +kernel, by decide +kernel⟩, List.mem_of_getElem? (i := 687) (by decide +kernel), List.mem_of_getElem? (i := 814) (by decide +kernel), List.mem_of_getElem? (i := 815) (by decide +kernel)⟩
theorem lw_p25 : lw_okq (⟨"GraphWriterModel", "firstSlot", "(I)I"⟩, 31) := ⟨⟨by decide +kernel, by decide +kernel⟩, List.mem_of_getElem? (i := 687) (by decide +kernel), List.mem_of_getElem? (i := 822) (by decide +kernel), List.mem_of_getElem? (i := 823) (by decide +kernel)⟩
theorem lw_p26 : lw_okq (⟨"GraphWriterModel", "begin", "(II)I"⟩, 31) := ⟨⟨by decide +kernel, by decide +kernel⟩, List.mem_of_getElem? (i := 687) (by decide +kernel), List.mem_of_getElem? (i := 826) (by decide +kernel), List.mem_of_getElem? (i := 827) (by decide +kernel)⟩
theorem lw_p27 : lw_okq (⟨"GraphWriterModel", "slotType", "(II)I"⟩, 31) := ⟨⟨by decide +kernel, by decide +kernel⟩, List.mem_of_getElem? (i := 687) (by decide +kernel), List.mem_of_getElem? (i := 830) (by decide +kernel), List.mem_of_getElem? (i := 831) (by decide +kernel)⟩
theorem lw_p28 : lw_okq (⟨"GraphWriterModel", "holder", "(II)I"⟩, 31) := ⟨⟨by decide +kernel, by decide +kernel⟩, List.mem_of_getElem? (i := 687) (by decide +kernel), List.mem_of_getElem? (i := 834) (by decide +kernel), List.mem_of_getElem? (i := 835) (by decide +kernel)⟩
theorem lw_p29 : lw_okq (⟨"GraphWriterModel", "noInstance", "(I)Z"⟩, 31) := ⟨⟨by decide +kernel, by decide +kernel⟩, List.mem_of_getElem? (i := 687) (by decide +kernel), List.mem_of_getElem? (i := 859) (by decide +kernel), List.mem_of_getElem? (i := 860) (by decide +kernel)⟩
theorem lw_p30 : lw_okq (⟨"GraphWriterModel", "flush", "()V"⟩, 31) := ⟨⟨by decide +kernel, by decide +kernel⟩, List.mem_of_getElem? (i := 687) (by decide +kernel), List.mem_of_getElem? (i := 871) (by decide +kernel), List.mem_of_getElem? (i := 872) (by decide +kernel)⟩
theorem lw_p31 : lw_okq (⟨"GraphWriterModel", "remember", "()V"⟩, 31) := ⟨⟨by decide +kernel, by decide +kernel⟩, List.mem_of_getElem? (i := 687) (by decide +kernel), List.mem_of_getElem? (i := 880) (by decide +kernel), List.mem_of_getElem? (i := 881) (by decide +kernel)⟩
def lw_privs_2 : List (MethodName × Nat) := [(⟨"GraphWriter", "writeInstance", "(II)V"⟩, 4), (⟨"GraphWriter", "writeParts", "(LGraphWriter$Thing;LGraphWriter$Defined;II)V"⟩, 4), (⟨"GraphWriter$Out", "goBack", "()V"⟩, 11), (⟨"GraphWriter", "definedClasses", "()I"⟩, 4), (⟨"GraphWriterModel", "append", "(JI)V"⟩, 31), (⟨"GraphWriterModel", "noHandles", "()V"⟩, 31), (⟨"GraphWriterModel", "out", "(II)Z"⟩, 31), (⟨"GraphWriterModel", "noClass", "(I)Z"⟩, 31), (⟨"GraphWriterModel", "below", "(II)Z"⟩, 31), (⟨"GraphWriterModel", "firstSlot", "(I)I"⟩, 31), (⟨"GraphWriterModel", "begin", "(II)I"⟩, 31), (⟨"GraphWriterModel", "slotType", "(II)I"⟩, 31), (⟨"GraphWriterModel", "holder", "(II)I"⟩, 31), (⟨"GraphWriterModel", "noInstance", "(I)Z"⟩, 31), (⟨"GraphWriterModel", "flush", "()V"⟩, 31), (⟨"GraphWriterModel", "remember", "()V"⟩, 31)]
theorem lw_r2 : ∀ q ∈ lw_privs_2, lw_okq q := List.forall_mem_cons.mpr ⟨lw_p16, List.forall_mem_cons.mpr ⟨lw_p17, List.forall_mem_cons.mpr ⟨lw_p18, List.forall_mem_cons.mpr ⟨lw_p19, List.forall_mem_cons.mpr ⟨lw_p20, List.forall_mem_cons.mpr ⟨lw_p21, List.forall_mem_cons.mpr ⟨lw_p22, List.forall_mem_cons.mpr ⟨lw_p23, List.forall_mem_cons.mpr ⟨lw_p24, List.forall_mem_cons.mpr ⟨lw_p25, List.forall_mem_cons.mpr ⟨lw_p26, List.forall_mem_cons.mpr ⟨lw_p27, List.forall_mem_cons.mpr ⟨lw_p28, List.forall_mem_cons.mpr ⟨lw_p29, List.forall_mem_cons.mpr ⟨lw_p30, List.forall_mem_cons.mpr ⟨lw_p31, fun _ h => absurd h List.not_mem_nil⟩⟩⟩⟩⟩⟩⟩⟩⟩⟩⟩⟩⟩⟩⟩⟩
theorem lw_p32 : lw_okq (⟨"GraphWriterModel", "writeObject", "(IZ)Z"⟩, 31) := ⟨⟨by decide +kernel, by decide +kernel⟩, List.mem_of_getElem? (i := 687) (by decide +kernel), List.mem_of_getElem? (i := 884) (by decide +kernel), List.mem_of_getElem? (i := 885) (by decide +kernel)⟩
theorem lw_p33 : lw_okq (⟨"GraphWriterModel", "standing", "(I)I"⟩, 31) := ⟨⟨by decide +kernel, by decide +kernel⟩, List.mem_of_getElem? (i := 687) (by decide +kernel), List.mem_of_getElem? (i := 888) (by decide +kernel), List.mem_of_getElem? (i := 889) (by decide +kernel)⟩
theorem lw_p34 : lw_okq (⟨"GraphWriterModel", "refer", "(I)V"⟩, 31) := ⟨⟨by decide +kernel, by decide +kernel⟩, List.mem_of_getElem? (i := 687) (by decide +kernel), List.mem_of_getElem? (i := 893) (by decide +kernel), List.mem_of_getElem? (i := 894) (by decide +kernel)⟩
theorem lw_p35 : lw_okq (⟨"GraphWriterModel", "give", "(I)V"⟩, 31) := ⟨⟨by decide +kernel, by decide +kernel⟩, List.mem_of_getElem? (i := 687) (by decide +kernel), List.mem_of_getElem? (i := 900) (by decide +kernel), List.mem_of_getElem? (i := 901) (by decide +kernel)⟩
theorem lw_p36 : lw_okq (⟨"GraphWriterModel", "writeArray", "(I)V"⟩, 31) := ⟨⟨by decide +kernel, by decide +kernel⟩, List.mem_of_getElem? (i := 687) (by decide +kernel), List.mem_of_getElem? (i := 904) (by decide +kernel), List.mem_of_getElem? (i := 905) (by decide +kernel)⟩
theorem lw_p37 : lw_okq (⟨"GraphWriterModel", "arrayDescriptor", "(Z)V"⟩, 31) := ⟨⟨by decide +kernel, by decide +kernel⟩, List.mem_of_getElem? (i := 687) (by decide +kernel), List.mem_of_getElem? (i := 909) (by decide +kernel), List.mem_of_getElem? (i := 910) (by decide +kernel)⟩
theorem lw_p38 : lw_okq (⟨"GraphWriterModel", "plainEnd", "(II)V"⟩, 31) := ⟨⟨by decide +kernel, by decide +kernel⟩, List.mem_of_getElem? (i := 687) (by decide +kernel), List.mem_of_getElem? (i := 922) (by decide +kernel), List.mem_of_getElem? (i := 923) (by decide +kernel)⟩
theorem lw_p39 : lw_okq (⟨"GraphWriterModel", "push", "(III)V"⟩, 31) := ⟨⟨by decide +kernel, by decide +kernel⟩, List.mem_of_getElem? (i := 687) (by decide +kernel), List.mem_of_getElem? (i := 927) (by decide +kernel), List.mem_of_getElem? (i := 928) (by decide +kernel)⟩
theorem lw_p40 : lw_okq (⟨"GraphWriterModel", "writeConstant", "(I)V"⟩, 31) := ⟨⟨by decide +kernel, by decide +kernel⟩, List.mem_of_getElem? (i := 687) (by decide +kernel), List.mem_of_getElem? (i := 931) (by decide +kernel), List.mem_of_getElem? (i := 932) (by decide +kernel)⟩
theorem lw_p41 : lw_okq (⟨"GraphWriterModel", "descriptor", "(I)V"⟩, 31) := ⟨⟨by decide +kernel, by decide +kernel⟩, List.mem_of_getElem? (i := 687) (by decide +kernel), List.mem_of_getElem? (i := 936) (by decide +kernel), List.mem_of_getElem? (i := 937) (by decide +kernel)⟩
theorem lw_p42 : lw_okq (⟨"GraphWriterModel", "letter", "(I)V"⟩, 31) := ⟨⟨by decide +kernel, by decide +kernel⟩, List.mem_of_getElem? (i := 687) (by decide +kernel), List.mem_of_getElem? (i := 940) (by decide +kernel), List.mem_of_getElem? (i := 941) (by decide +kernel)⟩
theorem lw_p43 : lw_okq (⟨"GraphWriterModel", "enumBase", "()V"⟩, 31) := ⟨⟨by decide +kernel, by decide +kernel⟩, List.mem_of_getElem? (i := 687) (by decide +kernel), List.mem_of_getElem? (i := 944) (by decide +kernel), List.mem_of_getElem? (i := 945) (by decide +kernel)⟩
theorem lw_p44 : lw_okq (⟨"GraphWriterModel", "arrange", "(I)I"⟩, 31) := ⟨⟨by decide +kernel, by decide +kernel⟩, List.mem_of_getElem? (i := 687) (by decide +kernel), List.mem_of_getElem? (i := 952) (by decide +kernel), List.mem_of_getElem? (i := 953) (by decide +kernel)⟩
theorem lw_p45 : lw_okq (⟨"GraphWriterModel", "fieldEntry", "(I)V"⟩, 31) := ⟨⟨by decide +kernel, by decide +kernel⟩, List.mem_of_getElem? (i := 687) (by decide +kernel), List.mem_of_getElem? (i := 956) (by decide +kernel), List.mem_of_getElem? (i := 957) (by decide +kernel)⟩
theorem lw_p46 : lw_okq (⟨"GraphWriterModel", "typeSigns", "(I)V"⟩, 31) := ⟨⟨by decide +kernel, by decide +kernel⟩, List.mem_of_getElem? (i := 687) (by decide +kernel), List.mem_of_getElem? (i := 968) (by decide +kernel), List.mem_of_getElem? (i := 969) (by decide +kernel)⟩
theorem lw_p47 : lw_okq (⟨"GraphWriterModel", "abort", "(I)V"⟩, 31) := ⟨⟨by decide +kernel, by decide +kernel⟩, List.mem_of_getElem? (i := 687) (by decide +kernel), List.mem_of_getElem? (i := 976) (by decide +kernel), List.mem_of_getElem? (i := 977) (by decide +kernel)⟩
def lw_privs_3 : List (MethodName × Nat) := [(⟨"GraphWriterModel", "writeObject", "(IZ)Z"⟩, 31), (⟨"GraphWriterModel", "standing", "(I)I"⟩, 31), (⟨"GraphWriterModel", "refer", "(I)V"⟩, 31), (⟨"GraphWriterModel", "give", "(I)V"⟩, 31), (⟨"GraphWriterModel", "writeArray", "(I)V"⟩, 31), (⟨"GraphWriterModel", "arrayDescriptor", "(Z)V"⟩, 31), (⟨"GraphWriterModel", "plainEnd", "(II)V"⟩, 31), (⟨"GraphWriterModel", "push", "(III)V"⟩, 31), (⟨"GraphWriterModel", "writeConstant", "(I)V"⟩, 31), (⟨"GraphWriterModel", "descriptor", "(I)V"⟩, 31), (⟨"GraphWriterModel", "letter", "(I)V"⟩, 31), (⟨"GraphWriterModel", "enumBase", "()V"⟩, 31), (⟨"GraphWriterModel", "arrange", "(I)I"⟩, 31), (⟨"GraphWriterModel", "fieldEntry", "(I)V"⟩, 31), (⟨"GraphWriterModel", "typeSigns", "(I)V"⟩, 31), (⟨"GraphWriterModel", "abort", "(I)V"⟩, 31)]
theorem lw_r3 : ∀ q ∈ lw_privs_3, lw_okq q := List.forall_mem_cons.mpr ⟨lw_p32, List.forall_mem_cons.mpr ⟨lw_p33, List.forall_mem_cons.mpr ⟨lw_p34, List.forall_mem_cons.mpr ⟨lw_p35, List.forall_mem_cons.mpr ⟨lw_p36, List.forall_mem_cons.mpr ⟨lw_p37, List.forall_mem_cons.mpr ⟨lw_p38, List.forall_mem_cons.mpr ⟨lw_p39, List.forall_mem_cons.mpr ⟨lw_p40, List.forall_mem_cons.mpr ⟨lw_p41, List.forall_mem_cons.mpr ⟨lw_p42, List.forall_mem_cons.mpr ⟨lw_p43, List.forall_mem_cons.mpr ⟨lw_p44, List.forall_mem_cons.mpr ⟨lw_p45, List.forall_mem_cons.mpr ⟨lw_p46, List.forall_mem_cons.mpr ⟨lw_p47, fun _ h => absurd h List.not_mem_nil⟩⟩⟩⟩⟩⟩⟩⟩⟩⟩⟩⟩⟩⟩⟩⟩
theorem lw_p48 : lw_okq (⟨"GraphWriterModel", "parts", "(I)V"⟩, 31) := ⟨⟨by decide +kernel, by decide +kernel⟩, List.mem_of_getElem? (i := 687) (by decide +kernel), List.mem_of_getElem? (i := 983) (by decide +kernel), List.mem_of_getElem? (i := 984) (by decide +kernel)⟩
theorem lw_p49 : lw_okq (⟨"GraphWriterModel", "doOne", "()Z"⟩, 31) := ⟨⟨by decide +kernel, by decide +kernel⟩, List.mem_of_getElem? (i := 687) (by decide +kernel), List.mem_of_getElem? (i := 987) (by decide +kernel), List.mem_of_getElem? (i := 988) (by decide +kernel)⟩
theorem lw_p50 : lw_okq (⟨"GraphWriterModel", "width", "(I)I"⟩, 31) := ⟨⟨by decide +kernel, by decide +kernel⟩, List.mem_of_getElem? (i := 687) (by decide +kernel), List.mem_of_getElem? (i := 991) (by decide +kernel), List.mem_of_getElem? (i := 992) (by decide +kernel)⟩
theorem lw_p51 : lw_okq (⟨"GraphWriterModel", "tooLong", "()Z"⟩, 31) := ⟨⟨by decide +kernel, by decide +kernel⟩, List.mem_of_getElem? (i := 687) (by decide +kernel), List.mem_of_getElem? (i := 996) (by decide +kernel), List.mem_of_getElem? (i := 997) (by decide +kernel)⟩
def lw_privs_4 : List (MethodName × Nat) := [(⟨"GraphWriterModel", "parts", "(I)V"⟩, 31), (⟨"GraphWriterModel", "doOne", "()Z"⟩, 31), (⟨"GraphWriterModel", "width", "(I)I"⟩, 31), (⟨"GraphWriterModel", "tooLong", "()Z"⟩, 31)]
theorem lw_r4 : ∀ q ∈ lw_privs_4, lw_okq q := List.forall_mem_cons.mpr ⟨lw_p48, List.forall_mem_cons.mpr ⟨lw_p49, List.forall_mem_cons.mpr ⟨lw_p50, List.forall_mem_cons.mpr ⟨lw_p51, fun _ h => absurd h List.not_mem_nil⟩⟩⟩⟩
def lw_privs : List (MethodName × Nat) := lw_privs_1 ++ (lw_privs_2 ++ (lw_privs_3 ++ (lw_privs_4)))
def lw_tbl : List Cond := k2_sels lw_privs ++ tables_1
theorem lw_privs_ok : ∀ q ∈ lw_privs, lw_okq q := by
  show ∀ q ∈ lw_privs_1 ++ (lw_privs_2 ++ (lw_privs_3 ++ (lw_privs_4))), lw_okq q
  exact List.forall_mem_append.mpr ⟨lw_r1, List.forall_mem_append.mpr ⟨lw_r2, List.forall_mem_append.mpr ⟨lw_r3, lw_r4⟩⟩⟩
def wd_W : List Cond := lw_tbl.filter goodWord
theorem wd_mem {w : Cond} (i : Nat) (h : lw_tbl[i]? = some w) (hg : goodWord w = true) : w ∈ wd_W := List.mem_filter.mpr ⟨List.mem_of_getElem? h, hg⟩
theorem wd_good : ∀ w ∈ wd_W, ((w.onTables && w.keeps) = true ∨ ∃ ty, w = .arrayClass ty) := fun w hw => good_of_word (List.mem_filter.mp hw).2
theorem wd_sub {c0 c1 : Cond} (h : c1 ∈ wd_W) : GoodIn (c0 :: wd_W) (c1 :: wd_W) := fun w hw => by
  have h1 : w ∈ wd_W := by
    rcases List.mem_cons.mp hw with rfl | h9
    · exact h
    · exact h9
  exact ⟨List.mem_cons_of_mem _ h1, wd_good w h1⟩
theorem wd_V {c0 c1 : Cond} {own C : String} {idx : Nat} {y : MethodName} (h : c1 ∈ wd_W) (h1 : Cond.methodLink own idx y ∈ wd_W) (h2 : Cond.instanceMethod y ∈ wd_W) (h3 : Cond.selects C y y ∈ wd_W) (h4 : Cond.initialized C ∈ wd_W) : GoodIn (c0 :: wd_W) (wsV own idx C y (c1 :: wd_W)) := fun w hw => by
  have h9 : w ∈ wd_W := by
    rcases List.mem_append.mp hw with h5 | h5
    · simp only [List.mem_cons, List.not_mem_nil, or_false] at h5
      rcases h5 with rfl | rfl | rfl | rfl <;> assumption
    · rcases List.mem_cons.mp h5 with rfl | h6
      · exact h
      · exact h6
  exact ⟨List.mem_cons_of_mem _ h9, wd_good w h9⟩
theorem wd_S {c0 c1 : Cond} {own : String} {idx : Nat} {y : MethodName} (h : c1 ∈ wd_W) (h1 : Cond.methodLink own idx y ∈ wd_W) (h2 : Cond.static y ∈ wd_W) (h4 : Cond.initialized y.cls ∈ wd_W) : GoodIn (c0 :: wd_W) (va_wsS own idx y (c1 :: wd_W)) := fun w hw => by
  have h9 : w ∈ wd_W := by
    rcases List.mem_append.mp hw with h5 | h5
    · simp only [List.mem_cons, List.not_mem_nil, or_false] at h5
      rcases h5 with rfl | rfl | rfl <;> assumption
    · rcases List.mem_cons.mp h5 with rfl | h6
      · exact h
      · exact h6
  exact ⟨List.mem_cons_of_mem _ h9, wd_good w h9⟩
theorem wd_hts {c0 : Cond} {args : Array Value} {s : State} (h : ∀ w ∈ c0 :: wd_W, w.before args s = true) : ∀ w ∈ wd_W, w.before args s = true := fun w hw => h w (List.mem_cons_of_mem _ hw)
end
section
theorem wd_0 : (Cond.selects "GraphWriter" ⟨"GraphWriter", "mayStandAbove", "(II)Z"⟩ ⟨"GraphWriter", "mayStandAbove", "(II)Z"⟩) ∈ wd_W := wd_mem 0 (by decide +kernel) (by decide +kernel)
theorem wd_1 : (Cond.selects "GraphWriter" ⟨"GraphWriter", "isDefined", "(I)Z"⟩ ⟨"GraphWriter", "isDefined", "(I)Z"⟩) ∈ wd_W := wd_mem 1 (by decide +kernel) (by decide +kernel)
theorem wd_2 : (Cond.selects "GraphWriter" ⟨"GraphWriter", "chainTo", "(II)[I"⟩ ⟨"GraphWriter", "chainTo", "(II)[I"⟩) ∈ wd_W := wd_mem 2 (by decide +kernel) (by decide +kernel)
theorem wd_3 : (Cond.selects "GraphWriter$Defined" ⟨"GraphWriter$Defined", "putInOrder", "(I)V"⟩ ⟨"GraphWriter$Defined", "putInOrder", "(I)V"⟩) ∈ wd_W := wd_mem 3 (by decide +kernel) (by decide +kernel)
theorem wd_4 : (Cond.selects "GraphWriter$Defined" ⟨"GraphWriter$Defined", "rank", "(I)I"⟩ ⟨"GraphWriter$Defined", "rank", "(I)I"⟩) ∈ wd_W := wd_mem 4 (by decide +kernel) (by decide +kernel)
theorem wd_5 : (Cond.selects "GraphWriter" ⟨"GraphWriter", "slotTypes", "([I)[I"⟩ ⟨"GraphWriter", "slotTypes", "([I)[I"⟩) ∈ wd_W := wd_mem 5 (by decide +kernel) (by decide +kernel)
theorem wd_6 : (Cond.selects "GraphWriter" ⟨"GraphWriter", "keep", "(LGraphWriter$Thing;)I"⟩ ⟨"GraphWriter", "keep", "(LGraphWriter$Thing;)I"⟩) ∈ wd_W := wd_mem 6 (by decide +kernel) (by decide +kernel)
theorem wd_7 : (Cond.selects "GraphWriter" ⟨"GraphWriter", "isMade", "(I)Z"⟩ ⟨"GraphWriter", "isMade", "(I)Z"⟩) ∈ wd_W := wd_mem 7 (by decide +kernel) (by decide +kernel)
theorem wd_8 : (Cond.selects "GraphWriter" ⟨"GraphWriter", "mayBeHeld", "(JI)Z"⟩ ⟨"GraphWriter", "mayBeHeld", "(JI)Z"⟩) ∈ wd_W := wd_mem 8 (by decide +kernel) (by decide +kernel)
theorem wd_9 : (Cond.selects "GraphWriter" ⟨"GraphWriter", "isInstance", "(I)Z"⟩ ⟨"GraphWriter", "isInstance", "(I)Z"⟩) ∈ wd_W := wd_mem 9 (by decide +kernel) (by decide +kernel)
theorem wd_10 : (Cond.selects "GraphWriter" ⟨"GraphWriter", "writeObject", "(IZI)V"⟩ ⟨"GraphWriter", "writeObject", "(IZI)V"⟩) ∈ wd_W := wd_mem 10 (by decide +kernel) (by decide +kernel)
theorem wd_11 : (Cond.selects "GraphWriter" ⟨"GraphWriter", "replaced", "(I)I"⟩ ⟨"GraphWriter", "replaced", "(I)I"⟩) ∈ wd_W := wd_mem 11 (by decide +kernel) (by decide +kernel)
theorem wd_12 : (Cond.selects "GraphWriter" ⟨"GraphWriter", "writeInts", "(I)V"⟩ ⟨"GraphWriter", "writeInts", "(I)V"⟩) ∈ wd_W := wd_mem 12 (by decide +kernel) (by decide +kernel)
theorem wd_13 : (Cond.selects "GraphWriter" ⟨"GraphWriter", "writeRefs", "(II)V"⟩ ⟨"GraphWriter", "writeRefs", "(II)V"⟩) ∈ wd_W := wd_mem 13 (by decide +kernel) (by decide +kernel)
theorem wd_14 : (Cond.selects "GraphWriter" ⟨"GraphWriter", "writeConstant", "(I)V"⟩ ⟨"GraphWriter", "writeConstant", "(I)V"⟩) ∈ wd_W := wd_mem 14 (by decide +kernel) (by decide +kernel)
theorem wd_15 : (Cond.selects "GraphWriter" ⟨"GraphWriter", "writeDescriptor", "(LGraphWriter$Defined;)V"⟩ ⟨"GraphWriter", "writeDescriptor", "(LGraphWriter$Defined;)V"⟩) ∈ wd_W := wd_mem 15 (by decide +kernel) (by decide +kernel)
theorem wd_16 : (Cond.selects "GraphWriter" ⟨"GraphWriter", "writeInstance", "(II)V"⟩ ⟨"GraphWriter", "writeInstance", "(II)V"⟩) ∈ wd_W := wd_mem 16 (by decide +kernel) (by decide +kernel)
theorem wd_17 : (Cond.selects "GraphWriter" ⟨"GraphWriter", "writeParts", "(LGraphWriter$Thing;LGraphWriter$Defined;II)V"⟩ ⟨"GraphWriter", "writeParts", "(LGraphWriter$Thing;LGraphWriter$Defined;II)V"⟩) ∈ wd_W := wd_mem 17 (by decide +kernel) (by decide +kernel)
theorem wd_18 : (Cond.selects "GraphWriter$Out" ⟨"GraphWriter$Out", "goBack", "()V"⟩ ⟨"GraphWriter$Out", "goBack", "()V"⟩) ∈ wd_W := wd_mem 18 (by decide +kernel) (by decide +kernel)
theorem wd_19 : (Cond.selects "GraphWriter" ⟨"GraphWriter", "definedClasses", "()I"⟩ ⟨"GraphWriter", "definedClasses", "()I"⟩) ∈ wd_W := wd_mem 19 (by decide +kernel) (by decide +kernel)
theorem wd_20 : (Cond.selects "GraphWriterModel" ⟨"GraphWriterModel", "append", "(JI)V"⟩ ⟨"GraphWriterModel", "append", "(JI)V"⟩) ∈ wd_W := wd_mem 20 (by decide +kernel) (by decide +kernel)
theorem wd_21 : (Cond.selects "GraphWriterModel" ⟨"GraphWriterModel", "noHandles", "()V"⟩ ⟨"GraphWriterModel", "noHandles", "()V"⟩) ∈ wd_W := wd_mem 21 (by decide +kernel) (by decide +kernel)
theorem wd_22 : (Cond.selects "GraphWriterModel" ⟨"GraphWriterModel", "out", "(II)Z"⟩ ⟨"GraphWriterModel", "out", "(II)Z"⟩) ∈ wd_W := wd_mem 22 (by decide +kernel) (by decide +kernel)
theorem wd_23 : (Cond.selects "GraphWriterModel" ⟨"GraphWriterModel", "noClass", "(I)Z"⟩ ⟨"GraphWriterModel", "noClass", "(I)Z"⟩) ∈ wd_W := wd_mem 23 (by decide +kernel) (by decide +kernel)
theorem wd_24 : (Cond.selects "GraphWriterModel" ⟨"GraphWriterModel", "below", "(II)Z"⟩ ⟨"GraphWriterModel", "below", "(II)Z"⟩) ∈ wd_W := wd_mem 24 (by decide +kernel) (by decide +kernel)
theorem wd_25 : (Cond.selects "GraphWriterModel" ⟨"GraphWriterModel", "firstSlot", "(I)I"⟩ ⟨"GraphWriterModel", "firstSlot", "(I)I"⟩) ∈ wd_W := wd_mem 25 (by decide +kernel) (by decide +kernel)
theorem wd_26 : (Cond.selects "GraphWriterModel" ⟨"GraphWriterModel", "begin", "(II)I"⟩ ⟨"GraphWriterModel", "begin", "(II)I"⟩) ∈ wd_W := wd_mem 26 (by decide +kernel) (by decide +kernel)
theorem wd_27 : (Cond.selects "GraphWriterModel" ⟨"GraphWriterModel", "slotType", "(II)I"⟩ ⟨"GraphWriterModel", "slotType", "(II)I"⟩) ∈ wd_W := wd_mem 27 (by decide +kernel) (by decide +kernel)
theorem wd_28 : (Cond.selects "GraphWriterModel" ⟨"GraphWriterModel", "holder", "(II)I"⟩ ⟨"GraphWriterModel", "holder", "(II)I"⟩) ∈ wd_W := wd_mem 28 (by decide +kernel) (by decide +kernel)
theorem wd_29 : (Cond.selects "GraphWriterModel" ⟨"GraphWriterModel", "noInstance", "(I)Z"⟩ ⟨"GraphWriterModel", "noInstance", "(I)Z"⟩) ∈ wd_W := wd_mem 29 (by decide +kernel) (by decide +kernel)
theorem wd_30 : (Cond.selects "GraphWriterModel" ⟨"GraphWriterModel", "flush", "()V"⟩ ⟨"GraphWriterModel", "flush", "()V"⟩) ∈ wd_W := wd_mem 30 (by decide +kernel) (by decide +kernel)
theorem wd_31 : (Cond.selects "GraphWriterModel" ⟨"GraphWriterModel", "remember", "()V"⟩ ⟨"GraphWriterModel", "remember", "()V"⟩) ∈ wd_W := wd_mem 31 (by decide +kernel) (by decide +kernel)
theorem wd_32 : (Cond.selects "GraphWriterModel" ⟨"GraphWriterModel", "writeObject", "(IZ)Z"⟩ ⟨"GraphWriterModel", "writeObject", "(IZ)Z"⟩) ∈ wd_W := wd_mem 32 (by decide +kernel) (by decide +kernel)
theorem wd_33 : (Cond.selects "GraphWriterModel" ⟨"GraphWriterModel", "standing", "(I)I"⟩ ⟨"GraphWriterModel", "standing", "(I)I"⟩) ∈ wd_W := wd_mem 33 (by decide +kernel) (by decide +kernel)
theorem wd_34 : (Cond.selects "GraphWriterModel" ⟨"GraphWriterModel", "refer", "(I)V"⟩ ⟨"GraphWriterModel", "refer", "(I)V"⟩) ∈ wd_W := wd_mem 34 (by decide +kernel) (by decide +kernel)
theorem wd_35 : (Cond.selects "GraphWriterModel" ⟨"GraphWriterModel", "give", "(I)V"⟩ ⟨"GraphWriterModel", "give", "(I)V"⟩) ∈ wd_W := wd_mem 35 (by decide +kernel) (by decide +kernel)
theorem wd_36 : (Cond.selects "GraphWriterModel" ⟨"GraphWriterModel", "writeArray", "(I)V"⟩ ⟨"GraphWriterModel", "writeArray", "(I)V"⟩) ∈ wd_W := wd_mem 36 (by decide +kernel) (by decide +kernel)
theorem wd_37 : (Cond.selects "GraphWriterModel" ⟨"GraphWriterModel", "arrayDescriptor", "(Z)V"⟩ ⟨"GraphWriterModel", "arrayDescriptor", "(Z)V"⟩) ∈ wd_W := wd_mem 37 (by decide +kernel) (by decide +kernel)
theorem wd_38 : (Cond.selects "GraphWriterModel" ⟨"GraphWriterModel", "plainEnd", "(II)V"⟩ ⟨"GraphWriterModel", "plainEnd", "(II)V"⟩) ∈ wd_W := wd_mem 38 (by decide +kernel) (by decide +kernel)
theorem wd_39 : (Cond.selects "GraphWriterModel" ⟨"GraphWriterModel", "push", "(III)V"⟩ ⟨"GraphWriterModel", "push", "(III)V"⟩) ∈ wd_W := wd_mem 39 (by decide +kernel) (by decide +kernel)
theorem wd_40 : (Cond.selects "GraphWriterModel" ⟨"GraphWriterModel", "writeConstant", "(I)V"⟩ ⟨"GraphWriterModel", "writeConstant", "(I)V"⟩) ∈ wd_W := wd_mem 40 (by decide +kernel) (by decide +kernel)
theorem wd_41 : (Cond.selects "GraphWriterModel" ⟨"GraphWriterModel", "descriptor", "(I)V"⟩ ⟨"GraphWriterModel", "descriptor", "(I)V"⟩) ∈ wd_W := wd_mem 41 (by decide +kernel) (by decide +kernel)
theorem wd_42 : (Cond.selects "GraphWriterModel" ⟨"GraphWriterModel", "letter", "(I)V"⟩ ⟨"GraphWriterModel", "letter", "(I)V"⟩) ∈ wd_W := wd_mem 42 (by decide +kernel) (by decide +kernel)
theorem wd_43 : (Cond.selects "GraphWriterModel" ⟨"GraphWriterModel", "enumBase", "()V"⟩ ⟨"GraphWriterModel", "enumBase", "()V"⟩) ∈ wd_W := wd_mem 43 (by decide +kernel) (by decide +kernel)
theorem wd_44 : (Cond.selects "GraphWriterModel" ⟨"GraphWriterModel", "arrange", "(I)I"⟩ ⟨"GraphWriterModel", "arrange", "(I)I"⟩) ∈ wd_W := wd_mem 44 (by decide +kernel) (by decide +kernel)
theorem wd_45 : (Cond.selects "GraphWriterModel" ⟨"GraphWriterModel", "fieldEntry", "(I)V"⟩ ⟨"GraphWriterModel", "fieldEntry", "(I)V"⟩) ∈ wd_W := wd_mem 45 (by decide +kernel) (by decide +kernel)
theorem wd_46 : (Cond.selects "GraphWriterModel" ⟨"GraphWriterModel", "typeSigns", "(I)V"⟩ ⟨"GraphWriterModel", "typeSigns", "(I)V"⟩) ∈ wd_W := wd_mem 46 (by decide +kernel) (by decide +kernel)
theorem wd_47 : (Cond.selects "GraphWriterModel" ⟨"GraphWriterModel", "abort", "(I)V"⟩ ⟨"GraphWriterModel", "abort", "(I)V"⟩) ∈ wd_W := wd_mem 47 (by decide +kernel) (by decide +kernel)
theorem wd_48 : (Cond.selects "GraphWriterModel" ⟨"GraphWriterModel", "parts", "(I)V"⟩ ⟨"GraphWriterModel", "parts", "(I)V"⟩) ∈ wd_W := wd_mem 48 (by decide +kernel) (by decide +kernel)
theorem wd_49 : (Cond.selects "GraphWriterModel" ⟨"GraphWriterModel", "doOne", "()Z"⟩ ⟨"GraphWriterModel", "doOne", "()Z"⟩) ∈ wd_W := wd_mem 49 (by decide +kernel) (by decide +kernel)
theorem wd_50 : (Cond.selects "GraphWriterModel" ⟨"GraphWriterModel", "width", "(I)I"⟩ ⟨"GraphWriterModel", "width", "(I)I"⟩) ∈ wd_W := wd_mem 50 (by decide +kernel) (by decide +kernel)
theorem wd_51 : (Cond.selects "GraphWriterModel" ⟨"GraphWriterModel", "tooLong", "()Z"⟩ ⟨"GraphWriterModel", "tooLong", "()Z"⟩) ∈ wd_W := wd_mem 51 (by decide +kernel) (by decide +kernel)
theorem wd_52 : (Cond.initialized "GraphWriterLaw") ∈ wd_W := wd_mem 52 (by decide +kernel) (by decide +kernel)
theorem wd_53 : (Cond.initialized "GraphWriter") ∈ wd_W := wd_mem 53 (by decide +kernel) (by decide +kernel)
theorem wd_54 : (Cond.initialized "GraphWriter$Out") ∈ wd_W := wd_mem 54 (by decide +kernel) (by decide +kernel)
theorem wd_55 : (Cond.initialized "java/util/Arrays") ∈ wd_W := wd_mem 55 (by decide +kernel) (by decide +kernel)
theorem wd_56 : (Cond.initialized "GraphWriterModel") ∈ wd_W := wd_mem 56 (by decide +kernel) (by decide +kernel)
theorem wd_57 : (Cond.initialized "GraphWriter$Defined") ∈ wd_W := wd_mem 57 (by decide +kernel) (by decide +kernel)
theorem wd_58 : (Cond.initialized "java/lang/Math") ∈ wd_W := wd_mem 58 (by decide +kernel) (by decide +kernel)
theorem wd_59 : (Cond.initialized "java/lang/System") ∈ wd_W := wd_mem 59 (by decide +kernel) (by decide +kernel)
theorem wd_60 : (Cond.initialized "java/lang/String") ∈ wd_W := wd_mem 60 (by decide +kernel) (by decide +kernel)
theorem wd_61 : (Cond.initialized "jdk/internal/util/Preconditions") ∈ wd_W := wd_mem 61 (by decide +kernel) (by decide +kernel)
theorem wd_62 : (Cond.initialized "java/lang/StringLatin1") ∈ wd_W := wd_mem 62 (by decide +kernel) (by decide +kernel)
theorem wd_63 : (Cond.initialized "java/lang/StringUTF16") ∈ wd_W := wd_mem 63 (by decide +kernel) (by decide +kernel)
theorem wd_64 : (Cond.initialized "GraphWriter$Thing") ∈ wd_W := wd_mem 64 (by decide +kernel) (by decide +kernel)
theorem wd_65 : (Cond.initialized "java/lang/AbstractStringBuilder") ∈ wd_W := wd_mem 65 (by decide +kernel) (by decide +kernel)
theorem wd_66 : (Cond.initialized "java/lang/StringBuilder") ∈ wd_W := wd_mem 66 (by decide +kernel) (by decide +kernel)
theorem wd_67 : (Cond.initialized "jdk/internal/util/ArraysSupport") ∈ wd_W := wd_mem 67 (by decide +kernel) (by decide +kernel)
theorem wd_68 : (Cond.classLink "GraphWriterLaw" 7 "GraphWriter") ∈ wd_W := wd_mem 68 (by decide +kernel) (by decide +kernel)
theorem wd_69 : (Cond.instantiable "GraphWriter" 4) ∈ wd_W := wd_mem 69 (by decide +kernel) (by decide +kernel)
theorem wd_70 : (Cond.methodLink "GraphWriterLaw" 9 ⟨"GraphWriter", "<init>", "()V"⟩) ∈ wd_W := wd_mem 70 (by decide +kernel) (by decide +kernel)
theorem wd_71 : (Cond.instanceMethod ⟨"GraphWriter", "<init>", "()V"⟩) ∈ wd_W := wd_mem 71 (by decide +kernel) (by decide +kernel)
theorem wd_72 : (Cond.code ⟨"GraphWriter", "<init>", "()V"⟩ prog_1_method_1_code 1 none) ∈ wd_W := wd_mem 72 (by decide +kernel) (by decide +kernel)
theorem wd_73 : (Cond.methodLink "GraphWriter" 3 ⟨"java/lang/Object", "<init>", "()V"⟩) ∈ wd_W := wd_mem 73 (by decide +kernel) (by decide +kernel)
theorem wd_74 : (Cond.instanceMethod ⟨"java/lang/Object", "<init>", "()V"⟩) ∈ wd_W := wd_mem 74 (by decide +kernel) (by decide +kernel)
theorem wd_75 : (Cond.code ⟨"java/lang/Object", "<init>", "()V"⟩ object_method_1_code 1 none) ∈ wd_W := wd_mem 75 (by decide +kernel) (by decide +kernel)
theorem wd_76 : (Cond.classLink "GraphWriter" 9 "GraphWriter$Defined") ∈ wd_W := wd_mem 76 (by decide +kernel) (by decide +kernel)
theorem wd_78 : (Cond.classLink "GraphWriter" 15 "GraphWriter$Thing") ∈ wd_W := wd_mem 78 (by decide +kernel) (by decide +kernel)
theorem wd_80 : (Cond.classLink "GraphWriter" 21 "GraphWriter$Out") ∈ wd_W := wd_mem 80 (by decide +kernel) (by decide +kernel)
theorem wd_81 : (Cond.instantiable "GraphWriter$Out" 11) ∈ wd_W := wd_mem 81 (by decide +kernel) (by decide +kernel)
theorem wd_83 : (Cond.instanceMethod ⟨"GraphWriter$Out", "<init>", "()V"⟩) ∈ wd_W := wd_mem 83 (by decide +kernel) (by decide +kernel)
theorem wd_84 : (Cond.code ⟨"GraphWriter$Out", "<init>", "()V"⟩ prog_3_method_1_code 1 none) ∈ wd_W := wd_mem 84 (by decide +kernel) (by decide +kernel)
theorem wd_85 : (Cond.methodLink "GraphWriter$Out" 3 ⟨"java/lang/Object", "<init>", "()V"⟩) ∈ wd_W := wd_mem 85 (by decide +kernel) (by decide +kernel)
theorem wd_86 : (Cond.fieldLink "GraphWriter$Out" 9 "GraphWriter$Out" "bytes" "[B") ∈ wd_W := wd_mem 86 (by decide +kernel) (by decide +kernel)
theorem wd_87 : (Cond.fieldLink "GraphWriter" 161 "GraphWriter$Out" "bytes" "[B") ∈ wd_W := wd_mem 87 (by decide +kernel) (by decide +kernel)
theorem wd_88 : (Cond.fieldLink "GraphWriter$Out" 15 "GraphWriter$Out" "waiting" "[B") ∈ wd_W := wd_mem 88 (by decide +kernel) (by decide +kernel)
theorem wd_89 : (Cond.fieldLink "GraphWriter$Out" 18 "GraphWriter$Out" "last" "[I") ∈ wd_W := wd_mem 89 (by decide +kernel) (by decide +kernel)
theorem wd_90 : (Cond.fieldLink "GraphWriter" 165 "GraphWriter$Out" "last" "[I") ∈ wd_W := wd_mem 90 (by decide +kernel) (by decide +kernel)
theorem wd_91 : (Cond.fieldLink "GraphWriter$Out" 35 "GraphWriter$Out" "length" "I") ∈ wd_W := wd_mem 91 (by decide +kernel) (by decide +kernel)
theorem wd_92 : (Cond.fieldLink "GraphWriter" 158 "GraphWriter$Out" "length" "I") ∈ wd_W := wd_mem 92 (by decide +kernel) (by decide +kernel)
theorem wd_93 : (Cond.fieldLink "GraphWriter$Out" 41 "GraphWriter$Out" "waits" "I") ∈ wd_W := wd_mem 93 (by decide +kernel) (by decide +kernel)
theorem wd_94 : (Cond.fieldLink "GraphWriter" 139 "GraphWriter$Out" "waits" "I") ∈ wd_W := wd_mem 94 (by decide +kernel) (by decide +kernel)
theorem wd_95 : (Cond.fieldLink "GraphWriter$Out" 47 "GraphWriter$Out" "handles" "I") ∈ wd_W := wd_mem 95 (by decide +kernel) (by decide +kernel)
theorem wd_96 : (Cond.fieldLink "GraphWriter" 168 "GraphWriter$Out" "handles" "I") ∈ wd_W := wd_mem 96 (by decide +kernel) (by decide +kernel)
theorem wd_97 : (Cond.fieldLink "GraphWriter$Out" 22 "GraphWriter$Out" "outcome" "I") ∈ wd_W := wd_mem 97 (by decide +kernel) (by decide +kernel)
theorem wd_98 : (Cond.fieldLink "GraphWriter" 212 "GraphWriter$Out" "outcome" "I") ∈ wd_W := wd_mem 98 (by decide +kernel) (by decide +kernel)
theorem wd_99 : (Cond.fieldLink "GraphWriter$Out" 26 "GraphWriter$Out" "lastBefore" "[I") ∈ wd_W := wd_mem 99 (by decide +kernel) (by decide +kernel)
theorem wd_100 : (Cond.fieldLink "GraphWriter$Out" 38 "GraphWriter$Out" "lengthBefore" "I") ∈ wd_W := wd_mem 100 (by decide +kernel) (by decide +kernel)
theorem wd_101 : (Cond.fieldLink "GraphWriter$Out" 44 "GraphWriter$Out" "waitsBefore" "I") ∈ wd_W := wd_mem 101 (by decide +kernel) (by decide +kernel)
theorem wd_102 : (Cond.fieldLink "GraphWriter$Out" 50 "GraphWriter$Out" "handlesBefore" "I") ∈ wd_W := wd_mem 102 (by decide +kernel) (by decide +kernel)
theorem wd_103 : (Cond.laysFinal "GraphWriter$Out" "GraphWriter$Out" "bytes" "[B") ∈ wd_W := wd_mem 103 (by decide +kernel) (by decide +kernel)
theorem wd_105 : (Cond.laysFinal "GraphWriter$Out" "GraphWriter$Out" "waiting" "[B") ∈ wd_W := wd_mem 105 (by decide +kernel) (by decide +kernel)
theorem wd_107 : (Cond.laysFinal "GraphWriter$Out" "GraphWriter$Out" "last" "[I") ∈ wd_W := wd_mem 107 (by decide +kernel) (by decide +kernel)
theorem wd_109 : (Cond.lays "GraphWriter$Out" "GraphWriter$Out" "length" "I") ∈ wd_W := wd_mem 109 (by decide +kernel) (by decide +kernel)
theorem wd_111 : (Cond.lays "GraphWriter$Out" "GraphWriter$Out" "waits" "I") ∈ wd_W := wd_mem 111 (by decide +kernel) (by decide +kernel)
theorem wd_113 : (Cond.lays "GraphWriter$Out" "GraphWriter$Out" "handles" "I") ∈ wd_W := wd_mem 113 (by decide +kernel) (by decide +kernel)
theorem wd_115 : (Cond.lays "GraphWriter$Out" "GraphWriter$Out" "outcome" "I") ∈ wd_W := wd_mem 115 (by decide +kernel) (by decide +kernel)
theorem wd_117 : (Cond.laysFinal "GraphWriter$Out" "GraphWriter$Out" "lastBefore" "[I") ∈ wd_W := wd_mem 117 (by decide +kernel) (by decide +kernel)
theorem wd_119 : (Cond.lays "GraphWriter$Out" "GraphWriter$Out" "lengthBefore" "I") ∈ wd_W := wd_mem 119 (by decide +kernel) (by decide +kernel)
theorem wd_121 : (Cond.lays "GraphWriter$Out" "GraphWriter$Out" "waitsBefore" "I") ∈ wd_W := wd_mem 121 (by decide +kernel) (by decide +kernel)
theorem wd_123 : (Cond.lays "GraphWriter$Out" "GraphWriter$Out" "handlesBefore" "I") ∈ wd_W := wd_mem 123 (by decide +kernel) (by decide +kernel)
theorem wd_126 : (Cond.arrayClass FieldType.byte) ∈ wd_W := wd_mem 126 (by decide +kernel) (by decide +kernel)
theorem wd_127 : (Cond.arrayClass FieldType.int) ∈ wd_W := wd_mem 127 (by decide +kernel) (by decide +kernel)
theorem wd_128 : (Cond.methodLink "GraphWriter" 28 ⟨"GraphWriter$Out", "forgetHandles", "()V"⟩) ∈ wd_W := wd_mem 128 (by decide +kernel) (by decide +kernel)
theorem wd_129 : (Cond.instanceMethod ⟨"GraphWriter$Out", "forgetHandles", "()V"⟩) ∈ wd_W := wd_mem 129 (by decide +kernel) (by decide +kernel)
theorem wd_130 : (Cond.selects "GraphWriter$Out" ⟨"GraphWriter$Out", "forgetHandles", "()V"⟩ ⟨"GraphWriter$Out", "forgetHandles", "()V"⟩) ∈ wd_W := wd_mem 130 (by decide +kernel) (by decide +kernel)
theorem wd_131 : (Cond.code ⟨"GraphWriter$Out", "forgetHandles", "()V"⟩ prog_3_method_9_code 1 none) ∈ wd_W := wd_mem 131 (by decide +kernel) (by decide +kernel)
theorem wd_132 : (Cond.methodLink "GraphWriter$Out" 72 ⟨"java/util/Arrays", "fill", "([II)V"⟩) ∈ wd_W := wd_mem 132 (by decide +kernel) (by decide +kernel)
theorem wd_133 : (Cond.static ⟨"java/util/Arrays", "fill", "([II)V"⟩) ∈ wd_W := wd_mem 133 (by decide +kernel) (by decide +kernel)
theorem wd_134 : (Cond.code ⟨"java/util/Arrays", "fill", "([II)V"⟩ prog_15_method_103_code 4 none) ∈ wd_W := wd_mem 134 (by decide +kernel) (by decide +kernel)
theorem wd_135 : (Cond.constantLong "GraphWriter" 31 (2901213189 : Int64)) ∈ wd_W := wd_mem 135 (by decide +kernel) (by decide +kernel)
theorem wd_136 : (Cond.methodLink "GraphWriter" 33 ⟨"GraphWriter$Out", "put", "(JI)V"⟩) ∈ wd_W := wd_mem 136 (by decide +kernel) (by decide +kernel)
theorem wd_137 : (Cond.instanceMethod ⟨"GraphWriter$Out", "put", "(JI)V"⟩) ∈ wd_W := wd_mem 137 (by decide +kernel) (by decide +kernel)
theorem wd_138 : (Cond.selects "GraphWriter$Out" ⟨"GraphWriter$Out", "put", "(JI)V"⟩ ⟨"GraphWriter$Out", "put", "(JI)V"⟩) ∈ wd_W := wd_mem 138 (by decide +kernel) (by decide +kernel)
theorem wd_139 : (Cond.code ⟨"GraphWriter$Out", "put", "(JI)V"⟩ prog_3_method_5_code 5 none) ∈ wd_W := wd_mem 139 (by decide +kernel) (by decide +kernel)
theorem wd_140 : (Cond.fieldLink "GraphWriter" 11 "GraphWriter" "classes" "[LGraphWriter$Defined;") ∈ wd_W := wd_mem 140 (by decide +kernel) (by decide +kernel)
theorem wd_141 : (Cond.fieldLink "GraphWriter" 17 "GraphWriter" "things" "[LGraphWriter$Thing;") ∈ wd_W := wd_mem 141 (by decide +kernel) (by decide +kernel)
theorem wd_142 : (Cond.fieldLink "GraphWriter" 24 "GraphWriter" "out" "LGraphWriter$Out;") ∈ wd_W := wd_mem 142 (by decide +kernel) (by decide +kernel)
theorem wd_143 : (Cond.fieldLink "GraphWriter" 70 "GraphWriter" "made" "I") ∈ wd_W := wd_mem 143 (by decide +kernel) (by decide +kernel)
theorem wd_144 : (Cond.laysFinal "GraphWriter" "GraphWriter" "classes" "[LGraphWriter$Defined;") ∈ wd_W := wd_mem 144 (by decide +kernel) (by decide +kernel)
theorem wd_146 : (Cond.laysFinal "GraphWriter" "GraphWriter" "things" "[LGraphWriter$Thing;") ∈ wd_W := wd_mem 146 (by decide +kernel) (by decide +kernel)
theorem wd_148 : (Cond.laysFinal "GraphWriter" "GraphWriter" "out" "LGraphWriter$Out;") ∈ wd_W := wd_mem 148 (by decide +kernel) (by decide +kernel)
theorem wd_150 : (Cond.lays "GraphWriter" "GraphWriter" "made" "I") ∈ wd_W := wd_mem 150 (by decide +kernel) (by decide +kernel)
theorem wd_153 : (Cond.methodLink "GraphWriterLaw" 15 ⟨"GraphWriter", "define", "(IIIJ)I"⟩) ∈ wd_W := wd_mem 153 (by decide +kernel) (by decide +kernel)
theorem wd_154 : (Cond.instanceMethod ⟨"GraphWriter", "define", "(IIIJ)I"⟩) ∈ wd_W := wd_mem 154 (by decide +kernel) (by decide +kernel)
theorem wd_155 : (Cond.selects "GraphWriter" ⟨"GraphWriter", "define", "(IIIJ)I"⟩ ⟨"GraphWriter", "define", "(IIIJ)I"⟩) ∈ wd_W := wd_mem 155 (by decide +kernel) (by decide +kernel)
theorem wd_156 : (Cond.code ⟨"GraphWriter", "define", "(IIIJ)I"⟩ prog_1_method_2_code 6 (some FieldType.int)) ∈ wd_W := wd_mem 156 (by decide +kernel) (by decide +kernel)
theorem wd_157 : (Cond.methodLink "GraphWriter" 37 ⟨"GraphWriter", "mayStandAbove", "(II)Z"⟩) ∈ wd_W := wd_mem 157 (by decide +kernel) (by decide +kernel)
theorem wd_159 : (Cond.instanceMethod ⟨"GraphWriter", "mayStandAbove", "(II)Z"⟩) ∈ wd_W := wd_mem 159 (by decide +kernel) (by decide +kernel)
theorem wd_160 : (Cond.code ⟨"GraphWriter", "mayStandAbove", "(II)Z"⟩ prog_1_method_22_code 4 (some FieldType.boolean)) ∈ wd_W := wd_mem 160 (by decide +kernel) (by decide +kernel)
theorem wd_161 : (Cond.methodLink "GraphWriter" 48 ⟨"GraphWriter", "isDefined", "(I)Z"⟩) ∈ wd_W := wd_mem 161 (by decide +kernel) (by decide +kernel)
theorem wd_163 : (Cond.instanceMethod ⟨"GraphWriter", "isDefined", "(I)Z"⟩) ∈ wd_W := wd_mem 163 (by decide +kernel) (by decide +kernel)
theorem wd_164 : (Cond.code ⟨"GraphWriter", "isDefined", "(I)Z"⟩ prog_1_method_18_code 2 (some FieldType.boolean)) ∈ wd_W := wd_mem 164 (by decide +kernel) (by decide +kernel)
theorem wd_165 : (Cond.instantiable "GraphWriter$Defined" 11) ∈ wd_W := wd_mem 165 (by decide +kernel) (by decide +kernel)
theorem wd_166 : (Cond.methodLink "GraphWriter" 41 ⟨"GraphWriter", "chainTo", "(II)[I"⟩) ∈ wd_W := wd_mem 166 (by decide +kernel) (by decide +kernel)
theorem wd_168 : (Cond.instanceMethod ⟨"GraphWriter", "chainTo", "(II)[I"⟩) ∈ wd_W := wd_mem 168 (by decide +kernel) (by decide +kernel)
theorem wd_169 : (Cond.code ⟨"GraphWriter", "chainTo", "(II)[I"⟩ prog_1_method_23_code 5 (some (FieldType.array FieldType.int))) ∈ wd_W := wd_mem 169 (by decide +kernel) (by decide +kernel)
theorem wd_170 : (Cond.methodLink "GraphWriter" 186 ⟨"java/util/Arrays", "copyOf", "([II)[I"⟩) ∈ wd_W := wd_mem 170 (by decide +kernel) (by decide +kernel)
theorem wd_171 : (Cond.static ⟨"java/util/Arrays", "copyOf", "([II)[I"⟩) ∈ wd_W := wd_mem 171 (by decide +kernel) (by decide +kernel)
theorem wd_172 : (Cond.code ⟨"java/util/Arrays", "copyOf", "([II)[I"⟩ prog_15_method_123_code 3 (some (FieldType.array FieldType.int))) ∈ wd_W := wd_mem 172 (by decide +kernel) (by decide +kernel)
theorem wd_173 : (Cond.methodLink "java/util/Arrays" 316 ⟨"[I", "clone", "()Ljava/lang/Object;"⟩) ∈ wd_W := wd_mem 173 (by decide +kernel) (by decide +kernel)
theorem wd_174 : (Cond.sameMethod "[I" "java/lang/Object" "clone" "()Ljava/lang/Object;") ∈ wd_W := wd_mem 174 (by decide +kernel) (by decide +kernel)
theorem wd_175 : (Cond.native ⟨"java/lang/Object", "clone", "()Ljava/lang/Object;"⟩) ∈ wd_W := wd_mem 175 (by decide +kernel) (by decide +kernel)
theorem wd_176 : (Cond.instanceMethod ⟨"java/lang/Object", "clone", "()Ljava/lang/Object;"⟩) ∈ wd_W := wd_mem 176 (by decide +kernel) (by decide +kernel)
theorem wd_177 : (Cond.selects "[I" ⟨"[I", "clone", "()Ljava/lang/Object;"⟩ ⟨"java/lang/Object", "clone", "()Ljava/lang/Object;"⟩) ∈ wd_W := wd_mem 177 (by decide +kernel) (by decide +kernel)
theorem wd_179 : (Cond.classLink "java/util/Arrays" 317 "[I") ∈ wd_W := wd_mem 179 (by decide +kernel) (by decide +kernel)
theorem wd_180 : (Cond.methodLink "java/util/Arrays" 304 ⟨"java/lang/Math", "min", "(II)I"⟩) ∈ wd_W := wd_mem 180 (by decide +kernel) (by decide +kernel)
theorem wd_181 : (Cond.static ⟨"java/lang/Math", "min", "(II)I"⟩) ∈ wd_W := wd_mem 181 (by decide +kernel) (by decide +kernel)
theorem wd_182 : (Cond.code ⟨"java/lang/Math", "min", "(II)I"⟩ prog_9_method_69_code 2 (some FieldType.int)) ∈ wd_W := wd_mem 182 (by decide +kernel) (by decide +kernel)
theorem wd_183 : (Cond.methodLink "java/util/Arrays" 150 ⟨"java/lang/System", "arraycopy", "(Ljava/lang/Object;ILjava/lang/Object;II)V"⟩) ∈ wd_W := wd_mem 183 (by decide +kernel) (by decide +kernel)
theorem wd_184 : (Cond.static ⟨"java/lang/System", "arraycopy", "(Ljava/lang/Object;ILjava/lang/Object;II)V"⟩) ∈ wd_W := wd_mem 184 (by decide +kernel) (by decide +kernel)
theorem wd_185 : (Cond.native ⟨"java/lang/System", "arraycopy", "(Ljava/lang/Object;ILjava/lang/Object;II)V"⟩) ∈ wd_W := wd_mem 185 (by decide +kernel) (by decide +kernel)
theorem wd_186 : (Cond.methodLink "GraphWriter" 45 ⟨"GraphWriter$Defined", "<init>", "(IIJ[I)V"⟩) ∈ wd_W := wd_mem 186 (by decide +kernel) (by decide +kernel)
theorem wd_187 : (Cond.instanceMethod ⟨"GraphWriter$Defined", "<init>", "(IIJ[I)V"⟩) ∈ wd_W := wd_mem 187 (by decide +kernel) (by decide +kernel)
theorem wd_188 : (Cond.code ⟨"GraphWriter$Defined", "<init>", "(IIJ[I)V"⟩ prog_2_method_1_code 6 none) ∈ wd_W := wd_mem 188 (by decide +kernel) (by decide +kernel)
theorem wd_189 : (Cond.methodLink "GraphWriter$Defined" 3 ⟨"java/lang/Object", "<init>", "()V"⟩) ∈ wd_W := wd_mem 189 (by decide +kernel) (by decide +kernel)
theorem wd_191 : (Cond.methodLink "GraphWriter$Defined" 34 ⟨"java/lang/String", "substring", "(II)Ljava/lang/String;"⟩) ∈ wd_W := wd_mem 191 (by decide +kernel) (by decide +kernel)
theorem wd_192 : (Cond.instanceMethod ⟨"java/lang/String", "substring", "(II)Ljava/lang/String;"⟩) ∈ wd_W := wd_mem 192 (by decide +kernel) (by decide +kernel)
theorem wd_193 : (Cond.selects "java/lang/String" ⟨"java/lang/String", "substring", "(II)Ljava/lang/String;"⟩ ⟨"java/lang/String", "substring", "(II)Ljava/lang/String;"⟩) ∈ wd_W := wd_mem 193 (by decide +kernel) (by decide +kernel)
theorem wd_194 : (Cond.code ⟨"java/lang/String", "substring", "(II)Ljava/lang/String;"⟩ prog_10_method_92_code 5 (some (FieldType.object "java/lang/String"))) ∈ wd_W := wd_mem 194 (by decide +kernel) (by decide +kernel)
theorem wd_195 : (Cond.methodLink "java/lang/String" 505 ⟨"java/lang/String", "length", "()I"⟩) ∈ wd_W := wd_mem 195 (by decide +kernel) (by decide +kernel)
theorem wd_196 : (Cond.instanceMethod ⟨"java/lang/String", "length", "()I"⟩) ∈ wd_W := wd_mem 196 (by decide +kernel) (by decide +kernel)
theorem wd_197 : (Cond.selects "java/lang/String" ⟨"java/lang/String", "length", "()I"⟩ ⟨"java/lang/String", "length", "()I"⟩) ∈ wd_W := wd_mem 197 (by decide +kernel) (by decide +kernel)
theorem wd_198 : (Cond.code ⟨"java/lang/String", "length", "()I"⟩ prog_10_method_54_code 1 (some FieldType.int)) ∈ wd_W := wd_mem 198 (by decide +kernel) (by decide +kernel)
theorem wd_199 : (Cond.methodLink "java/lang/String" 335 ⟨"java/lang/String", "coder", "()B"⟩) ∈ wd_W := wd_mem 199 (by decide +kernel) (by decide +kernel)
theorem wd_200 : (Cond.instanceMethod ⟨"java/lang/String", "coder", "()B"⟩) ∈ wd_W := wd_mem 200 (by decide +kernel) (by decide +kernel)
theorem wd_201 : (Cond.selects "java/lang/String" ⟨"java/lang/String", "coder", "()B"⟩ ⟨"java/lang/String", "coder", "()B"⟩) ∈ wd_W := wd_mem 201 (by decide +kernel) (by decide +kernel)
theorem wd_202 : (Cond.code ⟨"java/lang/String", "coder", "()B"⟩ prog_10_method_152_code 1 (some FieldType.byte)) ∈ wd_W := wd_mem 202 (by decide +kernel) (by decide +kernel)
theorem wd_203 : (Cond.fieldLink "java/lang/String" 38 "java/lang/String" "COMPACT_STRINGS" "Z") ∈ wd_W := wd_mem 203 (by decide +kernel) (by decide +kernel)
theorem wd_205 : (Cond.methodLink "java/lang/String" 521 ⟨"java/lang/String", "checkBoundsBeginEnd", "(III)V"⟩) ∈ wd_W := wd_mem 205 (by decide +kernel) (by decide +kernel)
theorem wd_206 : (Cond.static ⟨"java/lang/String", "checkBoundsBeginEnd", "(III)V"⟩) ∈ wd_W := wd_mem 206 (by decide +kernel) (by decide +kernel)
theorem wd_207 : (Cond.code ⟨"java/lang/String", "checkBoundsBeginEnd", "(III)V"⟩ prog_10_method_158_code 3 none) ∈ wd_W := wd_mem 207 (by decide +kernel) (by decide +kernel)
theorem wd_208 : (Cond.fieldLink "java/lang/String" 1053 "jdk/internal/util/Preconditions" "SIOOBE_FORMATTER" "Ljava/util/function/BiFunction;") ∈ wd_W := wd_mem 208 (by decide +kernel) (by decide +kernel)
theorem wd_210 : (Cond.methodLink "java/lang/String" 1062 ⟨"jdk/internal/util/Preconditions", "checkFromToIndex", "(IIILjava/util/function/BiFunction;)I"⟩) ∈ wd_W := wd_mem 210 (by decide +kernel) (by decide +kernel)
theorem wd_211 : (Cond.static ⟨"jdk/internal/util/Preconditions", "checkFromToIndex", "(IIILjava/util/function/BiFunction;)I"⟩) ∈ wd_W := wd_mem 211 (by decide +kernel) (by decide +kernel)
theorem wd_212 : (Cond.code ⟨"jdk/internal/util/Preconditions", "checkFromToIndex", "(IIILjava/util/function/BiFunction;)I"⟩ prog_17_method_12_code 4 (some FieldType.int)) ∈ wd_W := wd_mem 212 (by decide +kernel) (by decide +kernel)
theorem wd_213 : (Cond.methodLink "java/lang/String" 492 ⟨"java/lang/String", "isLatin1", "()Z"⟩) ∈ wd_W := wd_mem 213 (by decide +kernel) (by decide +kernel)
theorem wd_214 : (Cond.instanceMethod ⟨"java/lang/String", "isLatin1", "()Z"⟩) ∈ wd_W := wd_mem 214 (by decide +kernel) (by decide +kernel)
theorem wd_215 : (Cond.selects "java/lang/String" ⟨"java/lang/String", "isLatin1", "()Z"⟩ ⟨"java/lang/String", "isLatin1", "()Z"⟩) ∈ wd_W := wd_mem 215 (by decide +kernel) (by decide +kernel)
theorem wd_216 : (Cond.code ⟨"java/lang/String", "isLatin1", "()Z"⟩ prog_10_method_154_code 1 (some FieldType.boolean)) ∈ wd_W := wd_mem 216 (by decide +kernel) (by decide +kernel)
theorem wd_217 : (Cond.methodLink "java/lang/String" 685 ⟨"java/lang/StringLatin1", "newString", "([BII)Ljava/lang/String;"⟩) ∈ wd_W := wd_mem 217 (by decide +kernel) (by decide +kernel)
theorem wd_218 : (Cond.static ⟨"java/lang/StringLatin1", "newString", "([BII)Ljava/lang/String;"⟩) ∈ wd_W := wd_mem 218 (by decide +kernel) (by decide +kernel)
theorem wd_219 : (Cond.code ⟨"java/lang/StringLatin1", "newString", "([BII)Ljava/lang/String;"⟩ prog_12_method_47_code 3 (some (FieldType.object "java/lang/String"))) ∈ wd_W := wd_mem 219 (by decide +kernel) (by decide +kernel)
theorem wd_221 : (Cond.classLink "java/lang/StringLatin1" 1 "java/lang/String") ∈ wd_W := wd_mem 221 (by decide +kernel) (by decide +kernel)
theorem wd_222 : (Cond.instantiable "java/lang/String" 4) ∈ wd_W := wd_mem 222 (by decide +kernel) (by decide +kernel)
theorem wd_223 : (Cond.methodLink "java/lang/StringLatin1" 232 ⟨"java/util/Arrays", "copyOfRange", "([BII)[B"⟩) ∈ wd_W := wd_mem 223 (by decide +kernel) (by decide +kernel)
theorem wd_224 : (Cond.static ⟨"java/util/Arrays", "copyOfRange", "([BII)[B"⟩) ∈ wd_W := wd_mem 224 (by decide +kernel) (by decide +kernel)
theorem wd_225 : (Cond.code ⟨"java/util/Arrays", "copyOfRange", "([BII)[B"⟩ prog_15_method_132_code 3 (some (FieldType.array FieldType.byte))) ∈ wd_W := wd_mem 225 (by decide +kernel) (by decide +kernel)
theorem wd_226 : (Cond.methodLink "java/util/Arrays" 339 ⟨"java/util/Arrays", "copyOfRangeByte", "([BII)[B"⟩) ∈ wd_W := wd_mem 226 (by decide +kernel) (by decide +kernel)
theorem wd_227 : (Cond.static ⟨"java/util/Arrays", "copyOfRangeByte", "([BII)[B"⟩) ∈ wd_W := wd_mem 227 (by decide +kernel) (by decide +kernel)
theorem wd_228 : (Cond.code ⟨"java/util/Arrays", "copyOfRangeByte", "([BII)[B"⟩ prog_15_method_133_code 5 (some (FieldType.array FieldType.byte))) ∈ wd_W := wd_mem 228 (by decide +kernel) (by decide +kernel)
theorem wd_229 : (Cond.methodLink "java/util/Arrays" 343 ⟨"java/util/Arrays", "checkLength", "(II)V"⟩) ∈ wd_W := wd_mem 229 (by decide +kernel) (by decide +kernel)
theorem wd_230 : (Cond.static ⟨"java/util/Arrays", "checkLength", "(II)V"⟩) ∈ wd_W := wd_mem 230 (by decide +kernel) (by decide +kernel)
theorem wd_231 : (Cond.code ⟨"java/util/Arrays", "checkLength", "(II)V"⟩ prog_15_method_131_code 2 none) ∈ wd_W := wd_mem 231 (by decide +kernel) (by decide +kernel)
theorem wd_232 : (Cond.methodLink "java/util/Arrays" 310 ⟨"[B", "clone", "()Ljava/lang/Object;"⟩) ∈ wd_W := wd_mem 232 (by decide +kernel) (by decide +kernel)
theorem wd_233 : (Cond.sameMethod "[B" "java/lang/Object" "clone" "()Ljava/lang/Object;") ∈ wd_W := wd_mem 233 (by decide +kernel) (by decide +kernel)
theorem wd_234 : (Cond.selects "[B" ⟨"[B", "clone", "()Ljava/lang/Object;"⟩ ⟨"java/lang/Object", "clone", "()Ljava/lang/Object;"⟩) ∈ wd_W := wd_mem 234 (by decide +kernel) (by decide +kernel)
theorem wd_236 : (Cond.classLink "java/util/Arrays" 311 "[B") ∈ wd_W := wd_mem 236 (by decide +kernel) (by decide +kernel)
theorem wd_237 : (Cond.methodLink "java/lang/StringLatin1" 112 ⟨"java/lang/String", "<init>", "([BB)V"⟩) ∈ wd_W := wd_mem 237 (by decide +kernel) (by decide +kernel)
theorem wd_238 : (Cond.instanceMethod ⟨"java/lang/String", "<init>", "([BB)V"⟩) ∈ wd_W := wd_mem 238 (by decide +kernel) (by decide +kernel)
theorem wd_239 : (Cond.code ⟨"java/lang/String", "<init>", "([BB)V"⟩ prog_10_method_151_code 3 none) ∈ wd_W := wd_mem 239 (by decide +kernel) (by decide +kernel)
theorem wd_240 : (Cond.methodLink "java/lang/String" 1 ⟨"java/lang/Object", "<init>", "()V"⟩) ∈ wd_W := wd_mem 240 (by decide +kernel) (by decide +kernel)
theorem wd_241 : (Cond.fieldLink "java/lang/String" 9 "java/lang/String" "value" "[B") ∈ wd_W := wd_mem 241 (by decide +kernel) (by decide +kernel)
theorem wd_242 : (Cond.fieldLink "java/lang/String" 15 "java/lang/String" "coder" "B") ∈ wd_W := wd_mem 242 (by decide +kernel) (by decide +kernel)
theorem wd_243 : (Cond.laysFinal "java/lang/String" "java/lang/String" "value" "[B") ∈ wd_W := wd_mem 243 (by decide +kernel) (by decide +kernel)
theorem wd_245 : (Cond.laysFinal "java/lang/String" "java/lang/String" "coder" "B") ∈ wd_W := wd_mem 245 (by decide +kernel) (by decide +kernel)
theorem wd_247 : (Cond.lays "java/lang/String" "java/lang/String" "hash" "I") ∈ wd_W := wd_mem 247 (by decide +kernel) (by decide +kernel)
theorem wd_249 : (Cond.lays "java/lang/String" "java/lang/String" "hashIsZero" "Z") ∈ wd_W := wd_mem 249 (by decide +kernel) (by decide +kernel)
theorem wd_252 : (Cond.methodLink "java/lang/String" 689 ⟨"java/lang/StringUTF16", "newString", "([BII)Ljava/lang/String;"⟩) ∈ wd_W := wd_mem 252 (by decide +kernel) (by decide +kernel)
theorem wd_253 : (Cond.static ⟨"java/lang/StringUTF16", "newString", "([BII)Ljava/lang/String;"⟩) ∈ wd_W := wd_mem 253 (by decide +kernel) (by decide +kernel)
theorem wd_254 : (Cond.code ⟨"java/lang/StringUTF16", "newString", "([BII)Ljava/lang/String;"⟩ prog_13_method_69_code 5 (some (FieldType.object "java/lang/String"))) ∈ wd_W := wd_mem 254 (by decide +kernel) (by decide +kernel)
theorem wd_256 : (Cond.fieldLink "java/lang/StringUTF16" 251 "java/lang/String" "COMPACT_STRINGS" "Z") ∈ wd_W := wd_mem 256 (by decide +kernel) (by decide +kernel)
theorem wd_257 : (Cond.methodLink "java/lang/StringUTF16" 257 ⟨"java/lang/StringUTF16", "compress", "([BII)[B"⟩) ∈ wd_W := wd_mem 257 (by decide +kernel) (by decide +kernel)
theorem wd_258 : (Cond.static ⟨"java/lang/StringUTF16", "compress", "([BII)[B"⟩) ∈ wd_W := wd_mem 258 (by decide +kernel) (by decide +kernel)
theorem wd_259 : (Cond.code ⟨"java/lang/StringUTF16", "compress", "([BII)[B"⟩ prog_13_method_17_code 6 (some (FieldType.array FieldType.byte))) ∈ wd_W := wd_mem 259 (by decide +kernel) (by decide +kernel)
theorem wd_260 : (Cond.methodLink "java/lang/StringUTF16" 123 ⟨"java/lang/StringUTF16", "compress", "([BI[BII)I"⟩) ∈ wd_W := wd_mem 260 (by decide +kernel) (by decide +kernel)
theorem wd_261 : (Cond.static ⟨"java/lang/StringUTF16", "compress", "([BI[BII)I"⟩) ∈ wd_W := wd_mem 261 (by decide +kernel) (by decide +kernel)
theorem wd_262 : (Cond.code ⟨"java/lang/StringUTF16", "compress", "([BI[BII)I"⟩ prog_13_method_22_code 7 (some FieldType.int)) ∈ wd_W := wd_mem 262 (by decide +kernel) (by decide +kernel)
theorem wd_263 : (Cond.methodLink "java/lang/StringUTF16" 173 ⟨"java/lang/StringUTF16", "checkBoundsOffCount", "(II[B)V"⟩) ∈ wd_W := wd_mem 263 (by decide +kernel) (by decide +kernel)
theorem wd_264 : (Cond.static ⟨"java/lang/StringUTF16", "checkBoundsOffCount", "(II[B)V"⟩) ∈ wd_W := wd_mem 264 (by decide +kernel) (by decide +kernel)
theorem wd_265 : (Cond.code ⟨"java/lang/StringUTF16", "checkBoundsOffCount", "(II[B)V"⟩ prog_13_method_94_code 3 none) ∈ wd_W := wd_mem 265 (by decide +kernel) (by decide +kernel)
theorem wd_266 : (Cond.methodLink "java/lang/StringUTF16" 48 ⟨"java/lang/StringUTF16", "length", "([B)I"⟩) ∈ wd_W := wd_mem 266 (by decide +kernel) (by decide +kernel)
theorem wd_267 : (Cond.static ⟨"java/lang/StringUTF16", "length", "([B)I"⟩) ∈ wd_W := wd_mem 267 (by decide +kernel) (by decide +kernel)
theorem wd_268 : (Cond.code ⟨"java/lang/StringUTF16", "length", "([B)I"⟩ prog_13_method_6_code 1 (some FieldType.int)) ∈ wd_W := wd_mem 268 (by decide +kernel) (by decide +kernel)
theorem wd_269 : (Cond.methodLink "java/lang/StringUTF16" 419 ⟨"java/lang/String", "checkBoundsOffCount", "(III)I"⟩) ∈ wd_W := wd_mem 269 (by decide +kernel) (by decide +kernel)
theorem wd_270 : (Cond.static ⟨"java/lang/String", "checkBoundsOffCount", "(III)I"⟩) ∈ wd_W := wd_mem 270 (by decide +kernel) (by decide +kernel)
theorem wd_271 : (Cond.code ⟨"java/lang/String", "checkBoundsOffCount", "(III)I"⟩ prog_10_method_157_code 3 (some FieldType.int)) ∈ wd_W := wd_mem 271 (by decide +kernel) (by decide +kernel)
theorem wd_272 : (Cond.methodLink "java/lang/String" 1065 ⟨"jdk/internal/util/Preconditions", "checkFromIndexSize", "(IIILjava/util/function/BiFunction;)I"⟩) ∈ wd_W := wd_mem 272 (by decide +kernel) (by decide +kernel)
theorem wd_273 : (Cond.static ⟨"jdk/internal/util/Preconditions", "checkFromIndexSize", "(IIILjava/util/function/BiFunction;)I"⟩) ∈ wd_W := wd_mem 273 (by decide +kernel) (by decide +kernel)
theorem wd_274 : (Cond.code ⟨"jdk/internal/util/Preconditions", "checkFromIndexSize", "(IIILjava/util/function/BiFunction;)I"⟩ prog_17_method_13_code 4 (some FieldType.int)) ∈ wd_W := wd_mem 274 (by decide +kernel) (by decide +kernel)
theorem wd_275 : (Cond.methodLink "java/lang/StringUTF16" 71 ⟨"java/lang/StringUTF16", "getChar", "([BI)C"⟩) ∈ wd_W := wd_mem 275 (by decide +kernel) (by decide +kernel)
theorem wd_276 : (Cond.static ⟨"java/lang/StringUTF16", "getChar", "([BI)C"⟩) ∈ wd_W := wd_mem 276 (by decide +kernel) (by decide +kernel)
theorem wd_277 : (Cond.code ⟨"java/lang/StringUTF16", "getChar", "([BI)C"⟩ prog_13_method_5_code 2 (some FieldType.char)) ∈ wd_W := wd_mem 277 (by decide +kernel) (by decide +kernel)
theorem wd_278 : (Cond.fieldLink "java/lang/StringUTF16" 44 "java/lang/StringUTF16" "$assertionsDisabled" "Z") ∈ wd_W := wd_mem 278 (by decide +kernel) (by decide +kernel)
theorem wd_280 : (Cond.fieldLink "java/lang/StringUTF16" 59 "java/lang/StringUTF16" "HI_BYTE_SHIFT" "I") ∈ wd_W := wd_mem 280 (by decide +kernel) (by decide +kernel)
theorem wd_282 : (Cond.fieldLink "java/lang/StringUTF16" 63 "java/lang/StringUTF16" "LO_BYTE_SHIFT" "I") ∈ wd_W := wd_mem 282 (by decide +kernel) (by decide +kernel)
theorem wd_284 : (Cond.methodLink "java/lang/StringUTF16" 11 ⟨"java/lang/StringUTF16", "newBytesLength", "(I)I"⟩) ∈ wd_W := wd_mem 284 (by decide +kernel) (by decide +kernel)
theorem wd_285 : (Cond.static ⟨"java/lang/StringUTF16", "newBytesLength", "(I)I"⟩) ∈ wd_W := wd_mem 285 (by decide +kernel) (by decide +kernel)
theorem wd_286 : (Cond.code ⟨"java/lang/StringUTF16", "newBytesLength", "(I)I"⟩ prog_13_method_3_code 1 (some FieldType.int)) ∈ wd_W := wd_mem 286 (by decide +kernel) (by decide +kernel)
theorem wd_287 : (Cond.constant "java/lang/StringUTF16" 20 (1073741823 : Int32)) ∈ wd_W := wd_mem 287 (by decide +kernel) (by decide +kernel)
theorem wd_288 : (Cond.methodLink "java/lang/StringUTF16" 126 ⟨"java/util/Arrays", "copyOfRange", "([BII)[B"⟩) ∈ wd_W := wd_mem 288 (by decide +kernel) (by decide +kernel)
theorem wd_289 : (Cond.methodLink "java/lang/StringUTF16" 259 ⟨"java/lang/StringUTF16", "coderFromArrayLen", "([BI)B"⟩) ∈ wd_W := wd_mem 289 (by decide +kernel) (by decide +kernel)
theorem wd_290 : (Cond.static ⟨"java/lang/StringUTF16", "coderFromArrayLen", "([BI)B"⟩) ∈ wd_W := wd_mem 290 (by decide +kernel) (by decide +kernel)
theorem wd_291 : (Cond.code ⟨"java/lang/StringUTF16", "coderFromArrayLen", "([BI)B"⟩ prog_13_method_15_code 2 (some FieldType.byte)) ∈ wd_W := wd_mem 291 (by decide +kernel) (by decide +kernel)
theorem wd_292 : (Cond.classLink "java/lang/StringUTF16" 3 "java/lang/String") ∈ wd_W := wd_mem 292 (by decide +kernel) (by decide +kernel)
theorem wd_293 : (Cond.methodLink "java/lang/StringUTF16" 263 ⟨"java/lang/String", "<init>", "([BB)V"⟩) ∈ wd_W := wd_mem 293 (by decide +kernel) (by decide +kernel)
theorem wd_294 : (Cond.fieldLink "GraphWriter$Defined" 21 "GraphWriter$Defined" "number" "I") ∈ wd_W := wd_mem 294 (by decide +kernel) (by decide +kernel)
theorem wd_295 : (Cond.fieldLink "GraphWriter" 293 "GraphWriter$Defined" "number" "I") ∈ wd_W := wd_mem 295 (by decide +kernel) (by decide +kernel)
theorem wd_296 : (Cond.fieldLink "GraphWriter$Defined" 25 "GraphWriter$Defined" "kind" "I") ∈ wd_W := wd_mem 296 (by decide +kernel) (by decide +kernel)
theorem wd_297 : (Cond.fieldLink "GraphWriter" 52 "GraphWriter$Defined" "kind" "I") ∈ wd_W := wd_mem 297 (by decide +kernel) (by decide +kernel)
theorem wd_298 : (Cond.fieldLink "GraphWriter$Defined" 28 "GraphWriter$Defined" "id" "J") ∈ wd_W := wd_mem 298 (by decide +kernel) (by decide +kernel)
theorem wd_299 : (Cond.fieldLink "GraphWriter" 298 "GraphWriter$Defined" "id" "J") ∈ wd_W := wd_mem 299 (by decide +kernel) (by decide +kernel)
theorem wd_300 : (Cond.fieldLink "GraphWriter$Defined" 40 "GraphWriter$Defined" "sign" "Ljava/lang/String;") ∈ wd_W := wd_mem 300 (by decide +kernel) (by decide +kernel)
theorem wd_301 : (Cond.fieldLink "GraphWriter" 267 "GraphWriter$Defined" "sign" "Ljava/lang/String;") ∈ wd_W := wd_mem 301 (by decide +kernel) (by decide +kernel)
theorem wd_302 : (Cond.fieldLink "GraphWriter$Defined" 44 "GraphWriter$Defined" "chain" "[I") ∈ wd_W := wd_mem 302 (by decide +kernel) (by decide +kernel)
theorem wd_303 : (Cond.fieldLink "GraphWriter" 73 "GraphWriter$Defined" "chain" "[I") ∈ wd_W := wd_mem 303 (by decide +kernel) (by decide +kernel)
theorem wd_304 : (Cond.fieldLink "GraphWriter$Defined" 9 "GraphWriter$Defined" "names" "[I") ∈ wd_W := wd_mem 304 (by decide +kernel) (by decide +kernel)
theorem wd_305 : (Cond.fieldLink "GraphWriter" 311 "GraphWriter$Defined" "names" "[I") ∈ wd_W := wd_mem 305 (by decide +kernel) (by decide +kernel)
theorem wd_306 : (Cond.fieldLink "GraphWriter$Defined" 15 "GraphWriter$Defined" "types" "[I") ∈ wd_W := wd_mem 306 (by decide +kernel) (by decide +kernel)
theorem wd_307 : (Cond.fieldLink "GraphWriter" 190 "GraphWriter$Defined" "types" "[I") ∈ wd_W := wd_mem 307 (by decide +kernel) (by decide +kernel)
theorem wd_308 : (Cond.fieldLink "GraphWriter$Defined" 18 "GraphWriter$Defined" "order" "[I") ∈ wd_W := wd_mem 308 (by decide +kernel) (by decide +kernel)
theorem wd_309 : (Cond.fieldLink "GraphWriter" 283 "GraphWriter$Defined" "order" "[I") ∈ wd_W := wd_mem 309 (by decide +kernel) (by decide +kernel)
theorem wd_310 : (Cond.fieldLink "GraphWriter$Defined" 47 "GraphWriter$Defined" "fields" "I") ∈ wd_W := wd_mem 310 (by decide +kernel) (by decide +kernel)
theorem wd_311 : (Cond.fieldLink "GraphWriter" 60 "GraphWriter$Defined" "fields" "I") ∈ wd_W := wd_mem 311 (by decide +kernel) (by decide +kernel)
theorem wd_312 : (Cond.fieldLink "GraphWriter$Defined" 54 "GraphWriter$Defined" "shown" "I") ∈ wd_W := wd_mem 312 (by decide +kernel) (by decide +kernel)
theorem wd_313 : (Cond.fieldLink "GraphWriter" 280 "GraphWriter$Defined" "shown" "I") ∈ wd_W := wd_mem 313 (by decide +kernel) (by decide +kernel)
theorem wd_314 : (Cond.fieldLink "GraphWriter" 56 "GraphWriter$Defined" "used" "Z") ∈ wd_W := wd_mem 314 (by decide +kernel) (by decide +kernel)
theorem wd_315 : (Cond.laysFinal "GraphWriter$Defined" "GraphWriter$Defined" "number" "I") ∈ wd_W := wd_mem 315 (by decide +kernel) (by decide +kernel)
theorem wd_317 : (Cond.laysFinal "GraphWriter$Defined" "GraphWriter$Defined" "kind" "I") ∈ wd_W := wd_mem 317 (by decide +kernel) (by decide +kernel)
theorem wd_319 : (Cond.laysFinal "GraphWriter$Defined" "GraphWriter$Defined" "id" "J") ∈ wd_W := wd_mem 319 (by decide +kernel) (by decide +kernel)
theorem wd_321 : (Cond.laysFinal "GraphWriter$Defined" "GraphWriter$Defined" "sign" "Ljava/lang/String;") ∈ wd_W := wd_mem 321 (by decide +kernel) (by decide +kernel)
theorem wd_323 : (Cond.laysFinal "GraphWriter$Defined" "GraphWriter$Defined" "chain" "[I") ∈ wd_W := wd_mem 323 (by decide +kernel) (by decide +kernel)
theorem wd_325 : (Cond.laysFinal "GraphWriter$Defined" "GraphWriter$Defined" "names" "[I") ∈ wd_W := wd_mem 325 (by decide +kernel) (by decide +kernel)
theorem wd_327 : (Cond.laysFinal "GraphWriter$Defined" "GraphWriter$Defined" "types" "[I") ∈ wd_W := wd_mem 327 (by decide +kernel) (by decide +kernel)
theorem wd_329 : (Cond.laysFinal "GraphWriter$Defined" "GraphWriter$Defined" "order" "[I") ∈ wd_W := wd_mem 329 (by decide +kernel) (by decide +kernel)
theorem wd_331 : (Cond.lays "GraphWriter$Defined" "GraphWriter$Defined" "fields" "I") ∈ wd_W := wd_mem 331 (by decide +kernel) (by decide +kernel)
theorem wd_333 : (Cond.lays "GraphWriter$Defined" "GraphWriter$Defined" "shown" "I") ∈ wd_W := wd_mem 333 (by decide +kernel) (by decide +kernel)
theorem wd_335 : (Cond.lays "GraphWriter$Defined" "GraphWriter$Defined" "used" "Z") ∈ wd_W := wd_mem 335 (by decide +kernel) (by decide +kernel)
theorem wd_338 : (Cond.methodLink "GraphWriterLaw" 20 ⟨"GraphWriter", "field", "(IIIZ)I"⟩) ∈ wd_W := wd_mem 338 (by decide +kernel) (by decide +kernel)
theorem wd_339 : (Cond.instanceMethod ⟨"GraphWriter", "field", "(IIIZ)I"⟩) ∈ wd_W := wd_mem 339 (by decide +kernel) (by decide +kernel)
theorem wd_340 : (Cond.selects "GraphWriter" ⟨"GraphWriter", "field", "(IIIZ)I"⟩ ⟨"GraphWriter", "field", "(IIIZ)I"⟩) ∈ wd_W := wd_mem 340 (by decide +kernel) (by decide +kernel)
theorem wd_341 : (Cond.code ⟨"GraphWriter", "field", "(IIIZ)I"⟩ prog_1_method_3_code 6 (some FieldType.int)) ∈ wd_W := wd_mem 341 (by decide +kernel) (by decide +kernel)
theorem wd_342 : (Cond.methodLink "GraphWriter" 63 ⟨"GraphWriter$Defined", "hasField", "(I)Z"⟩) ∈ wd_W := wd_mem 342 (by decide +kernel) (by decide +kernel)
theorem wd_343 : (Cond.instanceMethod ⟨"GraphWriter$Defined", "hasField", "(I)Z"⟩) ∈ wd_W := wd_mem 343 (by decide +kernel) (by decide +kernel)
theorem wd_344 : (Cond.selects "GraphWriter$Defined" ⟨"GraphWriter$Defined", "hasField", "(I)Z"⟩ ⟨"GraphWriter$Defined", "hasField", "(I)Z"⟩) ∈ wd_W := wd_mem 344 (by decide +kernel) (by decide +kernel)
theorem wd_345 : (Cond.code ⟨"GraphWriter$Defined", "hasField", "(I)Z"⟩ prog_2_method_3_code 3 (some FieldType.boolean)) ∈ wd_W := wd_mem 345 (by decide +kernel) (by decide +kernel)
theorem wd_346 : (Cond.methodLink "GraphWriter" 66 ⟨"GraphWriter$Defined", "addField", "(IIZ)V"⟩) ∈ wd_W := wd_mem 346 (by decide +kernel) (by decide +kernel)
theorem wd_347 : (Cond.instanceMethod ⟨"GraphWriter$Defined", "addField", "(IIZ)V"⟩) ∈ wd_W := wd_mem 347 (by decide +kernel) (by decide +kernel)
theorem wd_348 : (Cond.selects "GraphWriter$Defined" ⟨"GraphWriter$Defined", "addField", "(IIZ)V"⟩ ⟨"GraphWriter$Defined", "addField", "(IIZ)V"⟩) ∈ wd_W := wd_mem 348 (by decide +kernel) (by decide +kernel)
theorem wd_349 : (Cond.code ⟨"GraphWriter$Defined", "addField", "(IIZ)V"⟩ prog_2_method_4_code 4 none) ∈ wd_W := wd_mem 349 (by decide +kernel) (by decide +kernel)
theorem wd_350 : (Cond.methodLink "GraphWriter$Defined" 50 ⟨"GraphWriter$Defined", "putInOrder", "(I)V"⟩) ∈ wd_W := wd_mem 350 (by decide +kernel) (by decide +kernel)
theorem wd_352 : (Cond.instanceMethod ⟨"GraphWriter$Defined", "putInOrder", "(I)V"⟩) ∈ wd_W := wd_mem 352 (by decide +kernel) (by decide +kernel)
theorem wd_353 : (Cond.code ⟨"GraphWriter$Defined", "putInOrder", "(I)V"⟩ prog_2_method_5_code 3 none) ∈ wd_W := wd_mem 353 (by decide +kernel) (by decide +kernel)
theorem wd_354 : (Cond.methodLink "GraphWriter$Defined" 57 ⟨"GraphWriter$Defined", "rank", "(I)I"⟩) ∈ wd_W := wd_mem 354 (by decide +kernel) (by decide +kernel)
theorem wd_356 : (Cond.instanceMethod ⟨"GraphWriter$Defined", "rank", "(I)I"⟩) ∈ wd_W := wd_mem 356 (by decide +kernel) (by decide +kernel)
theorem wd_357 : (Cond.code ⟨"GraphWriter$Defined", "rank", "(I)I"⟩ prog_2_method_6_code 2 (some FieldType.int)) ∈ wd_W := wd_mem 357 (by decide +kernel) (by decide +kernel)
theorem wd_358 : (Cond.methodLink "GraphWriterLaw" 25 ⟨"GraphWriter", "instance", "(I)I"⟩) ∈ wd_W := wd_mem 358 (by decide +kernel) (by decide +kernel)
theorem wd_359 : (Cond.instanceMethod ⟨"GraphWriter", "instance", "(I)I"⟩) ∈ wd_W := wd_mem 359 (by decide +kernel) (by decide +kernel)
theorem wd_360 : (Cond.selects "GraphWriter" ⟨"GraphWriter", "instance", "(I)I"⟩ ⟨"GraphWriter", "instance", "(I)I"⟩) ∈ wd_W := wd_mem 360 (by decide +kernel) (by decide +kernel)
theorem wd_361 : (Cond.code ⟨"GraphWriter", "instance", "(I)I"⟩ prog_1_method_4_code 4 (some FieldType.int)) ∈ wd_W := wd_mem 361 (by decide +kernel) (by decide +kernel)
theorem wd_362 : (Cond.instantiable "GraphWriter$Thing" 7) ∈ wd_W := wd_mem 362 (by decide +kernel) (by decide +kernel)
theorem wd_363 : (Cond.methodLink "GraphWriter" 77 ⟨"GraphWriter", "slotTypes", "([I)[I"⟩) ∈ wd_W := wd_mem 363 (by decide +kernel) (by decide +kernel)
theorem wd_365 : (Cond.instanceMethod ⟨"GraphWriter", "slotTypes", "([I)[I"⟩) ∈ wd_W := wd_mem 365 (by decide +kernel) (by decide +kernel)
theorem wd_366 : (Cond.code ⟨"GraphWriter", "slotTypes", "([I)[I"⟩ prog_1_method_24_code 7 (some (FieldType.array FieldType.int))) ∈ wd_W := wd_mem 366 (by decide +kernel) (by decide +kernel)
theorem wd_367 : (Cond.methodLink "GraphWriter" 191 ⟨"java/lang/System", "arraycopy", "(Ljava/lang/Object;ILjava/lang/Object;II)V"⟩) ∈ wd_W := wd_mem 367 (by decide +kernel) (by decide +kernel)
theorem wd_369 : (Cond.methodLink "GraphWriter" 83 ⟨"GraphWriter$Thing", "<init>", "(II[ILjava/lang/String;)V"⟩) ∈ wd_W := wd_mem 369 (by decide +kernel) (by decide +kernel)
theorem wd_370 : (Cond.instanceMethod ⟨"GraphWriter$Thing", "<init>", "(II[ILjava/lang/String;)V"⟩) ∈ wd_W := wd_mem 370 (by decide +kernel) (by decide +kernel)
theorem wd_371 : (Cond.code ⟨"GraphWriter$Thing", "<init>", "(II[ILjava/lang/String;)V"⟩ prog_4_method_1_code 6 none) ∈ wd_W := wd_mem 371 (by decide +kernel) (by decide +kernel)
theorem wd_372 : (Cond.methodLink "GraphWriter$Thing" 3 ⟨"java/lang/Object", "<init>", "()V"⟩) ∈ wd_W := wd_mem 372 (by decide +kernel) (by decide +kernel)
theorem wd_373 : (Cond.constantLong "GraphWriter$Thing" 33 (-1 : Int64)) ∈ wd_W := wd_mem 373 (by decide +kernel) (by decide +kernel)
theorem wd_374 : (Cond.fieldLink "GraphWriter$Thing" 15 "GraphWriter$Thing" "sort" "I") ∈ wd_W := wd_mem 374 (by decide +kernel) (by decide +kernel)
theorem wd_375 : (Cond.fieldLink "GraphWriter" 174 "GraphWriter$Thing" "sort" "I") ∈ wd_W := wd_mem 375 (by decide +kernel) (by decide +kernel)
theorem wd_376 : (Cond.fieldLink "GraphWriter$Thing" 18 "GraphWriter$Thing" "owner" "I") ∈ wd_W := wd_mem 376 (by decide +kernel) (by decide +kernel)
theorem wd_377 : (Cond.fieldLink "GraphWriter" 177 "GraphWriter$Thing" "owner" "I") ∈ wd_W := wd_mem 377 (by decide +kernel) (by decide +kernel)
theorem wd_378 : (Cond.fieldLink "GraphWriter$Thing" 21 "GraphWriter$Thing" "types" "[I") ∈ wd_W := wd_mem 378 (by decide +kernel) (by decide +kernel)
theorem wd_379 : (Cond.fieldLink "GraphWriter" 113 "GraphWriter$Thing" "types" "[I") ∈ wd_W := wd_mem 379 (by decide +kernel) (by decide +kernel)
theorem wd_380 : (Cond.fieldLink "GraphWriter$Thing" 29 "GraphWriter$Thing" "values" "[J") ∈ wd_W := wd_mem 380 (by decide +kernel) (by decide +kernel)
theorem wd_381 : (Cond.fieldLink "GraphWriter" 120 "GraphWriter$Thing" "values" "[J") ∈ wd_W := wd_mem 381 (by decide +kernel) (by decide +kernel)
theorem wd_382 : (Cond.fieldLink "GraphWriter$Thing" 25 "GraphWriter$Thing" "text" "Ljava/lang/String;") ∈ wd_W := wd_mem 382 (by decide +kernel) (by decide +kernel)
theorem wd_383 : (Cond.fieldLink "GraphWriter" 180 "GraphWriter$Thing" "text" "Ljava/lang/String;") ∈ wd_W := wd_mem 383 (by decide +kernel) (by decide +kernel)
theorem wd_384 : (Cond.fieldLink "GraphWriter$Thing" 9 "GraphWriter$Thing" "replacement" "I") ∈ wd_W := wd_mem 384 (by decide +kernel) (by decide +kernel)
theorem wd_385 : (Cond.fieldLink "GraphWriter" 127 "GraphWriter$Thing" "replacement" "I") ∈ wd_W := wd_mem 385 (by decide +kernel) (by decide +kernel)
theorem wd_386 : (Cond.fieldLink "GraphWriter" 130 "GraphWriter$Thing" "extra" "I") ∈ wd_W := wd_mem 386 (by decide +kernel) (by decide +kernel)
theorem wd_387 : (Cond.laysFinal "GraphWriter$Thing" "GraphWriter$Thing" "sort" "I") ∈ wd_W := wd_mem 387 (by decide +kernel) (by decide +kernel)
theorem wd_389 : (Cond.laysFinal "GraphWriter$Thing" "GraphWriter$Thing" "owner" "I") ∈ wd_W := wd_mem 389 (by decide +kernel) (by decide +kernel)
theorem wd_391 : (Cond.laysFinal "GraphWriter$Thing" "GraphWriter$Thing" "types" "[I") ∈ wd_W := wd_mem 391 (by decide +kernel) (by decide +kernel)
theorem wd_393 : (Cond.laysFinal "GraphWriter$Thing" "GraphWriter$Thing" "values" "[J") ∈ wd_W := wd_mem 393 (by decide +kernel) (by decide +kernel)
theorem wd_395 : (Cond.laysFinal "GraphWriter$Thing" "GraphWriter$Thing" "text" "Ljava/lang/String;") ∈ wd_W := wd_mem 395 (by decide +kernel) (by decide +kernel)
theorem wd_397 : (Cond.lays "GraphWriter$Thing" "GraphWriter$Thing" "replacement" "I") ∈ wd_W := wd_mem 397 (by decide +kernel) (by decide +kernel)
theorem wd_399 : (Cond.lays "GraphWriter$Thing" "GraphWriter$Thing" "extra" "I") ∈ wd_W := wd_mem 399 (by decide +kernel) (by decide +kernel)
theorem wd_402 : (Cond.arrayClass FieldType.long) ∈ wd_W := wd_mem 402 (by decide +kernel) (by decide +kernel)
theorem wd_403 : (Cond.methodLink "GraphWriter" 86 ⟨"GraphWriter", "keep", "(LGraphWriter$Thing;)I"⟩) ∈ wd_W := wd_mem 403 (by decide +kernel) (by decide +kernel)
theorem wd_405 : (Cond.instanceMethod ⟨"GraphWriter", "keep", "(LGraphWriter$Thing;)I"⟩) ∈ wd_W := wd_mem 405 (by decide +kernel) (by decide +kernel)
theorem wd_406 : (Cond.code ⟨"GraphWriter", "keep", "(LGraphWriter$Thing;)I"⟩ prog_1_method_26_code 2 (some FieldType.int)) ∈ wd_W := wd_mem 406 (by decide +kernel) (by decide +kernel)
theorem wd_407 : (Cond.methodLink "GraphWriterLaw" 30 ⟨"GraphWriter", "text", "(J)I"⟩) ∈ wd_W := wd_mem 407 (by decide +kernel) (by decide +kernel)
theorem wd_408 : (Cond.instanceMethod ⟨"GraphWriter", "text", "(J)I"⟩) ∈ wd_W := wd_mem 408 (by decide +kernel) (by decide +kernel)
theorem wd_409 : (Cond.selects "GraphWriter" ⟨"GraphWriter", "text", "(J)I"⟩ ⟨"GraphWriter", "text", "(J)I"⟩) ∈ wd_W := wd_mem 409 (by decide +kernel) (by decide +kernel)
theorem wd_410 : (Cond.code ⟨"GraphWriter", "text", "(J)I"⟩ prog_1_method_5_code 3 (some FieldType.int)) ∈ wd_W := wd_mem 410 (by decide +kernel) (by decide +kernel)
theorem wd_411 : (Cond.constantLong "GraphWriter" 90 (-9187201950435737472 : Int64)) ∈ wd_W := wd_mem 411 (by decide +kernel) (by decide +kernel)
theorem wd_412 : (Cond.methodLink "GraphWriter" 92 ⟨"GraphWriter", "signsOf", "(J)Ljava/lang/String;"⟩) ∈ wd_W := wd_mem 412 (by decide +kernel) (by decide +kernel)
theorem wd_413 : (Cond.static ⟨"GraphWriter", "signsOf", "(J)Ljava/lang/String;"⟩) ∈ wd_W := wd_mem 413 (by decide +kernel) (by decide +kernel)
theorem wd_414 : (Cond.code ⟨"GraphWriter", "signsOf", "(J)Ljava/lang/String;"⟩ prog_1_method_25_code 5 (some (FieldType.object "java/lang/String"))) ∈ wd_W := wd_mem 414 (by decide +kernel) (by decide +kernel)
theorem wd_415 : (Cond.classLink "GraphWriter" 197 "java/lang/StringBuilder") ∈ wd_W := wd_mem 415 (by decide +kernel) (by decide +kernel)
theorem wd_416 : (Cond.instantiable "java/lang/StringBuilder" 4) ∈ wd_W := wd_mem 416 (by decide +kernel) (by decide +kernel)
theorem wd_417 : (Cond.methodLink "GraphWriter" 199 ⟨"java/lang/StringBuilder", "<init>", "()V"⟩) ∈ wd_W := wd_mem 417 (by decide +kernel) (by decide +kernel)
theorem wd_418 : (Cond.instanceMethod ⟨"java/lang/StringBuilder", "<init>", "()V"⟩) ∈ wd_W := wd_mem 418 (by decide +kernel) (by decide +kernel)
theorem wd_419 : (Cond.code ⟨"java/lang/StringBuilder", "<init>", "()V"⟩ prog_11_method_1_code 1 none) ∈ wd_W := wd_mem 419 (by decide +kernel) (by decide +kernel)
theorem wd_420 : (Cond.methodLink "java/lang/StringBuilder" 1 ⟨"java/lang/AbstractStringBuilder", "<init>", "(I)V"⟩) ∈ wd_W := wd_mem 420 (by decide +kernel) (by decide +kernel)
theorem wd_421 : (Cond.instanceMethod ⟨"java/lang/AbstractStringBuilder", "<init>", "(I)V"⟩) ∈ wd_W := wd_mem 421 (by decide +kernel) (by decide +kernel)
theorem wd_422 : (Cond.code ⟨"java/lang/AbstractStringBuilder", "<init>", "(I)V"⟩ prog_7_method_2_code 2 none) ∈ wd_W := wd_mem 422 (by decide +kernel) (by decide +kernel)
theorem wd_423 : (Cond.methodLink "java/lang/AbstractStringBuilder" 3 ⟨"java/lang/Object", "<init>", "()V"⟩) ∈ wd_W := wd_mem 423 (by decide +kernel) (by decide +kernel)
theorem wd_424 : (Cond.fieldLink "java/lang/AbstractStringBuilder" 18 "java/lang/String" "COMPACT_STRINGS" "Z") ∈ wd_W := wd_mem 424 (by decide +kernel) (by decide +kernel)
theorem wd_425 : (Cond.methodLink "java/lang/AbstractStringBuilder" 26 ⟨"java/lang/StringUTF16", "newBytesFor", "(I)[B"⟩) ∈ wd_W := wd_mem 425 (by decide +kernel) (by decide +kernel)
theorem wd_426 : (Cond.static ⟨"java/lang/StringUTF16", "newBytesFor", "(I)[B"⟩) ∈ wd_W := wd_mem 426 (by decide +kernel) (by decide +kernel)
theorem wd_427 : (Cond.code ⟨"java/lang/StringUTF16", "newBytesFor", "(I)[B"⟩ prog_13_method_2_code 1 (some (FieldType.array FieldType.byte))) ∈ wd_W := wd_mem 427 (by decide +kernel) (by decide +kernel)
theorem wd_428 : (Cond.fieldLink "java/lang/AbstractStringBuilder" 15 "java/lang/AbstractStringBuilder" "value" "[B") ∈ wd_W := wd_mem 428 (by decide +kernel) (by decide +kernel)
theorem wd_429 : (Cond.fieldLink "java/lang/AbstractStringBuilder" 22 "java/lang/AbstractStringBuilder" "coder" "B") ∈ wd_W := wd_mem 429 (by decide +kernel) (by decide +kernel)
theorem wd_430 : (Cond.fieldLink "java/lang/String" 1048 "java/lang/AbstractStringBuilder" "maybeLatin1" "Z") ∈ wd_W := wd_mem 430 (by decide +kernel) (by decide +kernel)
theorem wd_431 : (Cond.fieldLink "java/lang/AbstractStringBuilder" 79 "java/lang/AbstractStringBuilder" "count" "I") ∈ wd_W := wd_mem 431 (by decide +kernel) (by decide +kernel)
theorem wd_432 : (Cond.lays "java/lang/StringBuilder" "java/lang/AbstractStringBuilder" "value" "[B") ∈ wd_W := wd_mem 432 (by decide +kernel) (by decide +kernel)
theorem wd_434 : (Cond.lays "java/lang/StringBuilder" "java/lang/AbstractStringBuilder" "coder" "B") ∈ wd_W := wd_mem 434 (by decide +kernel) (by decide +kernel)
theorem wd_436 : (Cond.lays "java/lang/StringBuilder" "java/lang/AbstractStringBuilder" "maybeLatin1" "Z") ∈ wd_W := wd_mem 436 (by decide +kernel) (by decide +kernel)
theorem wd_438 : (Cond.lays "java/lang/StringBuilder" "java/lang/AbstractStringBuilder" "count" "I") ∈ wd_W := wd_mem 438 (by decide +kernel) (by decide +kernel)
theorem wd_441 : (Cond.constantLong "GraphWriter" 200 (127 : Int64)) ∈ wd_W := wd_mem 441 (by decide +kernel) (by decide +kernel)
theorem wd_442 : (Cond.methodLink "GraphWriter" 202 ⟨"java/lang/StringBuilder", "append", "(C)Ljava/lang/StringBuilder;"⟩) ∈ wd_W := wd_mem 442 (by decide +kernel) (by decide +kernel)
theorem wd_443 : (Cond.instanceMethod ⟨"java/lang/StringBuilder", "append", "(C)Ljava/lang/StringBuilder;"⟩) ∈ wd_W := wd_mem 443 (by decide +kernel) (by decide +kernel)
theorem wd_444 : (Cond.selects "java/lang/StringBuilder" ⟨"java/lang/StringBuilder", "append", "(C)Ljava/lang/StringBuilder;"⟩ ⟨"java/lang/StringBuilder", "append", "(C)Ljava/lang/StringBuilder;"⟩) ∈ wd_W := wd_mem 444 (by decide +kernel) (by decide +kernel)
theorem wd_445 : (Cond.code ⟨"java/lang/StringBuilder", "append", "(C)Ljava/lang/StringBuilder;"⟩ prog_11_method_14_code 2 (some (FieldType.object "java/lang/StringBuilder"))) ∈ wd_W := wd_mem 445 (by decide +kernel) (by decide +kernel)
theorem wd_446 : (Cond.methodLink "java/lang/StringBuilder" 50 ⟨"java/lang/AbstractStringBuilder", "append", "(C)Ljava/lang/AbstractStringBuilder;"⟩) ∈ wd_W := wd_mem 446 (by decide +kernel) (by decide +kernel)
theorem wd_447 : (Cond.instanceMethod ⟨"java/lang/AbstractStringBuilder", "append", "(C)Ljava/lang/AbstractStringBuilder;"⟩) ∈ wd_W := wd_mem 447 (by decide +kernel) (by decide +kernel)
theorem wd_448 : (Cond.code ⟨"java/lang/AbstractStringBuilder", "append", "(C)Ljava/lang/AbstractStringBuilder;"⟩ prog_7_method_31_code 2 (some (FieldType.object "java/lang/AbstractStringBuilder"))) ∈ wd_W := wd_mem 448 (by decide +kernel) (by decide +kernel)
theorem wd_449 : (Cond.methodLink "java/lang/AbstractStringBuilder" 100 ⟨"java/lang/AbstractStringBuilder", "ensureCapacityInternal", "(I)V"⟩) ∈ wd_W := wd_mem 449 (by decide +kernel) (by decide +kernel)
theorem wd_451 : (Cond.instanceMethod ⟨"java/lang/AbstractStringBuilder", "ensureCapacityInternal", "(I)V"⟩) ∈ wd_W := wd_mem 451 (by decide +kernel) (by decide +kernel)
theorem wd_452 : (Cond.code ⟨"java/lang/AbstractStringBuilder", "ensureCapacityInternal", "(I)V"⟩ prog_7_method_9_code 3 none) ∈ wd_W := wd_mem 452 (by decide +kernel) (by decide +kernel)
theorem wd_453 : (Cond.methodLink "java/lang/AbstractStringBuilder" 104 ⟨"java/lang/AbstractStringBuilder", "newCapacity", "(I)I"⟩) ∈ wd_W := wd_mem 453 (by decide +kernel) (by decide +kernel)
theorem wd_455 : (Cond.instanceMethod ⟨"java/lang/AbstractStringBuilder", "newCapacity", "(I)I"⟩) ∈ wd_W := wd_mem 455 (by decide +kernel) (by decide +kernel)
theorem wd_456 : (Cond.code ⟨"java/lang/AbstractStringBuilder", "newCapacity", "(I)I"⟩ prog_7_method_10_code 6 (some FieldType.int)) ∈ wd_W := wd_mem 456 (by decide +kernel) (by decide +kernel)
theorem wd_457 : (Cond.methodLink "java/lang/AbstractStringBuilder" 114 ⟨"jdk/internal/util/ArraysSupport", "newLength", "(III)I"⟩) ∈ wd_W := wd_mem 457 (by decide +kernel) (by decide +kernel)
theorem wd_458 : (Cond.static ⟨"jdk/internal/util/ArraysSupport", "newLength", "(III)I"⟩) ∈ wd_W := wd_mem 458 (by decide +kernel) (by decide +kernel)
theorem wd_459 : (Cond.code ⟨"jdk/internal/util/ArraysSupport", "newLength", "(III)I"⟩ prog_16_method_27_code 4 (some FieldType.int)) ∈ wd_W := wd_mem 459 (by decide +kernel) (by decide +kernel)
theorem wd_460 : (Cond.methodLink "jdk/internal/util/ArraysSupport" 194 ⟨"java/lang/Math", "max", "(II)I"⟩) ∈ wd_W := wd_mem 460 (by decide +kernel) (by decide +kernel)
theorem wd_461 : (Cond.static ⟨"java/lang/Math", "max", "(II)I"⟩) ∈ wd_W := wd_mem 461 (by decide +kernel) (by decide +kernel)
theorem wd_462 : (Cond.code ⟨"java/lang/Math", "max", "(II)I"⟩ prog_9_method_65_code 2 (some FieldType.int)) ∈ wd_W := wd_mem 462 (by decide +kernel) (by decide +kernel)
theorem wd_463 : (Cond.constant "jdk/internal/util/ArraysSupport" 200 (2147483639 : Int32)) ∈ wd_W := wd_mem 463 (by decide +kernel) (by decide +kernel)
theorem wd_464 : (Cond.methodLink "jdk/internal/util/ArraysSupport" 201 ⟨"jdk/internal/util/ArraysSupport", "hugeLength", "(II)I"⟩) ∈ wd_W := wd_mem 464 (by decide +kernel) (by decide +kernel)
theorem wd_465 : (Cond.static ⟨"jdk/internal/util/ArraysSupport", "hugeLength", "(II)I"⟩) ∈ wd_W := wd_mem 465 (by decide +kernel) (by decide +kernel)
theorem wd_466 : (Cond.code ⟨"jdk/internal/util/ArraysSupport", "hugeLength", "(II)I"⟩ prog_16_method_28_code 3 (some FieldType.int)) ∈ wd_W := wd_mem 466 (by decide +kernel) (by decide +kernel)
theorem wd_467 : (Cond.constant "java/lang/AbstractStringBuilder" 39 (2147483647 : Int32)) ∈ wd_W := wd_mem 467 (by decide +kernel) (by decide +kernel)
theorem wd_468 : (Cond.methodLink "java/lang/AbstractStringBuilder" 108 ⟨"java/util/Arrays", "copyOf", "([BI)[B"⟩) ∈ wd_W := wd_mem 468 (by decide +kernel) (by decide +kernel)
theorem wd_469 : (Cond.static ⟨"java/util/Arrays", "copyOf", "([BI)[B"⟩) ∈ wd_W := wd_mem 469 (by decide +kernel) (by decide +kernel)
theorem wd_470 : (Cond.code ⟨"java/util/Arrays", "copyOf", "([BI)[B"⟩ prog_15_method_121_code 3 (some (FieldType.array FieldType.byte))) ∈ wd_W := wd_mem 470 (by decide +kernel) (by decide +kernel)
theorem wd_471 : (Cond.methodLink "java/lang/AbstractStringBuilder" 83 ⟨"java/lang/AbstractStringBuilder", "isLatin1", "()Z"⟩) ∈ wd_W := wd_mem 471 (by decide +kernel) (by decide +kernel)
theorem wd_472 : (Cond.instanceMethod ⟨"java/lang/AbstractStringBuilder", "isLatin1", "()Z"⟩) ∈ wd_W := wd_mem 472 (by decide +kernel) (by decide +kernel)
theorem wd_473 : (Cond.sameMethod "java/lang/AbstractStringBuilder" "java/lang/AbstractStringBuilder" "isLatin1" "()Z") ∈ wd_W := wd_mem 473 (by decide +kernel) (by decide +kernel)
theorem wd_474 : (Cond.selects "java/lang/StringBuilder" ⟨"java/lang/AbstractStringBuilder", "isLatin1", "()Z"⟩ ⟨"java/lang/AbstractStringBuilder", "isLatin1", "()Z"⟩) ∈ wd_W := wd_mem 474 (by decide +kernel) (by decide +kernel)
theorem wd_475 : (Cond.code ⟨"java/lang/AbstractStringBuilder", "isLatin1", "()Z"⟩ prog_7_method_68_code 1 (some FieldType.boolean)) ∈ wd_W := wd_mem 475 (by decide +kernel) (by decide +kernel)
theorem wd_476 : (Cond.methodLink "java/lang/AbstractStringBuilder" 191 ⟨"java/lang/StringLatin1", "canEncode", "(C)Z"⟩) ∈ wd_W := wd_mem 476 (by decide +kernel) (by decide +kernel)
theorem wd_477 : (Cond.static ⟨"java/lang/StringLatin1", "canEncode", "(C)Z"⟩) ∈ wd_W := wd_mem 477 (by decide +kernel) (by decide +kernel)
theorem wd_478 : (Cond.code ⟨"java/lang/StringLatin1", "canEncode", "(C)Z"⟩ prog_12_method_3_code 1 (some FieldType.boolean)) ∈ wd_W := wd_mem 478 (by decide +kernel) (by decide +kernel)
theorem wd_479 : (Cond.methodLink "java/lang/AbstractStringBuilder" 195 ⟨"java/lang/AbstractStringBuilder", "inflate", "()V"⟩) ∈ wd_W := wd_mem 479 (by decide +kernel) (by decide +kernel)
theorem wd_481 : (Cond.instanceMethod ⟨"java/lang/AbstractStringBuilder", "inflate", "()V"⟩) ∈ wd_W := wd_mem 481 (by decide +kernel) (by decide +kernel)
theorem wd_482 : (Cond.code ⟨"java/lang/AbstractStringBuilder", "inflate", "()V"⟩ prog_7_method_11_code 2 none) ∈ wd_W := wd_mem 482 (by decide +kernel) (by decide +kernel)
theorem wd_483 : (Cond.methodLink "java/lang/AbstractStringBuilder" 125 ⟨"java/lang/StringLatin1", "inflate", "([BI[BII)V"⟩) ∈ wd_W := wd_mem 483 (by decide +kernel) (by decide +kernel)
theorem wd_484 : (Cond.static ⟨"java/lang/StringLatin1", "inflate", "([BI[BII)V"⟩) ∈ wd_W := wd_mem 484 (by decide +kernel) (by decide +kernel)
theorem wd_485 : (Cond.code ⟨"java/lang/StringLatin1", "inflate", "([BI[BII)V"⟩ prog_12_method_50_code 5 none) ∈ wd_W := wd_mem 485 (by decide +kernel) (by decide +kernel)
theorem wd_486 : (Cond.methodLink "java/lang/StringLatin1" 240 ⟨"java/lang/StringUTF16", "inflate", "([BI[BII)V"⟩) ∈ wd_W := wd_mem 486 (by decide +kernel) (by decide +kernel)
theorem wd_487 : (Cond.static ⟨"java/lang/StringUTF16", "inflate", "([BI[BII)V"⟩) ∈ wd_W := wd_mem 487 (by decide +kernel) (by decide +kernel)
theorem wd_488 : (Cond.code ⟨"java/lang/StringUTF16", "inflate", "([BI[BII)V"⟩ prog_13_method_86_code 6 none) ∈ wd_W := wd_mem 488 (by decide +kernel) (by decide +kernel)
theorem wd_489 : (Cond.methodLink "java/lang/StringUTF16" 111 ⟨"java/lang/StringUTF16", "putChar", "([BII)V"⟩) ∈ wd_W := wd_mem 489 (by decide +kernel) (by decide +kernel)
theorem wd_490 : (Cond.static ⟨"java/lang/StringUTF16", "putChar", "([BII)V"⟩) ∈ wd_W := wd_mem 490 (by decide +kernel) (by decide +kernel)
theorem wd_491 : (Cond.code ⟨"java/lang/StringUTF16", "putChar", "([BII)V"⟩ prog_13_method_4_code 3 none) ∈ wd_W := wd_mem 491 (by decide +kernel) (by decide +kernel)
theorem wd_492 : (Cond.methodLink "java/lang/AbstractStringBuilder" 197 ⟨"java/lang/StringUTF16", "putCharSB", "([BII)V"⟩) ∈ wd_W := wd_mem 492 (by decide +kernel) (by decide +kernel)
theorem wd_493 : (Cond.static ⟨"java/lang/StringUTF16", "putCharSB", "([BII)V"⟩) ∈ wd_W := wd_mem 493 (by decide +kernel) (by decide +kernel)
theorem wd_494 : (Cond.code ⟨"java/lang/StringUTF16", "putCharSB", "([BII)V"⟩ prog_13_method_71_code 3 none) ∈ wd_W := wd_mem 494 (by decide +kernel) (by decide +kernel)
theorem wd_495 : (Cond.methodLink "java/lang/StringUTF16" 67 ⟨"java/lang/StringUTF16", "checkIndex", "(I[B)V"⟩) ∈ wd_W := wd_mem 495 (by decide +kernel) (by decide +kernel)
theorem wd_496 : (Cond.static ⟨"java/lang/StringUTF16", "checkIndex", "(I[B)V"⟩) ∈ wd_W := wd_mem 496 (by decide +kernel) (by decide +kernel)
theorem wd_497 : (Cond.code ⟨"java/lang/StringUTF16", "checkIndex", "(I[B)V"⟩ prog_13_method_91_code 2 none) ∈ wd_W := wd_mem 497 (by decide +kernel) (by decide +kernel)
theorem wd_498 : (Cond.methodLink "java/lang/StringUTF16" 414 ⟨"java/lang/String", "checkIndex", "(II)V"⟩) ∈ wd_W := wd_mem 498 (by decide +kernel) (by decide +kernel)
theorem wd_499 : (Cond.static ⟨"java/lang/String", "checkIndex", "(II)V"⟩) ∈ wd_W := wd_mem 499 (by decide +kernel) (by decide +kernel)
theorem wd_500 : (Cond.code ⟨"java/lang/String", "checkIndex", "(II)V"⟩ prog_10_method_155_code 2 none) ∈ wd_W := wd_mem 500 (by decide +kernel) (by decide +kernel)
theorem wd_501 : (Cond.methodLink "java/lang/String" 1059 ⟨"jdk/internal/util/Preconditions", "checkIndex", "(IILjava/util/function/BiFunction;)I"⟩) ∈ wd_W := wd_mem 501 (by decide +kernel) (by decide +kernel)
theorem wd_502 : (Cond.static ⟨"jdk/internal/util/Preconditions", "checkIndex", "(IILjava/util/function/BiFunction;)I"⟩) ∈ wd_W := wd_mem 502 (by decide +kernel) (by decide +kernel)
theorem wd_503 : (Cond.code ⟨"jdk/internal/util/Preconditions", "checkIndex", "(IILjava/util/function/BiFunction;)I"⟩ prog_17_method_11_code 3 (some FieldType.int)) ∈ wd_W := wd_mem 503 (by decide +kernel) (by decide +kernel)
theorem wd_504 : (Cond.methodLink "GraphWriter" 206 ⟨"java/lang/StringBuilder", "toString", "()Ljava/lang/String;"⟩) ∈ wd_W := wd_mem 504 (by decide +kernel) (by decide +kernel)
theorem wd_505 : (Cond.instanceMethod ⟨"java/lang/StringBuilder", "toString", "()Ljava/lang/String;"⟩) ∈ wd_W := wd_mem 505 (by decide +kernel) (by decide +kernel)
theorem wd_506 : (Cond.selects "java/lang/StringBuilder" ⟨"java/lang/StringBuilder", "toString", "()Ljava/lang/String;"⟩ ⟨"java/lang/StringBuilder", "toString", "()Ljava/lang/String;"⟩) ∈ wd_W := wd_mem 506 (by decide +kernel) (by decide +kernel)
theorem wd_507 : (Cond.code ⟨"java/lang/StringBuilder", "toString", "()Ljava/lang/String;"⟩ prog_11_method_42_code 1 (some (FieldType.object "java/lang/String"))) ∈ wd_W := wd_mem 507 (by decide +kernel) (by decide +kernel)
theorem wd_508 : (Cond.classLink "java/lang/StringBuilder" 18 "java/lang/String") ∈ wd_W := wd_mem 508 (by decide +kernel) (by decide +kernel)
theorem wd_509 : (Cond.methodLink "java/lang/StringBuilder" 137 ⟨"java/lang/String", "<init>", "(Ljava/lang/StringBuilder;)V"⟩) ∈ wd_W := wd_mem 509 (by decide +kernel) (by decide +kernel)
theorem wd_510 : (Cond.instanceMethod ⟨"java/lang/String", "<init>", "(Ljava/lang/StringBuilder;)V"⟩) ∈ wd_W := wd_mem 510 (by decide +kernel) (by decide +kernel)
theorem wd_511 : (Cond.code ⟨"java/lang/String", "<init>", "(Ljava/lang/StringBuilder;)V"⟩ prog_10_method_53_code 2 none) ∈ wd_W := wd_mem 511 (by decide +kernel) (by decide +kernel)
theorem wd_512 : (Cond.methodLink "java/lang/String" 489 ⟨"java/lang/String", "<init>", "(Ljava/lang/AbstractStringBuilder;Ljava/lang/Void;)V"⟩) ∈ wd_W := wd_mem 512 (by decide +kernel) (by decide +kernel)
theorem wd_513 : (Cond.instanceMethod ⟨"java/lang/String", "<init>", "(Ljava/lang/AbstractStringBuilder;Ljava/lang/Void;)V"⟩) ∈ wd_W := wd_mem 513 (by decide +kernel) (by decide +kernel)
theorem wd_514 : (Cond.code ⟨"java/lang/String", "<init>", "(Ljava/lang/AbstractStringBuilder;Ljava/lang/Void;)V"⟩ prog_10_method_150_code 5 none) ∈ wd_W := wd_mem 514 (by decide +kernel) (by decide +kernel)
theorem wd_515 : (Cond.methodLink "java/lang/String" 552 ⟨"java/lang/AbstractStringBuilder", "getValue", "()[B"⟩) ∈ wd_W := wd_mem 515 (by decide +kernel) (by decide +kernel)
theorem wd_516 : (Cond.instanceMethod ⟨"java/lang/AbstractStringBuilder", "getValue", "()[B"⟩) ∈ wd_W := wd_mem 516 (by decide +kernel) (by decide +kernel)
theorem wd_517 : (Cond.sameMethod "java/lang/AbstractStringBuilder" "java/lang/AbstractStringBuilder" "getValue" "()[B") ∈ wd_W := wd_mem 517 (by decide +kernel) (by decide +kernel)
theorem wd_518 : (Cond.selects "java/lang/StringBuilder" ⟨"java/lang/AbstractStringBuilder", "getValue", "()[B"⟩ ⟨"java/lang/AbstractStringBuilder", "getValue", "()[B"⟩) ∈ wd_W := wd_mem 518 (by decide +kernel) (by decide +kernel)
theorem wd_519 : (Cond.code ⟨"java/lang/AbstractStringBuilder", "getValue", "()[B"⟩ prog_7_method_64_code 1 (some (FieldType.array FieldType.byte))) ∈ wd_W := wd_mem 519 (by decide +kernel) (by decide +kernel)
theorem wd_520 : (Cond.methodLink "java/lang/String" 549 ⟨"java/lang/AbstractStringBuilder", "length", "()I"⟩) ∈ wd_W := wd_mem 520 (by decide +kernel) (by decide +kernel)
theorem wd_521 : (Cond.instanceMethod ⟨"java/lang/AbstractStringBuilder", "length", "()I"⟩) ∈ wd_W := wd_mem 521 (by decide +kernel) (by decide +kernel)
theorem wd_522 : (Cond.sameMethod "java/lang/AbstractStringBuilder" "java/lang/AbstractStringBuilder" "length" "()I") ∈ wd_W := wd_mem 522 (by decide +kernel) (by decide +kernel)
theorem wd_523 : (Cond.selects "java/lang/StringBuilder" ⟨"java/lang/AbstractStringBuilder", "length", "()I"⟩ ⟨"java/lang/StringBuilder", "length", "()I"⟩) ∈ wd_W := wd_mem 523 (by decide +kernel) (by decide +kernel)
theorem wd_524 : (Cond.instanceMethod ⟨"java/lang/StringBuilder", "length", "()I"⟩) ∈ wd_W := wd_mem 524 (by decide +kernel) (by decide +kernel)
theorem wd_525 : (Cond.code ⟨"java/lang/StringBuilder", "length", "()I"⟩ prog_11_method_93_code 1 (some FieldType.int)) ∈ wd_W := wd_mem 525 (by decide +kernel) (by decide +kernel)
theorem wd_526 : (Cond.methodLink "java/lang/StringBuilder" 343 ⟨"java/lang/AbstractStringBuilder", "length", "()I"⟩) ∈ wd_W := wd_mem 526 (by decide +kernel) (by decide +kernel)
theorem wd_527 : (Cond.code ⟨"java/lang/AbstractStringBuilder", "length", "()I"⟩ prog_7_method_6_code 1 (some FieldType.int)) ∈ wd_W := wd_mem 527 (by decide +kernel) (by decide +kernel)
theorem wd_528 : (Cond.methodLink "java/lang/String" 1047 ⟨"java/lang/AbstractStringBuilder", "isLatin1", "()Z"⟩) ∈ wd_W := wd_mem 528 (by decide +kernel) (by decide +kernel)
theorem wd_529 : (Cond.methodLink "java/lang/String" 54 ⟨"java/util/Arrays", "copyOfRange", "([BII)[B"⟩) ∈ wd_W := wd_mem 529 (by decide +kernel) (by decide +kernel)
theorem wd_530 : (Cond.methodLink "java/lang/String" 1051 ⟨"java/lang/StringUTF16", "compress", "([BII)[B"⟩) ∈ wd_W := wd_mem 530 (by decide +kernel) (by decide +kernel)
theorem wd_531 : (Cond.methodLink "java/lang/String" 47 ⟨"java/lang/StringUTF16", "coderFromArrayLen", "([BI)B"⟩) ∈ wd_W := wd_mem 531 (by decide +kernel) (by decide +kernel)
theorem wd_532 : (Cond.methodLink "GraphWriterLaw" 35 ⟨"GraphWriter", "array", "(ZI)I"⟩) ∈ wd_W := wd_mem 532 (by decide +kernel) (by decide +kernel)
theorem wd_533 : (Cond.instanceMethod ⟨"GraphWriter", "array", "(ZI)I"⟩) ∈ wd_W := wd_mem 533 (by decide +kernel) (by decide +kernel)
theorem wd_534 : (Cond.selects "GraphWriter" ⟨"GraphWriter", "array", "(ZI)I"⟩ ⟨"GraphWriter", "array", "(ZI)I"⟩) ∈ wd_W := wd_mem 534 (by decide +kernel) (by decide +kernel)
theorem wd_535 : (Cond.code ⟨"GraphWriter", "array", "(ZI)I"⟩ prog_1_method_6_code 4 (some FieldType.int)) ∈ wd_W := wd_mem 535 (by decide +kernel) (by decide +kernel)
theorem wd_536 : (Cond.methodLink "GraphWriter" 96 ⟨"java/util/Arrays", "fill", "([II)V"⟩) ∈ wd_W := wd_mem 536 (by decide +kernel) (by decide +kernel)
theorem wd_537 : (Cond.methodLink "GraphWriterLaw" 40 ⟨"GraphWriter", "constant", "(II)I"⟩) ∈ wd_W := wd_mem 537 (by decide +kernel) (by decide +kernel)
theorem wd_538 : (Cond.instanceMethod ⟨"GraphWriter", "constant", "(II)I"⟩) ∈ wd_W := wd_mem 538 (by decide +kernel) (by decide +kernel)
theorem wd_539 : (Cond.selects "GraphWriter" ⟨"GraphWriter", "constant", "(II)I"⟩ ⟨"GraphWriter", "constant", "(II)I"⟩) ∈ wd_W := wd_mem 539 (by decide +kernel) (by decide +kernel)
theorem wd_540 : (Cond.code ⟨"GraphWriter", "constant", "(II)I"⟩ prog_1_method_7_code 4 (some FieldType.int)) ∈ wd_W := wd_mem 540 (by decide +kernel) (by decide +kernel)
theorem wd_542 : (Cond.methodLink "GraphWriter" 104 ⟨"java/lang/String", "substring", "(II)Ljava/lang/String;"⟩) ∈ wd_W := wd_mem 542 (by decide +kernel) (by decide +kernel)
theorem wd_543 : (Cond.methodLink "GraphWriterLaw" 45 ⟨"GraphWriter", "set", "(IIJ)I"⟩) ∈ wd_W := wd_mem 543 (by decide +kernel) (by decide +kernel)
theorem wd_544 : (Cond.instanceMethod ⟨"GraphWriter", "set", "(IIJ)I"⟩) ∈ wd_W := wd_mem 544 (by decide +kernel) (by decide +kernel)
theorem wd_545 : (Cond.selects "GraphWriter" ⟨"GraphWriter", "set", "(IIJ)I"⟩ ⟨"GraphWriter", "set", "(IIJ)I"⟩) ∈ wd_W := wd_mem 545 (by decide +kernel) (by decide +kernel)
theorem wd_546 : (Cond.code ⟨"GraphWriter", "set", "(IIJ)I"⟩ prog_1_method_8_code 6 (some FieldType.int)) ∈ wd_W := wd_mem 546 (by decide +kernel) (by decide +kernel)
theorem wd_547 : (Cond.methodLink "GraphWriter" 110 ⟨"GraphWriter", "isMade", "(I)Z"⟩) ∈ wd_W := wd_mem 547 (by decide +kernel) (by decide +kernel)
theorem wd_549 : (Cond.instanceMethod ⟨"GraphWriter", "isMade", "(I)Z"⟩) ∈ wd_W := wd_mem 549 (by decide +kernel) (by decide +kernel)
theorem wd_550 : (Cond.code ⟨"GraphWriter", "isMade", "(I)Z"⟩ prog_1_method_19_code 2 (some FieldType.boolean)) ∈ wd_W := wd_mem 550 (by decide +kernel) (by decide +kernel)
theorem wd_551 : (Cond.methodLink "GraphWriter" 116 ⟨"GraphWriter", "mayBeHeld", "(JI)Z"⟩) ∈ wd_W := wd_mem 551 (by decide +kernel) (by decide +kernel)
theorem wd_553 : (Cond.instanceMethod ⟨"GraphWriter", "mayBeHeld", "(JI)Z"⟩) ∈ wd_W := wd_mem 553 (by decide +kernel) (by decide +kernel)
theorem wd_554 : (Cond.code ⟨"GraphWriter", "mayBeHeld", "(JI)Z"⟩ prog_1_method_27_code 4 (some FieldType.boolean)) ∈ wd_W := wd_mem 554 (by decide +kernel) (by decide +kernel)
theorem wd_555 : (Cond.constantLong "GraphWriter" 210 (-1 : Int64)) ∈ wd_W := wd_mem 555 (by decide +kernel) (by decide +kernel)
theorem wd_556 : (Cond.methodLink "GraphWriterLaw" 50 ⟨"GraphWriter", "replace", "(II)I"⟩) ∈ wd_W := wd_mem 556 (by decide +kernel) (by decide +kernel)
theorem wd_557 : (Cond.instanceMethod ⟨"GraphWriter", "replace", "(II)I"⟩) ∈ wd_W := wd_mem 557 (by decide +kernel) (by decide +kernel)
theorem wd_558 : (Cond.selects "GraphWriter" ⟨"GraphWriter", "replace", "(II)I"⟩ ⟨"GraphWriter", "replace", "(II)I"⟩) ∈ wd_W := wd_mem 558 (by decide +kernel) (by decide +kernel)
theorem wd_559 : (Cond.code ⟨"GraphWriter", "replace", "(II)I"⟩ prog_1_method_9_code 3 (some FieldType.int)) ∈ wd_W := wd_mem 559 (by decide +kernel) (by decide +kernel)
theorem wd_560 : (Cond.methodLink "GraphWriter" 124 ⟨"GraphWriter", "isInstance", "(I)Z"⟩) ∈ wd_W := wd_mem 560 (by decide +kernel) (by decide +kernel)
theorem wd_562 : (Cond.instanceMethod ⟨"GraphWriter", "isInstance", "(I)Z"⟩) ∈ wd_W := wd_mem 562 (by decide +kernel) (by decide +kernel)
theorem wd_563 : (Cond.code ⟨"GraphWriter", "isInstance", "(I)Z"⟩ prog_1_method_20_code 2 (some FieldType.boolean)) ∈ wd_W := wd_mem 563 (by decide +kernel) (by decide +kernel)
theorem wd_564 : (Cond.methodLink "GraphWriterLaw" 54 ⟨"GraphWriter", "extra", "(II)I"⟩) ∈ wd_W := wd_mem 564 (by decide +kernel) (by decide +kernel)
theorem wd_565 : (Cond.instanceMethod ⟨"GraphWriter", "extra", "(II)I"⟩) ∈ wd_W := wd_mem 565 (by decide +kernel) (by decide +kernel)
theorem wd_566 : (Cond.selects "GraphWriter" ⟨"GraphWriter", "extra", "(II)I"⟩ ⟨"GraphWriter", "extra", "(II)I"⟩) ∈ wd_W := wd_mem 566 (by decide +kernel) (by decide +kernel)
theorem wd_567 : (Cond.code ⟨"GraphWriter", "extra", "(II)I"⟩ prog_1_method_10_code 3 (some FieldType.int)) ∈ wd_W := wd_mem 567 (by decide +kernel) (by decide +kernel)
theorem wd_568 : (Cond.methodLink "GraphWriterLaw" 58 ⟨"GraphWriter", "data", "(JI)I"⟩) ∈ wd_W := wd_mem 568 (by decide +kernel) (by decide +kernel)
theorem wd_569 : (Cond.instanceMethod ⟨"GraphWriter", "data", "(JI)I"⟩) ∈ wd_W := wd_mem 569 (by decide +kernel) (by decide +kernel)
theorem wd_570 : (Cond.selects "GraphWriter" ⟨"GraphWriter", "data", "(JI)I"⟩ ⟨"GraphWriter", "data", "(JI)I"⟩) ∈ wd_W := wd_mem 570 (by decide +kernel) (by decide +kernel)
theorem wd_571 : (Cond.code ⟨"GraphWriter", "data", "(JI)I"⟩ prog_1_method_11_code 4 (some FieldType.int)) ∈ wd_W := wd_mem 571 (by decide +kernel) (by decide +kernel)
theorem wd_572 : (Cond.methodLink "GraphWriter" 133 ⟨"GraphWriter$Out", "hasRoomToWait", "(I)Z"⟩) ∈ wd_W := wd_mem 572 (by decide +kernel) (by decide +kernel)
theorem wd_573 : (Cond.instanceMethod ⟨"GraphWriter$Out", "hasRoomToWait", "(I)Z"⟩) ∈ wd_W := wd_mem 573 (by decide +kernel) (by decide +kernel)
theorem wd_574 : (Cond.selects "GraphWriter$Out" ⟨"GraphWriter$Out", "hasRoomToWait", "(I)Z"⟩ ⟨"GraphWriter$Out", "hasRoomToWait", "(I)Z"⟩) ∈ wd_W := wd_mem 574 (by decide +kernel) (by decide +kernel)
theorem wd_575 : (Cond.code ⟨"GraphWriter$Out", "hasRoomToWait", "(I)Z"⟩ prog_3_method_15_code 3 (some FieldType.boolean)) ∈ wd_W := wd_mem 575 (by decide +kernel) (by decide +kernel)
theorem wd_576 : (Cond.methodLink "GraphWriter" 136 ⟨"GraphWriter$Out", "letWait", "(JI)V"⟩) ∈ wd_W := wd_mem 576 (by decide +kernel) (by decide +kernel)
theorem wd_577 : (Cond.instanceMethod ⟨"GraphWriter$Out", "letWait", "(JI)V"⟩) ∈ wd_W := wd_mem 577 (by decide +kernel) (by decide +kernel)
theorem wd_578 : (Cond.selects "GraphWriter$Out" ⟨"GraphWriter$Out", "letWait", "(JI)V"⟩ ⟨"GraphWriter$Out", "letWait", "(JI)V"⟩) ∈ wd_W := wd_mem 578 (by decide +kernel) (by decide +kernel)
theorem wd_579 : (Cond.code ⟨"GraphWriter$Out", "letWait", "(JI)V"⟩ prog_3_method_16_code 5 none) ∈ wd_W := wd_mem 579 (by decide +kernel) (by decide +kernel)
theorem wd_580 : (Cond.methodLink "GraphWriter$Out" 105 ⟨"GraphWriter$Out", "flush", "()V"⟩) ∈ wd_W := wd_mem 580 (by decide +kernel) (by decide +kernel)
theorem wd_581 : (Cond.instanceMethod ⟨"GraphWriter$Out", "flush", "()V"⟩) ∈ wd_W := wd_mem 581 (by decide +kernel) (by decide +kernel)
theorem wd_582 : (Cond.selects "GraphWriter$Out" ⟨"GraphWriter$Out", "flush", "()V"⟩ ⟨"GraphWriter$Out", "flush", "()V"⟩) ∈ wd_W := wd_mem 582 (by decide +kernel) (by decide +kernel)
theorem wd_583 : (Cond.code ⟨"GraphWriter$Out", "flush", "()V"⟩ prog_3_method_17_code 2 none) ∈ wd_W := wd_mem 583 (by decide +kernel) (by decide +kernel)
theorem wd_584 : (Cond.constantLong "GraphWriter$Out" 108 (119 : Int64)) ∈ wd_W := wd_mem 584 (by decide +kernel) (by decide +kernel)
theorem wd_585 : (Cond.methodLink "GraphWriter$Out" 64 ⟨"GraphWriter$Out", "put", "(JI)V"⟩) ∈ wd_W := wd_mem 585 (by decide +kernel) (by decide +kernel)
theorem wd_586 : (Cond.methodLink "GraphWriterLaw" 63 ⟨"GraphWriter", "write", "(IZ)I"⟩) ∈ wd_W := wd_mem 586 (by decide +kernel) (by decide +kernel)
theorem wd_587 : (Cond.instanceMethod ⟨"GraphWriter", "write", "(IZ)I"⟩) ∈ wd_W := wd_mem 587 (by decide +kernel) (by decide +kernel)
theorem wd_588 : (Cond.selects "GraphWriter" ⟨"GraphWriter", "write", "(IZ)I"⟩ ⟨"GraphWriter", "write", "(IZ)I"⟩) ∈ wd_W := wd_mem 588 (by decide +kernel) (by decide +kernel)
theorem wd_589 : (Cond.code ⟨"GraphWriter", "write", "(IZ)I"⟩ prog_1_method_12_code 3 (some FieldType.int)) ∈ wd_W := wd_mem 589 (by decide +kernel) (by decide +kernel)
theorem wd_590 : (Cond.methodLink "GraphWriter" 142 ⟨"GraphWriter$Out", "begin", "()V"⟩) ∈ wd_W := wd_mem 590 (by decide +kernel) (by decide +kernel)
theorem wd_591 : (Cond.instanceMethod ⟨"GraphWriter$Out", "begin", "()V"⟩) ∈ wd_W := wd_mem 591 (by decide +kernel) (by decide +kernel)
theorem wd_592 : (Cond.selects "GraphWriter$Out" ⟨"GraphWriter$Out", "begin", "()V"⟩ ⟨"GraphWriter$Out", "begin", "()V"⟩) ∈ wd_W := wd_mem 592 (by decide +kernel) (by decide +kernel)
theorem wd_593 : (Cond.code ⟨"GraphWriter$Out", "begin", "()V"⟩ prog_3_method_2_code 1 none) ∈ wd_W := wd_mem 593 (by decide +kernel) (by decide +kernel)
theorem wd_594 : (Cond.methodLink "GraphWriter$Out" 29 ⟨"java/lang/System", "arraycopy", "(Ljava/lang/Object;ILjava/lang/Object;II)V"⟩) ∈ wd_W := wd_mem 594 (by decide +kernel) (by decide +kernel)
theorem wd_595 : (Cond.methodLink "GraphWriter" 145 ⟨"GraphWriter$Out", "flush", "()V"⟩) ∈ wd_W := wd_mem 595 (by decide +kernel) (by decide +kernel)
theorem wd_596 : (Cond.methodLink "GraphWriter" 148 ⟨"GraphWriter", "writeObject", "(IZI)V"⟩) ∈ wd_W := wd_mem 596 (by decide +kernel) (by decide +kernel)
theorem wd_598 : (Cond.instanceMethod ⟨"GraphWriter", "writeObject", "(IZI)V"⟩) ∈ wd_W := wd_mem 598 (by decide +kernel) (by decide +kernel)
theorem wd_599 : (Cond.code ⟨"GraphWriter", "writeObject", "(IZI)V"⟩ prog_1_method_28_code 5 none) ∈ wd_W := wd_mem 599 (by decide +kernel) (by decide +kernel)
theorem wd_600 : (Cond.constantLong "GraphWriter" 215 (112 : Int64)) ∈ wd_W := wd_mem 600 (by decide +kernel) (by decide +kernel)
theorem wd_601 : (Cond.methodLink "GraphWriter" 217 ⟨"GraphWriter", "replaced", "(I)I"⟩) ∈ wd_W := wd_mem 601 (by decide +kernel) (by decide +kernel)
theorem wd_603 : (Cond.instanceMethod ⟨"GraphWriter", "replaced", "(I)I"⟩) ∈ wd_W := wd_mem 603 (by decide +kernel) (by decide +kernel)
theorem wd_604 : (Cond.code ⟨"GraphWriter", "replaced", "(I)I"⟩ prog_1_method_29_code 6 (some FieldType.int)) ∈ wd_W := wd_mem 604 (by decide +kernel) (by decide +kernel)
theorem wd_605 : (Cond.methodLink "GraphWriter" 221 ⟨"GraphWriter$Out", "putReference", "(I)Z"⟩) ∈ wd_W := wd_mem 605 (by decide +kernel) (by decide +kernel)
theorem wd_606 : (Cond.instanceMethod ⟨"GraphWriter$Out", "putReference", "(I)Z"⟩) ∈ wd_W := wd_mem 606 (by decide +kernel) (by decide +kernel)
theorem wd_607 : (Cond.selects "GraphWriter$Out" ⟨"GraphWriter$Out", "putReference", "(I)Z"⟩ ⟨"GraphWriter$Out", "putReference", "(I)Z"⟩) ∈ wd_W := wd_mem 607 (by decide +kernel) (by decide +kernel)
theorem wd_608 : (Cond.code ⟨"GraphWriter$Out", "putReference", "(I)Z"⟩ prog_3_method_10_code 2 (some FieldType.boolean)) ∈ wd_W := wd_mem 608 (by decide +kernel) (by decide +kernel)
theorem wd_609 : (Cond.constantLong "GraphWriter$Out" 78 (113 : Int64)) ∈ wd_W := wd_mem 609 (by decide +kernel) (by decide +kernel)
theorem wd_610 : (Cond.constant "GraphWriter$Out" 80 (8257536 : Int32)) ∈ wd_W := wd_mem 610 (by decide +kernel) (by decide +kernel)
theorem wd_611 : (Cond.methodLink "GraphWriter" 224 ⟨"GraphWriter$Out", "putText", "(ILjava/lang/String;)V"⟩) ∈ wd_W := wd_mem 611 (by decide +kernel) (by decide +kernel)
theorem wd_612 : (Cond.instanceMethod ⟨"GraphWriter$Out", "putText", "(ILjava/lang/String;)V"⟩) ∈ wd_W := wd_mem 612 (by decide +kernel) (by decide +kernel)
theorem wd_613 : (Cond.selects "GraphWriter$Out" ⟨"GraphWriter$Out", "putText", "(ILjava/lang/String;)V"⟩ ⟨"GraphWriter$Out", "putText", "(ILjava/lang/String;)V"⟩) ∈ wd_W := wd_mem 613 (by decide +kernel) (by decide +kernel)
theorem wd_614 : (Cond.code ⟨"GraphWriter$Out", "putText", "(ILjava/lang/String;)V"⟩ prog_3_method_11_code 3 none) ∈ wd_W := wd_mem 614 (by decide +kernel) (by decide +kernel)
theorem wd_615 : (Cond.constantLong "GraphWriter$Out" 81 (116 : Int64)) ∈ wd_W := wd_mem 615 (by decide +kernel) (by decide +kernel)
theorem wd_616 : (Cond.methodLink "GraphWriter$Out" 83 ⟨"GraphWriter$Out", "giveHandle", "(I)V"⟩) ∈ wd_W := wd_mem 616 (by decide +kernel) (by decide +kernel)
theorem wd_617 : (Cond.instanceMethod ⟨"GraphWriter$Out", "giveHandle", "(I)V"⟩) ∈ wd_W := wd_mem 617 (by decide +kernel) (by decide +kernel)
theorem wd_618 : (Cond.selects "GraphWriter$Out" ⟨"GraphWriter$Out", "giveHandle", "(I)V"⟩ ⟨"GraphWriter$Out", "giveHandle", "(I)V"⟩) ∈ wd_W := wd_mem 618 (by decide +kernel) (by decide +kernel)
theorem wd_619 : (Cond.code ⟨"GraphWriter$Out", "giveHandle", "(I)V"⟩ prog_3_method_8_code 2 none) ∈ wd_W := wd_mem 619 (by decide +kernel) (by decide +kernel)
theorem wd_620 : (Cond.methodLink "GraphWriter$Out" 87 ⟨"GraphWriter$Out", "putUtf", "(Ljava/lang/String;)V"⟩) ∈ wd_W := wd_mem 620 (by decide +kernel) (by decide +kernel)
theorem wd_621 : (Cond.instanceMethod ⟨"GraphWriter$Out", "putUtf", "(Ljava/lang/String;)V"⟩) ∈ wd_W := wd_mem 621 (by decide +kernel) (by decide +kernel)
theorem wd_622 : (Cond.selects "GraphWriter$Out" ⟨"GraphWriter$Out", "putUtf", "(Ljava/lang/String;)V"⟩ ⟨"GraphWriter$Out", "putUtf", "(Ljava/lang/String;)V"⟩) ∈ wd_W := wd_mem 622 (by decide +kernel) (by decide +kernel)
theorem wd_623 : (Cond.code ⟨"GraphWriter$Out", "putUtf", "(Ljava/lang/String;)V"⟩ prog_3_method_6_code 3 none) ∈ wd_W := wd_mem 623 (by decide +kernel) (by decide +kernel)
theorem wd_624 : (Cond.methodLink "GraphWriter$Out" 59 ⟨"java/lang/String", "length", "()I"⟩) ∈ wd_W := wd_mem 624 (by decide +kernel) (by decide +kernel)
theorem wd_625 : (Cond.methodLink "GraphWriter$Out" 68 ⟨"java/lang/String", "charAt", "(I)C"⟩) ∈ wd_W := wd_mem 625 (by decide +kernel) (by decide +kernel)
theorem wd_626 : (Cond.instanceMethod ⟨"java/lang/String", "charAt", "(I)C"⟩) ∈ wd_W := wd_mem 626 (by decide +kernel) (by decide +kernel)
theorem wd_627 : (Cond.selects "java/lang/String" ⟨"java/lang/String", "charAt", "(I)C"⟩ ⟨"java/lang/String", "charAt", "(I)C"⟩) ∈ wd_W := wd_mem 627 (by decide +kernel) (by decide +kernel)
theorem wd_628 : (Cond.code ⟨"java/lang/String", "charAt", "(I)C"⟩ prog_10_method_56_code 2 (some FieldType.char)) ∈ wd_W := wd_mem 628 (by decide +kernel) (by decide +kernel)
theorem wd_629 : (Cond.methodLink "java/lang/String" 495 ⟨"java/lang/StringLatin1", "charAt", "([BI)C"⟩) ∈ wd_W := wd_mem 629 (by decide +kernel) (by decide +kernel)
theorem wd_630 : (Cond.static ⟨"java/lang/StringLatin1", "charAt", "([BI)C"⟩) ∈ wd_W := wd_mem 630 (by decide +kernel) (by decide +kernel)
theorem wd_631 : (Cond.code ⟨"java/lang/StringLatin1", "charAt", "([BI)C"⟩ prog_12_method_2_code 2 (some FieldType.char)) ∈ wd_W := wd_mem 631 (by decide +kernel) (by decide +kernel)
theorem wd_632 : (Cond.methodLink "java/lang/StringLatin1" 9 ⟨"java/lang/String", "checkIndex", "(II)V"⟩) ∈ wd_W := wd_mem 632 (by decide +kernel) (by decide +kernel)
theorem wd_633 : (Cond.methodLink "java/lang/String" 498 ⟨"java/lang/StringUTF16", "charAt", "([BI)C"⟩) ∈ wd_W := wd_mem 633 (by decide +kernel) (by decide +kernel)
theorem wd_634 : (Cond.static ⟨"java/lang/StringUTF16", "charAt", "([BI)C"⟩) ∈ wd_W := wd_mem 634 (by decide +kernel) (by decide +kernel)
theorem wd_635 : (Cond.code ⟨"java/lang/StringUTF16", "charAt", "([BI)C"⟩ prog_13_method_83_code 2 (some FieldType.char)) ∈ wd_W := wd_mem 635 (by decide +kernel) (by decide +kernel)
theorem wd_636 : (Cond.methodLink "GraphWriter" 228 ⟨"GraphWriter", "writeInts", "(I)V"⟩) ∈ wd_W := wd_mem 636 (by decide +kernel) (by decide +kernel)
theorem wd_638 : (Cond.instanceMethod ⟨"GraphWriter", "writeInts", "(I)V"⟩) ∈ wd_W := wd_mem 638 (by decide +kernel) (by decide +kernel)
theorem wd_639 : (Cond.code ⟨"GraphWriter", "writeInts", "(I)V"⟩ prog_1_method_30_code 4 none) ∈ wd_W := wd_mem 639 (by decide +kernel) (by decide +kernel)
theorem wd_640 : (Cond.constantLong "GraphWriter" 242 (117 : Int64)) ∈ wd_W := wd_mem 640 (by decide +kernel) (by decide +kernel)
theorem wd_642 : (Cond.constantLong "GraphWriter" 245 (5600894804908749477 : Int64)) ∈ wd_W := wd_mem 642 (by decide +kernel) (by decide +kernel)
theorem wd_643 : (Cond.methodLink "GraphWriter" 247 ⟨"GraphWriter$Out", "openDescriptor", "(ILjava/lang/String;JII)Z"⟩) ∈ wd_W := wd_mem 643 (by decide +kernel) (by decide +kernel)
theorem wd_644 : (Cond.instanceMethod ⟨"GraphWriter$Out", "openDescriptor", "(ILjava/lang/String;JII)Z"⟩) ∈ wd_W := wd_mem 644 (by decide +kernel) (by decide +kernel)
theorem wd_645 : (Cond.selects "GraphWriter$Out" ⟨"GraphWriter$Out", "openDescriptor", "(ILjava/lang/String;JII)Z"⟩ ⟨"GraphWriter$Out", "openDescriptor", "(ILjava/lang/String;JII)Z"⟩) ∈ wd_W := wd_mem 645 (by decide +kernel) (by decide +kernel)
theorem wd_646 : (Cond.code ⟨"GraphWriter$Out", "openDescriptor", "(ILjava/lang/String;JII)Z"⟩ prog_3_method_12_code 7 (some FieldType.boolean)) ∈ wd_W := wd_mem 646 (by decide +kernel) (by decide +kernel)
theorem wd_647 : (Cond.methodLink "GraphWriter$Out" 91 ⟨"GraphWriter$Out", "putReference", "(I)Z"⟩) ∈ wd_W := wd_mem 647 (by decide +kernel) (by decide +kernel)
theorem wd_648 : (Cond.constantLong "GraphWriter$Out" 95 (114 : Int64)) ∈ wd_W := wd_mem 648 (by decide +kernel) (by decide +kernel)
theorem wd_649 : (Cond.methodLink "GraphWriter" 251 ⟨"GraphWriter$Out", "closeTopDescriptor", "()V"⟩) ∈ wd_W := wd_mem 649 (by decide +kernel) (by decide +kernel)
theorem wd_650 : (Cond.instanceMethod ⟨"GraphWriter$Out", "closeTopDescriptor", "()V"⟩) ∈ wd_W := wd_mem 650 (by decide +kernel) (by decide +kernel)
theorem wd_651 : (Cond.selects "GraphWriter$Out" ⟨"GraphWriter$Out", "closeTopDescriptor", "()V"⟩ ⟨"GraphWriter$Out", "closeTopDescriptor", "()V"⟩) ∈ wd_W := wd_mem 651 (by decide +kernel) (by decide +kernel)
theorem wd_652 : (Cond.code ⟨"GraphWriter$Out", "closeTopDescriptor", "()V"⟩ prog_3_method_13_code 1 none) ∈ wd_W := wd_mem 652 (by decide +kernel) (by decide +kernel)
theorem wd_653 : (Cond.constantLong "GraphWriter$Out" 97 (120 : Int64)) ∈ wd_W := wd_mem 653 (by decide +kernel) (by decide +kernel)
theorem wd_654 : (Cond.constantLong "GraphWriter$Out" 99 (112 : Int64)) ∈ wd_W := wd_mem 654 (by decide +kernel) (by decide +kernel)
theorem wd_655 : (Cond.methodLink "GraphWriter" 254 ⟨"GraphWriter$Out", "giveHandle", "(I)V"⟩) ∈ wd_W := wd_mem 655 (by decide +kernel) (by decide +kernel)
theorem wd_656 : (Cond.methodLink "GraphWriter" 232 ⟨"GraphWriter", "writeRefs", "(II)V"⟩) ∈ wd_W := wd_mem 656 (by decide +kernel) (by decide +kernel)
theorem wd_658 : (Cond.instanceMethod ⟨"GraphWriter", "writeRefs", "(II)V"⟩) ∈ wd_W := wd_mem 658 (by decide +kernel) (by decide +kernel)
theorem wd_659 : (Cond.code ⟨"GraphWriter", "writeRefs", "(II)V"⟩ prog_1_method_31_code 5 none) ∈ wd_W := wd_mem 659 (by decide +kernel) (by decide +kernel)
theorem wd_661 : (Cond.constantLong "GraphWriter" 259 (-8012369246846506644 : Int64)) ∈ wd_W := wd_mem 661 (by decide +kernel) (by decide +kernel)
theorem wd_662 : (Cond.methodLink "GraphWriter" 236 ⟨"GraphWriter", "writeConstant", "(I)V"⟩) ∈ wd_W := wd_mem 662 (by decide +kernel) (by decide +kernel)
theorem wd_664 : (Cond.instanceMethod ⟨"GraphWriter", "writeConstant", "(I)V"⟩) ∈ wd_W := wd_mem 664 (by decide +kernel) (by decide +kernel)
theorem wd_665 : (Cond.code ⟨"GraphWriter", "writeConstant", "(I)V"⟩ prog_1_method_32_code 3 none) ∈ wd_W := wd_mem 665 (by decide +kernel) (by decide +kernel)
theorem wd_666 : (Cond.constantLong "GraphWriter" 261 (126 : Int64)) ∈ wd_W := wd_mem 666 (by decide +kernel) (by decide +kernel)
theorem wd_667 : (Cond.methodLink "GraphWriter" 263 ⟨"GraphWriter", "writeDescriptor", "(LGraphWriter$Defined;)V"⟩) ∈ wd_W := wd_mem 667 (by decide +kernel) (by decide +kernel)
theorem wd_669 : (Cond.instanceMethod ⟨"GraphWriter", "writeDescriptor", "(LGraphWriter$Defined;)V"⟩) ∈ wd_W := wd_mem 669 (by decide +kernel) (by decide +kernel)
theorem wd_670 : (Cond.code ⟨"GraphWriter", "writeDescriptor", "(LGraphWriter$Defined;)V"⟩ prog_1_method_35_code 6 none) ∈ wd_W := wd_mem 670 (by decide +kernel) (by decide +kernel)
theorem wd_671 : (Cond.methodLink "GraphWriter" 302 ⟨"GraphWriter$Defined", "flags", "()I"⟩) ∈ wd_W := wd_mem 671 (by decide +kernel) (by decide +kernel)
theorem wd_672 : (Cond.instanceMethod ⟨"GraphWriter$Defined", "flags", "()I"⟩) ∈ wd_W := wd_mem 672 (by decide +kernel) (by decide +kernel)
theorem wd_673 : (Cond.selects "GraphWriter$Defined" ⟨"GraphWriter$Defined", "flags", "()I"⟩ ⟨"GraphWriter$Defined", "flags", "()I"⟩) ∈ wd_W := wd_mem 673 (by decide +kernel) (by decide +kernel)
theorem wd_674 : (Cond.code ⟨"GraphWriter$Defined", "flags", "()I"⟩ prog_2_method_2_code 1 (some FieldType.int)) ∈ wd_W := wd_mem 674 (by decide +kernel) (by decide +kernel)
theorem wd_676 : (Cond.methodLink "GraphWriter" 307 ⟨"java/lang/String", "charAt", "(I)C"⟩) ∈ wd_W := wd_mem 676 (by decide +kernel) (by decide +kernel)
theorem wd_677 : (Cond.methodLink "GraphWriter" 314 ⟨"GraphWriter$Out", "putSign", "(C)V"⟩) ∈ wd_W := wd_mem 677 (by decide +kernel) (by decide +kernel)
theorem wd_678 : (Cond.instanceMethod ⟨"GraphWriter$Out", "putSign", "(C)V"⟩) ∈ wd_W := wd_mem 678 (by decide +kernel) (by decide +kernel)
theorem wd_679 : (Cond.selects "GraphWriter$Out" ⟨"GraphWriter$Out", "putSign", "(C)V"⟩ ⟨"GraphWriter$Out", "putSign", "(C)V"⟩) ∈ wd_W := wd_mem 679 (by decide +kernel) (by decide +kernel)
theorem wd_680 : (Cond.code ⟨"GraphWriter$Out", "putSign", "(C)V"⟩ prog_3_method_7_code 2 none) ∈ wd_W := wd_mem 680 (by decide +kernel) (by decide +kernel)
theorem wd_682 : (Cond.constantLong "GraphWriter" 296 (120 : Int64)) ∈ wd_W := wd_mem 682 (by decide +kernel) (by decide +kernel)
theorem wd_684 : (Cond.methodLink "GraphWriter" 239 ⟨"GraphWriter", "writeInstance", "(II)V"⟩) ∈ wd_W := wd_mem 684 (by decide +kernel) (by decide +kernel)
theorem wd_686 : (Cond.instanceMethod ⟨"GraphWriter", "writeInstance", "(II)V"⟩) ∈ wd_W := wd_mem 686 (by decide +kernel) (by decide +kernel)
theorem wd_687 : (Cond.code ⟨"GraphWriter", "writeInstance", "(II)V"⟩ prog_1_method_33_code 8 none) ∈ wd_W := wd_mem 687 (by decide +kernel) (by decide +kernel)
theorem wd_688 : (Cond.methodLink "GraphWriter" 270 ⟨"GraphWriter$Out", "abort", "(Ljava/lang/String;)V"⟩) ∈ wd_W := wd_mem 688 (by decide +kernel) (by decide +kernel)
theorem wd_689 : (Cond.instanceMethod ⟨"GraphWriter$Out", "abort", "(Ljava/lang/String;)V"⟩) ∈ wd_W := wd_mem 689 (by decide +kernel) (by decide +kernel)
theorem wd_690 : (Cond.selects "GraphWriter$Out" ⟨"GraphWriter$Out", "abort", "(Ljava/lang/String;)V"⟩ ⟨"GraphWriter$Out", "abort", "(Ljava/lang/String;)V"⟩) ∈ wd_W := wd_mem 690 (by decide +kernel) (by decide +kernel)
theorem wd_691 : (Cond.code ⟨"GraphWriter$Out", "abort", "(Ljava/lang/String;)V"⟩ prog_3_method_14_code 2 none) ∈ wd_W := wd_mem 691 (by decide +kernel) (by decide +kernel)
theorem wd_692 : (Cond.constantLong "GraphWriter$Out" 101 (123 : Int64)) ∈ wd_W := wd_mem 692 (by decide +kernel) (by decide +kernel)
theorem wd_693 : (Cond.constantLong "GraphWriter$Out" 103 (121 : Int64)) ∈ wd_W := wd_mem 693 (by decide +kernel) (by decide +kernel)
theorem wd_694 : (Cond.constantLong "GraphWriter" 274 (115 : Int64)) ∈ wd_W := wd_mem 694 (by decide +kernel) (by decide +kernel)
theorem wd_695 : (Cond.methodLink "GraphWriter" 276 ⟨"GraphWriter", "writeParts", "(LGraphWriter$Thing;LGraphWriter$Defined;II)V"⟩) ∈ wd_W := wd_mem 695 (by decide +kernel) (by decide +kernel)
theorem wd_697 : (Cond.instanceMethod ⟨"GraphWriter", "writeParts", "(LGraphWriter$Thing;LGraphWriter$Defined;II)V"⟩) ∈ wd_W := wd_mem 697 (by decide +kernel) (by decide +kernel)
theorem wd_698 : (Cond.code ⟨"GraphWriter", "writeParts", "(LGraphWriter$Thing;LGraphWriter$Defined;II)V"⟩ prog_1_method_34_code 10 none) ∈ wd_W := wd_mem 698 (by decide +kernel) (by decide +kernel)
theorem wd_699 : (Cond.fieldLink "GraphWriter" 286 "GraphWriter" "TYPE_WIDTHS" "[I") ∈ wd_W := wd_mem 699 (by decide +kernel) (by decide +kernel)
theorem wd_701 : (Cond.constantLong "GraphWriter" 289 (119 : Int64)) ∈ wd_W := wd_mem 701 (by decide +kernel) (by decide +kernel)
theorem wd_702 : (Cond.constantLong "GraphWriter" 291 (4 : Int64)) ∈ wd_W := wd_mem 702 (by decide +kernel) (by decide +kernel)
theorem wd_703 : (Cond.methodLink "GraphWriter" 152 ⟨"GraphWriter$Out", "settle", "()I"⟩) ∈ wd_W := wd_mem 703 (by decide +kernel) (by decide +kernel)
theorem wd_704 : (Cond.instanceMethod ⟨"GraphWriter$Out", "settle", "()I"⟩) ∈ wd_W := wd_mem 704 (by decide +kernel) (by decide +kernel)
theorem wd_705 : (Cond.selects "GraphWriter$Out" ⟨"GraphWriter$Out", "settle", "()I"⟩ ⟨"GraphWriter$Out", "settle", "()I"⟩) ∈ wd_W := wd_mem 705 (by decide +kernel) (by decide +kernel)
theorem wd_706 : (Cond.code ⟨"GraphWriter$Out", "settle", "()I"⟩ prog_3_method_3_code 2 (some FieldType.int)) ∈ wd_W := wd_mem 706 (by decide +kernel) (by decide +kernel)
theorem wd_707 : (Cond.methodLink "GraphWriter$Out" 53 ⟨"GraphWriter$Out", "goBack", "()V"⟩) ∈ wd_W := wd_mem 707 (by decide +kernel) (by decide +kernel)
theorem wd_709 : (Cond.instanceMethod ⟨"GraphWriter$Out", "goBack", "()V"⟩) ∈ wd_W := wd_mem 709 (by decide +kernel) (by decide +kernel)
theorem wd_710 : (Cond.code ⟨"GraphWriter$Out", "goBack", "()V"⟩ prog_3_method_4_code 1 none) ∈ wd_W := wd_mem 710 (by decide +kernel) (by decide +kernel)
theorem wd_711 : (Cond.methodLink "GraphWriter$Out" 56 ⟨"GraphWriter$Out", "forgetHandles", "()V"⟩) ∈ wd_W := wd_mem 711 (by decide +kernel) (by decide +kernel)
theorem wd_712 : (Cond.methodLink "GraphWriterLaw" 68 ⟨"GraphWriter", "reset", "()I"⟩) ∈ wd_W := wd_mem 712 (by decide +kernel) (by decide +kernel)
theorem wd_713 : (Cond.instanceMethod ⟨"GraphWriter", "reset", "()I"⟩) ∈ wd_W := wd_mem 713 (by decide +kernel) (by decide +kernel)
theorem wd_714 : (Cond.selects "GraphWriter" ⟨"GraphWriter", "reset", "()I"⟩ ⟨"GraphWriter", "reset", "()I"⟩) ∈ wd_W := wd_mem 714 (by decide +kernel) (by decide +kernel)
theorem wd_715 : (Cond.code ⟨"GraphWriter", "reset", "()I"⟩ prog_1_method_13_code 1 (some FieldType.int)) ∈ wd_W := wd_mem 715 (by decide +kernel) (by decide +kernel)
theorem wd_716 : (Cond.constantLong "GraphWriter" 156 (121 : Int64)) ∈ wd_W := wd_mem 716 (by decide +kernel) (by decide +kernel)
theorem wd_717 : (Cond.methodLink "GraphWriterLaw" 73 ⟨"GraphWriter", "byteAt", "(I)I"⟩) ∈ wd_W := wd_mem 717 (by decide +kernel) (by decide +kernel)
theorem wd_718 : (Cond.instanceMethod ⟨"GraphWriter", "byteAt", "(I)I"⟩) ∈ wd_W := wd_mem 718 (by decide +kernel) (by decide +kernel)
theorem wd_719 : (Cond.selects "GraphWriter" ⟨"GraphWriter", "byteAt", "(I)I"⟩ ⟨"GraphWriter", "byteAt", "(I)I"⟩) ∈ wd_W := wd_mem 719 (by decide +kernel) (by decide +kernel)
theorem wd_720 : (Cond.code ⟨"GraphWriter", "byteAt", "(I)I"⟩ prog_1_method_14_code 2 (some FieldType.int)) ∈ wd_W := wd_mem 720 (by decide +kernel) (by decide +kernel)
theorem wd_721 : (Cond.methodLink "GraphWriterLaw" 77 ⟨"GraphWriter", "handle", "(I)I"⟩) ∈ wd_W := wd_mem 721 (by decide +kernel) (by decide +kernel)
theorem wd_722 : (Cond.instanceMethod ⟨"GraphWriter", "handle", "(I)I"⟩) ∈ wd_W := wd_mem 722 (by decide +kernel) (by decide +kernel)
theorem wd_723 : (Cond.selects "GraphWriter" ⟨"GraphWriter", "handle", "(I)I"⟩ ⟨"GraphWriter", "handle", "(I)I"⟩) ∈ wd_W := wd_mem 723 (by decide +kernel) (by decide +kernel)
theorem wd_724 : (Cond.code ⟨"GraphWriter", "handle", "(I)I"⟩ prog_1_method_15_code 2 (some FieldType.int)) ∈ wd_W := wd_mem 724 (by decide +kernel) (by decide +kernel)
theorem wd_725 : (Cond.methodLink "GraphWriterLaw" 81 ⟨"GraphWriter", "count", "(I)I"⟩) ∈ wd_W := wd_mem 725 (by decide +kernel) (by decide +kernel)
theorem wd_726 : (Cond.instanceMethod ⟨"GraphWriter", "count", "(I)I"⟩) ∈ wd_W := wd_mem 726 (by decide +kernel) (by decide +kernel)
theorem wd_727 : (Cond.selects "GraphWriter" ⟨"GraphWriter", "count", "(I)I"⟩ ⟨"GraphWriter", "count", "(I)I"⟩) ∈ wd_W := wd_mem 727 (by decide +kernel) (by decide +kernel)
theorem wd_728 : (Cond.code ⟨"GraphWriter", "count", "(I)I"⟩ prog_1_method_16_code 2 (some FieldType.int)) ∈ wd_W := wd_mem 728 (by decide +kernel) (by decide +kernel)
theorem wd_729 : (Cond.methodLink "GraphWriter" 171 ⟨"GraphWriter", "definedClasses", "()I"⟩) ∈ wd_W := wd_mem 729 (by decide +kernel) (by decide +kernel)
theorem wd_731 : (Cond.instanceMethod ⟨"GraphWriter", "definedClasses", "()I"⟩) ∈ wd_W := wd_mem 731 (by decide +kernel) (by decide +kernel)
theorem wd_732 : (Cond.code ⟨"GraphWriter", "definedClasses", "()I"⟩ prog_1_method_21_code 3 (some FieldType.int)) ∈ wd_W := wd_mem 732 (by decide +kernel) (by decide +kernel)
theorem wd_733 : (Cond.methodLink "GraphWriterLaw" 85 ⟨"GraphWriter", "object", "(II)I"⟩) ∈ wd_W := wd_mem 733 (by decide +kernel) (by decide +kernel)
theorem wd_734 : (Cond.instanceMethod ⟨"GraphWriter", "object", "(II)I"⟩) ∈ wd_W := wd_mem 734 (by decide +kernel) (by decide +kernel)
theorem wd_735 : (Cond.selects "GraphWriter" ⟨"GraphWriter", "object", "(II)I"⟩ ⟨"GraphWriter", "object", "(II)I"⟩) ∈ wd_W := wd_mem 735 (by decide +kernel) (by decide +kernel)
theorem wd_736 : (Cond.code ⟨"GraphWriter", "object", "(II)I"⟩ prog_1_method_17_code 4 (some FieldType.int)) ∈ wd_W := wd_mem 736 (by decide +kernel) (by decide +kernel)
theorem wd_737 : (Cond.methodLink "GraphWriter" 184 ⟨"java/lang/String", "length", "()I"⟩) ∈ wd_W := wd_mem 737 (by decide +kernel) (by decide +kernel)
theorem wd_738 : (Cond.classLink "GraphWriterLaw" 10 "GraphWriterModel") ∈ wd_W := wd_mem 738 (by decide +kernel) (by decide +kernel)
theorem wd_739 : (Cond.instantiable "GraphWriterModel" 31) ∈ wd_W := wd_mem 739 (by decide +kernel) (by decide +kernel)
theorem wd_740 : (Cond.methodLink "GraphWriterLaw" 12 ⟨"GraphWriterModel", "<init>", "()V"⟩) ∈ wd_W := wd_mem 740 (by decide +kernel) (by decide +kernel)
theorem wd_741 : (Cond.instanceMethod ⟨"GraphWriterModel", "<init>", "()V"⟩) ∈ wd_W := wd_mem 741 (by decide +kernel) (by decide +kernel)
theorem wd_742 : (Cond.code ⟨"GraphWriterModel", "<init>", "()V"⟩ prog_6_method_1_code 1 none) ∈ wd_W := wd_mem 742 (by decide +kernel) (by decide +kernel)
theorem wd_743 : (Cond.methodLink "GraphWriterModel" 1 ⟨"java/lang/Object", "<init>", "()V"⟩) ∈ wd_W := wd_mem 743 (by decide +kernel) (by decide +kernel)
theorem wd_744 : (Cond.constantLong "GraphWriterModel" 81 (44269 : Int64)) ∈ wd_W := wd_mem 744 (by decide +kernel) (by decide +kernel)
theorem wd_745 : (Cond.methodLink "GraphWriterModel" 83 ⟨"GraphWriterModel", "append", "(JI)V"⟩) ∈ wd_W := wd_mem 745 (by decide +kernel) (by decide +kernel)
theorem wd_747 : (Cond.instanceMethod ⟨"GraphWriterModel", "append", "(JI)V"⟩) ∈ wd_W := wd_mem 747 (by decide +kernel) (by decide +kernel)
theorem wd_748 : (Cond.code ⟨"GraphWriterModel", "append", "(JI)V"⟩ prog_6_method_4_code 5 none) ∈ wd_W := wd_mem 748 (by decide +kernel) (by decide +kernel)
theorem wd_749 : (Cond.constantLong "GraphWriterModel" 87 (5 : Int64)) ∈ wd_W := wd_mem 749 (by decide +kernel) (by decide +kernel)
theorem wd_750 : (Cond.methodLink "GraphWriterModel" 89 ⟨"GraphWriterModel", "noHandles", "()V"⟩) ∈ wd_W := wd_mem 750 (by decide +kernel) (by decide +kernel)
theorem wd_752 : (Cond.instanceMethod ⟨"GraphWriterModel", "noHandles", "()V"⟩) ∈ wd_W := wd_mem 752 (by decide +kernel) (by decide +kernel)
theorem wd_753 : (Cond.code ⟨"GraphWriterModel", "noHandles", "()V"⟩ prog_6_method_5_code 2 none) ∈ wd_W := wd_mem 753 (by decide +kernel) (by decide +kernel)
theorem wd_754 : (Cond.fieldLink "GraphWriterModel" 7 "GraphWriterModel" "defined" "[Z") ∈ wd_W := wd_mem 754 (by decide +kernel) (by decide +kernel)
theorem wd_755 : (Cond.fieldLink "GraphWriterModel" 13 "GraphWriterModel" "kind" "[I") ∈ wd_W := wd_mem 755 (by decide +kernel) (by decide +kernel)
theorem wd_756 : (Cond.fieldLink "GraphWriterModel" 17 "GraphWriterModel" "above" "[I") ∈ wd_W := wd_mem 756 (by decide +kernel) (by decide +kernel)
theorem wd_757 : (Cond.fieldLink "GraphWriterModel" 20 "GraphWriterModel" "id" "[J") ∈ wd_W := wd_mem 757 (by decide +kernel) (by decide +kernel)
theorem wd_758 : (Cond.fieldLink "GraphWriterModel" 24 "GraphWriterModel" "fields" "[I") ∈ wd_W := wd_mem 758 (by decide +kernel) (by decide +kernel)
theorem wd_759 : (Cond.fieldLink "GraphWriterModel" 27 "GraphWriterModel" "fName" "[I") ∈ wd_W := wd_mem 759 (by decide +kernel) (by decide +kernel)
theorem wd_760 : (Cond.fieldLink "GraphWriterModel" 30 "GraphWriterModel" "fType" "[I") ∈ wd_W := wd_mem 760 (by decide +kernel) (by decide +kernel)
theorem wd_761 : (Cond.fieldLink "GraphWriterModel" 33 "GraphWriterModel" "fSkip" "[Z") ∈ wd_W := wd_mem 761 (by decide +kernel) (by decide +kernel)
theorem wd_762 : (Cond.fieldLink "GraphWriterModel" 36 "GraphWriterModel" "sort" "[I") ∈ wd_W := wd_mem 762 (by decide +kernel) (by decide +kernel)
theorem wd_763 : (Cond.fieldLink "GraphWriterModel" 39 "GraphWriterModel" "classOf" "[I") ∈ wd_W := wd_mem 763 (by decide +kernel) (by decide +kernel)
theorem wd_764 : (Cond.fieldLink "GraphWriterModel" 42 "GraphWriterModel" "nameOf" "[I") ∈ wd_W := wd_mem 764 (by decide +kernel) (by decide +kernel)
theorem wd_765 : (Cond.fieldLink "GraphWriterModel" 45 "GraphWriterModel" "size" "[I") ∈ wd_W := wd_mem 765 (by decide +kernel) (by decide +kernel)
theorem wd_766 : (Cond.fieldLink "GraphWriterModel" 48 "GraphWriterModel" "value" "[J") ∈ wd_W := wd_mem 766 (by decide +kernel) (by decide +kernel)
theorem wd_767 : (Cond.fieldLink "GraphWriterModel" 51 "GraphWriterModel" "standIn" "[I") ∈ wd_W := wd_mem 767 (by decide +kernel) (by decide +kernel)
theorem wd_768 : (Cond.fieldLink "GraphWriterModel" 54 "GraphWriterModel" "extras" "[I") ∈ wd_W := wd_mem 768 (by decide +kernel) (by decide +kernel)
theorem wd_769 : (Cond.fieldLink "GraphWriterModel" 115 "GraphWriterModel" "objects" "I") ∈ wd_W := wd_mem 769 (by decide +kernel) (by decide +kernel)
theorem wd_770 : (Cond.fieldLink "GraphWriterModel" 57 "GraphWriterModel" "stream" "[I") ∈ wd_W := wd_mem 770 (by decide +kernel) (by decide +kernel)
theorem wd_771 : (Cond.fieldLink "GraphWriterModel" 96 "GraphWriterModel" "length" "I") ∈ wd_W := wd_mem 771 (by decide +kernel) (by decide +kernel)
theorem wd_772 : (Cond.fieldLink "GraphWriterModel" 60 "GraphWriterModel" "waiting" "[I") ∈ wd_W := wd_mem 772 (by decide +kernel) (by decide +kernel)
theorem wd_773 : (Cond.fieldLink "GraphWriterModel" 106 "GraphWriterModel" "waits" "I") ∈ wd_W := wd_mem 773 (by decide +kernel) (by decide +kernel)
theorem wd_774 : (Cond.fieldLink "GraphWriterModel" 63 "GraphWriterModel" "handles" "[I") ∈ wd_W := wd_mem 774 (by decide +kernel) (by decide +kernel)
theorem wd_775 : (Cond.fieldLink "GraphWriterModel" 100 "GraphWriterModel" "given" "I") ∈ wd_W := wd_mem 775 (by decide +kernel) (by decide +kernel)
theorem wd_776 : (Cond.fieldLink "GraphWriterModel" 66 "GraphWriterModel" "todo" "[I") ∈ wd_W := wd_mem 776 (by decide +kernel) (by decide +kernel)
theorem wd_777 : (Cond.fieldLink "GraphWriterModel" 69 "GraphWriterModel" "todoOf" "[I") ∈ wd_W := wd_mem 777 (by decide +kernel) (by decide +kernel)
theorem wd_778 : (Cond.fieldLink "GraphWriterModel" 72 "GraphWriterModel" "todoWith" "[I") ∈ wd_W := wd_mem 778 (by decide +kernel) (by decide +kernel)
theorem wd_779 : (Cond.fieldLink "GraphWriterModel" 152 "GraphWriterModel" "left" "I") ∈ wd_W := wd_mem 779 (by decide +kernel) (by decide +kernel)
theorem wd_780 : (Cond.fieldLink "GraphWriterModel" 75 "GraphWriterModel" "order" "[I") ∈ wd_W := wd_mem 780 (by decide +kernel) (by decide +kernel)
theorem wd_781 : (Cond.fieldLink "GraphWriterModel" 78 "GraphWriterModel" "oldHandles" "[I") ∈ wd_W := wd_mem 781 (by decide +kernel) (by decide +kernel)
theorem wd_782 : (Cond.fieldLink "GraphWriterModel" 140 "GraphWriterModel" "oldLength" "I") ∈ wd_W := wd_mem 782 (by decide +kernel) (by decide +kernel)
theorem wd_783 : (Cond.fieldLink "GraphWriterModel" 143 "GraphWriterModel" "oldWaits" "I") ∈ wd_W := wd_mem 783 (by decide +kernel) (by decide +kernel)
theorem wd_784 : (Cond.fieldLink "GraphWriterModel" 146 "GraphWriterModel" "oldGiven" "I") ∈ wd_W := wd_mem 784 (by decide +kernel) (by decide +kernel)
theorem wd_785 : (Cond.laysFinal "GraphWriterModel" "GraphWriterModel" "defined" "[Z") ∈ wd_W := wd_mem 785 (by decide +kernel) (by decide +kernel)
theorem wd_787 : (Cond.laysFinal "GraphWriterModel" "GraphWriterModel" "kind" "[I") ∈ wd_W := wd_mem 787 (by decide +kernel) (by decide +kernel)
theorem wd_789 : (Cond.laysFinal "GraphWriterModel" "GraphWriterModel" "above" "[I") ∈ wd_W := wd_mem 789 (by decide +kernel) (by decide +kernel)
theorem wd_791 : (Cond.laysFinal "GraphWriterModel" "GraphWriterModel" "id" "[J") ∈ wd_W := wd_mem 791 (by decide +kernel) (by decide +kernel)
theorem wd_793 : (Cond.laysFinal "GraphWriterModel" "GraphWriterModel" "fields" "[I") ∈ wd_W := wd_mem 793 (by decide +kernel) (by decide +kernel)
theorem wd_795 : (Cond.laysFinal "GraphWriterModel" "GraphWriterModel" "fName" "[I") ∈ wd_W := wd_mem 795 (by decide +kernel) (by decide +kernel)
theorem wd_797 : (Cond.laysFinal "GraphWriterModel" "GraphWriterModel" "fType" "[I") ∈ wd_W := wd_mem 797 (by decide +kernel) (by decide +kernel)
theorem wd_799 : (Cond.laysFinal "GraphWriterModel" "GraphWriterModel" "fSkip" "[Z") ∈ wd_W := wd_mem 799 (by decide +kernel) (by decide +kernel)
theorem wd_801 : (Cond.laysFinal "GraphWriterModel" "GraphWriterModel" "sort" "[I") ∈ wd_W := wd_mem 801 (by decide +kernel) (by decide +kernel)
theorem wd_803 : (Cond.laysFinal "GraphWriterModel" "GraphWriterModel" "classOf" "[I") ∈ wd_W := wd_mem 803 (by decide +kernel) (by decide +kernel)
theorem wd_805 : (Cond.laysFinal "GraphWriterModel" "GraphWriterModel" "nameOf" "[I") ∈ wd_W := wd_mem 805 (by decide +kernel) (by decide +kernel)
theorem wd_807 : (Cond.laysFinal "GraphWriterModel" "GraphWriterModel" "size" "[I") ∈ wd_W := wd_mem 807 (by decide +kernel) (by decide +kernel)
theorem wd_809 : (Cond.laysFinal "GraphWriterModel" "GraphWriterModel" "value" "[J") ∈ wd_W := wd_mem 809 (by decide +kernel) (by decide +kernel)
theorem wd_811 : (Cond.laysFinal "GraphWriterModel" "GraphWriterModel" "standIn" "[I") ∈ wd_W := wd_mem 811 (by decide +kernel) (by decide +kernel)
theorem wd_813 : (Cond.laysFinal "GraphWriterModel" "GraphWriterModel" "extras" "[I") ∈ wd_W := wd_mem 813 (by decide +kernel) (by decide +kernel)
theorem wd_815 : (Cond.lays "GraphWriterModel" "GraphWriterModel" "objects" "I") ∈ wd_W := wd_mem 815 (by decide +kernel) (by decide +kernel)
theorem wd_817 : (Cond.laysFinal "GraphWriterModel" "GraphWriterModel" "stream" "[I") ∈ wd_W := wd_mem 817 (by decide +kernel) (by decide +kernel)
theorem wd_819 : (Cond.lays "GraphWriterModel" "GraphWriterModel" "length" "I") ∈ wd_W := wd_mem 819 (by decide +kernel) (by decide +kernel)
theorem wd_821 : (Cond.laysFinal "GraphWriterModel" "GraphWriterModel" "waiting" "[I") ∈ wd_W := wd_mem 821 (by decide +kernel) (by decide +kernel)
theorem wd_823 : (Cond.lays "GraphWriterModel" "GraphWriterModel" "waits" "I") ∈ wd_W := wd_mem 823 (by decide +kernel) (by decide +kernel)
theorem wd_825 : (Cond.laysFinal "GraphWriterModel" "GraphWriterModel" "handles" "[I") ∈ wd_W := wd_mem 825 (by decide +kernel) (by decide +kernel)
theorem wd_827 : (Cond.lays "GraphWriterModel" "GraphWriterModel" "given" "I") ∈ wd_W := wd_mem 827 (by decide +kernel) (by decide +kernel)
theorem wd_829 : (Cond.laysFinal "GraphWriterModel" "GraphWriterModel" "todo" "[I") ∈ wd_W := wd_mem 829 (by decide +kernel) (by decide +kernel)
theorem wd_831 : (Cond.laysFinal "GraphWriterModel" "GraphWriterModel" "todoOf" "[I") ∈ wd_W := wd_mem 831 (by decide +kernel) (by decide +kernel)
theorem wd_833 : (Cond.laysFinal "GraphWriterModel" "GraphWriterModel" "todoWith" "[I") ∈ wd_W := wd_mem 833 (by decide +kernel) (by decide +kernel)
theorem wd_835 : (Cond.lays "GraphWriterModel" "GraphWriterModel" "left" "I") ∈ wd_W := wd_mem 835 (by decide +kernel) (by decide +kernel)
theorem wd_837 : (Cond.laysFinal "GraphWriterModel" "GraphWriterModel" "order" "[I") ∈ wd_W := wd_mem 837 (by decide +kernel) (by decide +kernel)
theorem wd_839 : (Cond.laysFinal "GraphWriterModel" "GraphWriterModel" "oldHandles" "[I") ∈ wd_W := wd_mem 839 (by decide +kernel) (by decide +kernel)
theorem wd_841 : (Cond.lays "GraphWriterModel" "GraphWriterModel" "oldLength" "I") ∈ wd_W := wd_mem 841 (by decide +kernel) (by decide +kernel)
theorem wd_843 : (Cond.lays "GraphWriterModel" "GraphWriterModel" "oldWaits" "I") ∈ wd_W := wd_mem 843 (by decide +kernel) (by decide +kernel)
theorem wd_845 : (Cond.lays "GraphWriterModel" "GraphWriterModel" "oldGiven" "I") ∈ wd_W := wd_mem 845 (by decide +kernel) (by decide +kernel)
theorem wd_848 : (Cond.arrayClass FieldType.boolean) ∈ wd_W := wd_mem 848 (by decide +kernel) (by decide +kernel)
theorem wd_849 : (Cond.methodLink "GraphWriterLaw" 19 ⟨"GraphWriterModel", "define", "(IIIJ)I"⟩) ∈ wd_W := wd_mem 849 (by decide +kernel) (by decide +kernel)
theorem wd_850 : (Cond.instanceMethod ⟨"GraphWriterModel", "define", "(IIIJ)I"⟩) ∈ wd_W := wd_mem 850 (by decide +kernel) (by decide +kernel)
theorem wd_851 : (Cond.selects "GraphWriterModel" ⟨"GraphWriterModel", "define", "(IIIJ)I"⟩ ⟨"GraphWriterModel", "define", "(IIIJ)I"⟩) ∈ wd_W := wd_mem 851 (by decide +kernel) (by decide +kernel)
theorem wd_852 : (Cond.code ⟨"GraphWriterModel", "define", "(IIIJ)I"⟩ prog_6_method_9_code 6 (some FieldType.int)) ∈ wd_W := wd_mem 852 (by decide +kernel) (by decide +kernel)
theorem wd_853 : (Cond.methodLink "GraphWriterModel" 92 ⟨"GraphWriterModel", "out", "(II)Z"⟩) ∈ wd_W := wd_mem 853 (by decide +kernel) (by decide +kernel)
theorem wd_855 : (Cond.instanceMethod ⟨"GraphWriterModel", "out", "(II)Z"⟩) ∈ wd_W := wd_mem 855 (by decide +kernel) (by decide +kernel)
theorem wd_856 : (Cond.code ⟨"GraphWriterModel", "out", "(II)Z"⟩ prog_6_method_2_code 3 (some FieldType.boolean)) ∈ wd_W := wd_mem 856 (by decide +kernel) (by decide +kernel)
theorem wd_857 : (Cond.methodLink "GraphWriterModel" 111 ⟨"GraphWriterModel", "noClass", "(I)Z"⟩) ∈ wd_W := wd_mem 857 (by decide +kernel) (by decide +kernel)
theorem wd_859 : (Cond.instanceMethod ⟨"GraphWriterModel", "noClass", "(I)Z"⟩) ∈ wd_W := wd_mem 859 (by decide +kernel) (by decide +kernel)
theorem wd_860 : (Cond.code ⟨"GraphWriterModel", "noClass", "(I)Z"⟩ prog_6_method_3_code 2 (some FieldType.boolean)) ∈ wd_W := wd_mem 860 (by decide +kernel) (by decide +kernel)
theorem wd_861 : (Cond.methodLink "GraphWriterLaw" 24 ⟨"GraphWriterModel", "field", "(IIIZ)I"⟩) ∈ wd_W := wd_mem 861 (by decide +kernel) (by decide +kernel)
theorem wd_862 : (Cond.instanceMethod ⟨"GraphWriterModel", "field", "(IIIZ)I"⟩) ∈ wd_W := wd_mem 862 (by decide +kernel) (by decide +kernel)
theorem wd_863 : (Cond.selects "GraphWriterModel" ⟨"GraphWriterModel", "field", "(IIIZ)I"⟩ ⟨"GraphWriterModel", "field", "(IIIZ)I"⟩) ∈ wd_W := wd_mem 863 (by decide +kernel) (by decide +kernel)
theorem wd_864 : (Cond.code ⟨"GraphWriterModel", "field", "(IIIZ)I"⟩ prog_6_method_11_code 6 (some FieldType.int)) ∈ wd_W := wd_mem 864 (by decide +kernel) (by decide +kernel)
theorem wd_865 : (Cond.methodLink "GraphWriterModel" 118 ⟨"GraphWriterModel", "below", "(II)Z"⟩) ∈ wd_W := wd_mem 865 (by decide +kernel) (by decide +kernel)
theorem wd_867 : (Cond.instanceMethod ⟨"GraphWriterModel", "below", "(II)Z"⟩) ∈ wd_W := wd_mem 867 (by decide +kernel) (by decide +kernel)
theorem wd_868 : (Cond.code ⟨"GraphWriterModel", "below", "(II)Z"⟩ prog_6_method_10_code 5 (some FieldType.boolean)) ∈ wd_W := wd_mem 868 (by decide +kernel) (by decide +kernel)
theorem wd_869 : (Cond.methodLink "GraphWriterLaw" 29 ⟨"GraphWriterModel", "instance", "(I)I"⟩) ∈ wd_W := wd_mem 869 (by decide +kernel) (by decide +kernel)
theorem wd_870 : (Cond.instanceMethod ⟨"GraphWriterModel", "instance", "(I)I"⟩) ∈ wd_W := wd_mem 870 (by decide +kernel) (by decide +kernel)
theorem wd_871 : (Cond.selects "GraphWriterModel" ⟨"GraphWriterModel", "instance", "(I)I"⟩ ⟨"GraphWriterModel", "instance", "(I)I"⟩) ∈ wd_W := wd_mem 871 (by decide +kernel) (by decide +kernel)
theorem wd_872 : (Cond.code ⟨"GraphWriterModel", "instance", "(I)I"⟩ prog_6_method_16_code 4 (some FieldType.int)) ∈ wd_W := wd_mem 872 (by decide +kernel) (by decide +kernel)
theorem wd_873 : (Cond.methodLink "GraphWriterModel" 121 ⟨"GraphWriterModel", "firstSlot", "(I)I"⟩) ∈ wd_W := wd_mem 873 (by decide +kernel) (by decide +kernel)
theorem wd_875 : (Cond.instanceMethod ⟨"GraphWriterModel", "firstSlot", "(I)I"⟩) ∈ wd_W := wd_mem 875 (by decide +kernel) (by decide +kernel)
theorem wd_876 : (Cond.code ⟨"GraphWriterModel", "firstSlot", "(I)I"⟩ prog_6_method_13_code 5 (some FieldType.int)) ∈ wd_W := wd_mem 876 (by decide +kernel) (by decide +kernel)
theorem wd_877 : (Cond.methodLink "GraphWriterModel" 129 ⟨"GraphWriterModel", "begin", "(II)I"⟩) ∈ wd_W := wd_mem 877 (by decide +kernel) (by decide +kernel)
theorem wd_879 : (Cond.instanceMethod ⟨"GraphWriterModel", "begin", "(II)I"⟩) ∈ wd_W := wd_mem 879 (by decide +kernel) (by decide +kernel)
theorem wd_880 : (Cond.code ⟨"GraphWriterModel", "begin", "(II)I"⟩ prog_6_method_12_code 4 (some FieldType.int)) ∈ wd_W := wd_mem 880 (by decide +kernel) (by decide +kernel)
theorem wd_881 : (Cond.methodLink "GraphWriterModel" 132 ⟨"GraphWriterModel", "slotType", "(II)I"⟩) ∈ wd_W := wd_mem 881 (by decide +kernel) (by decide +kernel)
theorem wd_883 : (Cond.instanceMethod ⟨"GraphWriterModel", "slotType", "(II)I"⟩) ∈ wd_W := wd_mem 883 (by decide +kernel) (by decide +kernel)
theorem wd_884 : (Cond.code ⟨"GraphWriterModel", "slotType", "(II)I"⟩ prog_6_method_15_code 4 (some FieldType.int)) ∈ wd_W := wd_mem 884 (by decide +kernel) (by decide +kernel)
theorem wd_885 : (Cond.methodLink "GraphWriterModel" 125 ⟨"GraphWriterModel", "holder", "(II)I"⟩) ∈ wd_W := wd_mem 885 (by decide +kernel) (by decide +kernel)
theorem wd_887 : (Cond.instanceMethod ⟨"GraphWriterModel", "holder", "(II)I"⟩) ∈ wd_W := wd_mem 887 (by decide +kernel) (by decide +kernel)
theorem wd_888 : (Cond.code ⟨"GraphWriterModel", "holder", "(II)I"⟩ prog_6_method_14_code 5 (some FieldType.int)) ∈ wd_W := wd_mem 888 (by decide +kernel) (by decide +kernel)
theorem wd_889 : (Cond.constantLong "GraphWriterModel" 135 (-1 : Int64)) ∈ wd_W := wd_mem 889 (by decide +kernel) (by decide +kernel)
theorem wd_890 : (Cond.methodLink "GraphWriterLaw" 34 ⟨"GraphWriterModel", "text", "(J)I"⟩) ∈ wd_W := wd_mem 890 (by decide +kernel) (by decide +kernel)
theorem wd_891 : (Cond.instanceMethod ⟨"GraphWriterModel", "text", "(J)I"⟩) ∈ wd_W := wd_mem 891 (by decide +kernel) (by decide +kernel)
theorem wd_892 : (Cond.selects "GraphWriterModel" ⟨"GraphWriterModel", "text", "(J)I"⟩ ⟨"GraphWriterModel", "text", "(J)I"⟩) ∈ wd_W := wd_mem 892 (by decide +kernel) (by decide +kernel)
theorem wd_893 : (Cond.code ⟨"GraphWriterModel", "text", "(J)I"⟩ prog_6_method_17_code 7 (some FieldType.int)) ∈ wd_W := wd_mem 893 (by decide +kernel) (by decide +kernel)
theorem wd_894 : (Cond.methodLink "GraphWriterLaw" 39 ⟨"GraphWriterModel", "array", "(ZI)I"⟩) ∈ wd_W := wd_mem 894 (by decide +kernel) (by decide +kernel)
theorem wd_895 : (Cond.instanceMethod ⟨"GraphWriterModel", "array", "(ZI)I"⟩) ∈ wd_W := wd_mem 895 (by decide +kernel) (by decide +kernel)
theorem wd_896 : (Cond.selects "GraphWriterModel" ⟨"GraphWriterModel", "array", "(ZI)I"⟩ ⟨"GraphWriterModel", "array", "(ZI)I"⟩) ∈ wd_W := wd_mem 896 (by decide +kernel) (by decide +kernel)
theorem wd_897 : (Cond.code ⟨"GraphWriterModel", "array", "(ZI)I"⟩ prog_6_method_18_code 5 (some FieldType.int)) ∈ wd_W := wd_mem 897 (by decide +kernel) (by decide +kernel)
theorem wd_898 : (Cond.methodLink "GraphWriterLaw" 44 ⟨"GraphWriterModel", "constant", "(II)I"⟩) ∈ wd_W := wd_mem 898 (by decide +kernel) (by decide +kernel)
theorem wd_899 : (Cond.instanceMethod ⟨"GraphWriterModel", "constant", "(II)I"⟩) ∈ wd_W := wd_mem 899 (by decide +kernel) (by decide +kernel)
theorem wd_900 : (Cond.selects "GraphWriterModel" ⟨"GraphWriterModel", "constant", "(II)I"⟩ ⟨"GraphWriterModel", "constant", "(II)I"⟩) ∈ wd_W := wd_mem 900 (by decide +kernel) (by decide +kernel)
theorem wd_901 : (Cond.code ⟨"GraphWriterModel", "constant", "(II)I"⟩ prog_6_method_19_code 4 (some FieldType.int)) ∈ wd_W := wd_mem 901 (by decide +kernel) (by decide +kernel)
theorem wd_902 : (Cond.methodLink "GraphWriterLaw" 49 ⟨"GraphWriterModel", "set", "(IIJ)I"⟩) ∈ wd_W := wd_mem 902 (by decide +kernel) (by decide +kernel)
theorem wd_903 : (Cond.instanceMethod ⟨"GraphWriterModel", "set", "(IIJ)I"⟩) ∈ wd_W := wd_mem 903 (by decide +kernel) (by decide +kernel)
theorem wd_904 : (Cond.selects "GraphWriterModel" ⟨"GraphWriterModel", "set", "(IIJ)I"⟩ ⟨"GraphWriterModel", "set", "(IIJ)I"⟩) ∈ wd_W := wd_mem 904 (by decide +kernel) (by decide +kernel)
theorem wd_905 : (Cond.code ⟨"GraphWriterModel", "set", "(IIJ)I"⟩ prog_6_method_20_code 6 (some FieldType.int)) ∈ wd_W := wd_mem 905 (by decide +kernel) (by decide +kernel)
theorem wd_906 : (Cond.methodLink "GraphWriterLaw" 53 ⟨"GraphWriterModel", "replace", "(II)I"⟩) ∈ wd_W := wd_mem 906 (by decide +kernel) (by decide +kernel)
theorem wd_907 : (Cond.instanceMethod ⟨"GraphWriterModel", "replace", "(II)I"⟩) ∈ wd_W := wd_mem 907 (by decide +kernel) (by decide +kernel)
theorem wd_908 : (Cond.selects "GraphWriterModel" ⟨"GraphWriterModel", "replace", "(II)I"⟩ ⟨"GraphWriterModel", "replace", "(II)I"⟩) ∈ wd_W := wd_mem 908 (by decide +kernel) (by decide +kernel)
theorem wd_909 : (Cond.code ⟨"GraphWriterModel", "replace", "(II)I"⟩ prog_6_method_22_code 3 (some FieldType.int)) ∈ wd_W := wd_mem 909 (by decide +kernel) (by decide +kernel)
theorem wd_910 : (Cond.methodLink "GraphWriterModel" 137 ⟨"GraphWriterModel", "noInstance", "(I)Z"⟩) ∈ wd_W := wd_mem 910 (by decide +kernel) (by decide +kernel)
theorem wd_912 : (Cond.instanceMethod ⟨"GraphWriterModel", "noInstance", "(I)Z"⟩) ∈ wd_W := wd_mem 912 (by decide +kernel) (by decide +kernel)
theorem wd_913 : (Cond.code ⟨"GraphWriterModel", "noInstance", "(I)Z"⟩ prog_6_method_21_code 2 (some FieldType.boolean)) ∈ wd_W := wd_mem 913 (by decide +kernel) (by decide +kernel)
theorem wd_914 : (Cond.methodLink "GraphWriterLaw" 57 ⟨"GraphWriterModel", "extra", "(II)I"⟩) ∈ wd_W := wd_mem 914 (by decide +kernel) (by decide +kernel)
theorem wd_915 : (Cond.instanceMethod ⟨"GraphWriterModel", "extra", "(II)I"⟩) ∈ wd_W := wd_mem 915 (by decide +kernel) (by decide +kernel)
theorem wd_916 : (Cond.selects "GraphWriterModel" ⟨"GraphWriterModel", "extra", "(II)I"⟩ ⟨"GraphWriterModel", "extra", "(II)I"⟩) ∈ wd_W := wd_mem 916 (by decide +kernel) (by decide +kernel)
theorem wd_917 : (Cond.code ⟨"GraphWriterModel", "extra", "(II)I"⟩ prog_6_method_23_code 3 (some FieldType.int)) ∈ wd_W := wd_mem 917 (by decide +kernel) (by decide +kernel)
theorem wd_918 : (Cond.methodLink "GraphWriterLaw" 62 ⟨"GraphWriterModel", "data", "(JI)I"⟩) ∈ wd_W := wd_mem 918 (by decide +kernel) (by decide +kernel)
theorem wd_919 : (Cond.instanceMethod ⟨"GraphWriterModel", "data", "(JI)I"⟩) ∈ wd_W := wd_mem 919 (by decide +kernel) (by decide +kernel)
theorem wd_920 : (Cond.selects "GraphWriterModel" ⟨"GraphWriterModel", "data", "(JI)I"⟩ ⟨"GraphWriterModel", "data", "(JI)I"⟩) ∈ wd_W := wd_mem 920 (by decide +kernel) (by decide +kernel)
theorem wd_921 : (Cond.code ⟨"GraphWriterModel", "data", "(JI)I"⟩ prog_6_method_26_code 7 (some FieldType.int)) ∈ wd_W := wd_mem 921 (by decide +kernel) (by decide +kernel)
theorem wd_922 : (Cond.methodLink "GraphWriterModel" 149 ⟨"GraphWriterModel", "flush", "()V"⟩) ∈ wd_W := wd_mem 922 (by decide +kernel) (by decide +kernel)
theorem wd_924 : (Cond.instanceMethod ⟨"GraphWriterModel", "flush", "()V"⟩) ∈ wd_W := wd_mem 924 (by decide +kernel) (by decide +kernel)
theorem wd_925 : (Cond.code ⟨"GraphWriterModel", "flush", "()V"⟩ prog_6_method_8_code 2 none) ∈ wd_W := wd_mem 925 (by decide +kernel) (by decide +kernel)
theorem wd_926 : (Cond.constantLong "GraphWriterModel" 109 (119 : Int64)) ∈ wd_W := wd_mem 926 (by decide +kernel) (by decide +kernel)
theorem wd_927 : (Cond.methodLink "GraphWriterLaw" 67 ⟨"GraphWriterModel", "write", "(IZ)I"⟩) ∈ wd_W := wd_mem 927 (by decide +kernel) (by decide +kernel)
theorem wd_928 : (Cond.instanceMethod ⟨"GraphWriterModel", "write", "(IZ)I"⟩) ∈ wd_W := wd_mem 928 (by decide +kernel) (by decide +kernel)
theorem wd_929 : (Cond.selects "GraphWriterModel" ⟨"GraphWriterModel", "write", "(IZ)I"⟩ ⟨"GraphWriterModel", "write", "(IZ)I"⟩) ∈ wd_W := wd_mem 929 (by decide +kernel) (by decide +kernel)
theorem wd_930 : (Cond.code ⟨"GraphWriterModel", "write", "(IZ)I"⟩ prog_6_method_44_code 4 (some FieldType.int)) ∈ wd_W := wd_mem 930 (by decide +kernel) (by decide +kernel)
theorem wd_931 : (Cond.methodLink "GraphWriterModel" 282 ⟨"GraphWriterModel", "remember", "()V"⟩) ∈ wd_W := wd_mem 931 (by decide +kernel) (by decide +kernel)
theorem wd_933 : (Cond.instanceMethod ⟨"GraphWriterModel", "remember", "()V"⟩) ∈ wd_W := wd_mem 933 (by decide +kernel) (by decide +kernel)
theorem wd_934 : (Cond.code ⟨"GraphWriterModel", "remember", "()V"⟩ prog_6_method_24_code 2 none) ∈ wd_W := wd_mem 934 (by decide +kernel) (by decide +kernel)
theorem wd_935 : (Cond.methodLink "GraphWriterModel" 273 ⟨"GraphWriterModel", "writeObject", "(IZ)Z"⟩) ∈ wd_W := wd_mem 935 (by decide +kernel) (by decide +kernel)
theorem wd_937 : (Cond.instanceMethod ⟨"GraphWriterModel", "writeObject", "(IZ)Z"⟩) ∈ wd_W := wd_mem 937 (by decide +kernel) (by decide +kernel)
theorem wd_938 : (Cond.code ⟨"GraphWriterModel", "writeObject", "(IZ)Z"⟩ prog_6_method_41_code 5 (some FieldType.boolean)) ∈ wd_W := wd_mem 938 (by decide +kernel) (by decide +kernel)
theorem wd_939 : (Cond.methodLink "GraphWriterModel" 252 ⟨"GraphWriterModel", "standing", "(I)I"⟩) ∈ wd_W := wd_mem 939 (by decide +kernel) (by decide +kernel)
theorem wd_941 : (Cond.instanceMethod ⟨"GraphWriterModel", "standing", "(I)I"⟩) ∈ wd_W := wd_mem 941 (by decide +kernel) (by decide +kernel)
theorem wd_942 : (Cond.code ⟨"GraphWriterModel", "standing", "(I)I"⟩ prog_6_method_37_code 6 (some FieldType.int)) ∈ wd_W := wd_mem 942 (by decide +kernel) (by decide +kernel)
theorem wd_943 : (Cond.constantLong "GraphWriterModel" 212 (112 : Int64)) ∈ wd_W := wd_mem 943 (by decide +kernel) (by decide +kernel)
theorem wd_944 : (Cond.methodLink "GraphWriterModel" 187 ⟨"GraphWriterModel", "refer", "(I)V"⟩) ∈ wd_W := wd_mem 944 (by decide +kernel) (by decide +kernel)
theorem wd_946 : (Cond.instanceMethod ⟨"GraphWriterModel", "refer", "(I)V"⟩) ∈ wd_W := wd_mem 946 (by decide +kernel) (by decide +kernel)
theorem wd_947 : (Cond.code ⟨"GraphWriterModel", "refer", "(I)V"⟩ prog_6_method_7_code 2 none) ∈ wd_W := wd_mem 947 (by decide +kernel) (by decide +kernel)
theorem wd_948 : (Cond.constantLong "GraphWriterModel" 103 (113 : Int64)) ∈ wd_W := wd_mem 948 (by decide +kernel) (by decide +kernel)
theorem wd_949 : (Cond.constant "GraphWriterModel" 105 (8257536 : Int32)) ∈ wd_W := wd_mem 949 (by decide +kernel) (by decide +kernel)
theorem wd_950 : (Cond.constantLong "GraphWriterModel" 190 (116 : Int64)) ∈ wd_W := wd_mem 950 (by decide +kernel) (by decide +kernel)
theorem wd_951 : (Cond.methodLink "GraphWriterModel" 192 ⟨"GraphWriterModel", "give", "(I)V"⟩) ∈ wd_W := wd_mem 951 (by decide +kernel) (by decide +kernel)
theorem wd_953 : (Cond.instanceMethod ⟨"GraphWriterModel", "give", "(I)V"⟩) ∈ wd_W := wd_mem 953 (by decide +kernel) (by decide +kernel)
theorem wd_954 : (Cond.code ⟨"GraphWriterModel", "give", "(I)V"⟩ prog_6_method_6_code 2 none) ∈ wd_W := wd_mem 954 (by decide +kernel) (by decide +kernel)
theorem wd_955 : (Cond.methodLink "GraphWriterModel" 255 ⟨"GraphWriterModel", "writeArray", "(I)V"⟩) ∈ wd_W := wd_mem 955 (by decide +kernel) (by decide +kernel)
theorem wd_957 : (Cond.instanceMethod ⟨"GraphWriterModel", "writeArray", "(I)V"⟩) ∈ wd_W := wd_mem 957 (by decide +kernel) (by decide +kernel)
theorem wd_958 : (Cond.code ⟨"GraphWriterModel", "writeArray", "(I)V"⟩ prog_6_method_39_code 4 none) ∈ wd_W := wd_mem 958 (by decide +kernel) (by decide +kernel)
theorem wd_959 : (Cond.constantLong "GraphWriterModel" 241 (117 : Int64)) ∈ wd_W := wd_mem 959 (by decide +kernel) (by decide +kernel)
theorem wd_960 : (Cond.methodLink "GraphWriterModel" 243 ⟨"GraphWriterModel", "arrayDescriptor", "(Z)V"⟩) ∈ wd_W := wd_mem 960 (by decide +kernel) (by decide +kernel)
theorem wd_962 : (Cond.instanceMethod ⟨"GraphWriterModel", "arrayDescriptor", "(Z)V"⟩) ∈ wd_W := wd_mem 962 (by decide +kernel) (by decide +kernel)
theorem wd_963 : (Cond.code ⟨"GraphWriterModel", "arrayDescriptor", "(Z)V"⟩ prog_6_method_36_code 3 none) ∈ wd_W := wd_mem 963 (by decide +kernel) (by decide +kernel)
theorem wd_964 : (Cond.constantLong "GraphWriterModel" 200 (114 : Int64)) ∈ wd_W := wd_mem 964 (by decide +kernel) (by decide +kernel)
theorem wd_965 : (Cond.constantLong "GraphWriterModel" 225 (19 : Int64)) ∈ wd_W := wd_mem 965 (by decide +kernel) (by decide +kernel)
theorem wd_966 : (Cond.constantLong "GraphWriterModel" 227 (6578750122511904364 : Int64)) ∈ wd_W := wd_mem 966 (by decide +kernel) (by decide +kernel)
theorem wd_967 : (Cond.constantLong "GraphWriterModel" 229 (7020662317715188325 : Int64)) ∈ wd_W := wd_mem 967 (by decide +kernel) (by decide +kernel)
theorem wd_968 : (Cond.constantLong "GraphWriterModel" 231 (6517819 : Int64)) ∈ wd_W := wd_mem 968 (by decide +kernel) (by decide +kernel)
theorem wd_969 : (Cond.constantLong "GraphWriterModel" 155 (2 : Int64)) ∈ wd_W := wd_mem 969 (by decide +kernel) (by decide +kernel)
theorem wd_970 : (Cond.constantLong "GraphWriterModel" 157 (23369 : Int64)) ∈ wd_W := wd_mem 970 (by decide +kernel) (by decide +kernel)
theorem wd_971 : (Cond.constantLong "GraphWriterModel" 233 (-8012369246846506644 : Int64)) ∈ wd_W := wd_mem 971 (by decide +kernel) (by decide +kernel)
theorem wd_972 : (Cond.constantLong "GraphWriterModel" 235 (5600894804908749477 : Int64)) ∈ wd_W := wd_mem 972 (by decide +kernel) (by decide +kernel)
theorem wd_973 : (Cond.methodLink "GraphWriterModel" 208 ⟨"GraphWriterModel", "plainEnd", "(II)V"⟩) ∈ wd_W := wd_mem 973 (by decide +kernel) (by decide +kernel)
theorem wd_975 : (Cond.instanceMethod ⟨"GraphWriterModel", "plainEnd", "(II)V"⟩) ∈ wd_W := wd_mem 975 (by decide +kernel) (by decide +kernel)
theorem wd_976 : (Cond.code ⟨"GraphWriterModel", "plainEnd", "(II)V"⟩ prog_6_method_33_code 3 none) ∈ wd_W := wd_mem 976 (by decide +kernel) (by decide +kernel)
theorem wd_977 : (Cond.constantLong "GraphWriterModel" 198 (120 : Int64)) ∈ wd_W := wd_mem 977 (by decide +kernel) (by decide +kernel)
theorem wd_978 : (Cond.methodLink "GraphWriterModel" 237 ⟨"GraphWriterModel", "push", "(III)V"⟩) ∈ wd_W := wd_mem 978 (by decide +kernel) (by decide +kernel)
theorem wd_980 : (Cond.instanceMethod ⟨"GraphWriterModel", "push", "(III)V"⟩) ∈ wd_W := wd_mem 980 (by decide +kernel) (by decide +kernel)
theorem wd_981 : (Cond.code ⟨"GraphWriterModel", "push", "(III)V"⟩ prog_6_method_27_code 4 none) ∈ wd_W := wd_mem 981 (by decide +kernel) (by decide +kernel)
theorem wd_982 : (Cond.methodLink "GraphWriterModel" 258 ⟨"GraphWriterModel", "writeConstant", "(I)V"⟩) ∈ wd_W := wd_mem 982 (by decide +kernel) (by decide +kernel)
theorem wd_984 : (Cond.instanceMethod ⟨"GraphWriterModel", "writeConstant", "(I)V"⟩) ∈ wd_W := wd_mem 984 (by decide +kernel) (by decide +kernel)
theorem wd_985 : (Cond.code ⟨"GraphWriterModel", "writeConstant", "(I)V"⟩ prog_6_method_40_code 2 none) ∈ wd_W := wd_mem 985 (by decide +kernel) (by decide +kernel)
theorem wd_986 : (Cond.constantLong "GraphWriterModel" 247 (126 : Int64)) ∈ wd_W := wd_mem 986 (by decide +kernel) (by decide +kernel)
theorem wd_987 : (Cond.methodLink "GraphWriterModel" 249 ⟨"GraphWriterModel", "descriptor", "(I)V"⟩) ∈ wd_W := wd_mem 987 (by decide +kernel) (by decide +kernel)
theorem wd_989 : (Cond.instanceMethod ⟨"GraphWriterModel", "descriptor", "(I)V"⟩) ∈ wd_W := wd_mem 989 (by decide +kernel) (by decide +kernel)
theorem wd_990 : (Cond.code ⟨"GraphWriterModel", "descriptor", "(I)V"⟩ prog_6_method_35_code 6 none) ∈ wd_W := wd_mem 990 (by decide +kernel) (by decide +kernel)
theorem wd_991 : (Cond.methodLink "GraphWriterModel" 183 ⟨"GraphWriterModel", "letter", "(I)V"⟩) ∈ wd_W := wd_mem 991 (by decide +kernel) (by decide +kernel)
theorem wd_993 : (Cond.instanceMethod ⟨"GraphWriterModel", "letter", "(I)V"⟩) ∈ wd_W := wd_mem 993 (by decide +kernel) (by decide +kernel)
theorem wd_994 : (Cond.code ⟨"GraphWriterModel", "letter", "(I)V"⟩ prog_6_method_29_code 2 none) ∈ wd_W := wd_mem 994 (by decide +kernel) (by decide +kernel)
theorem wd_995 : (Cond.methodLink "GraphWriterModel" 214 ⟨"GraphWriterModel", "enumBase", "()V"⟩) ∈ wd_W := wd_mem 995 (by decide +kernel) (by decide +kernel)
theorem wd_997 : (Cond.instanceMethod ⟨"GraphWriterModel", "enumBase", "()V"⟩) ∈ wd_W := wd_mem 997 (by decide +kernel) (by decide +kernel)
theorem wd_998 : (Cond.code ⟨"GraphWriterModel", "enumBase", "()V"⟩ prog_6_method_34_code 1 none) ∈ wd_W := wd_mem 998 (by decide +kernel) (by decide +kernel)
theorem wd_999 : (Cond.constantLong "GraphWriterModel" 202 (14 : Int64)) ∈ wd_W := wd_mem 999 (by decide +kernel) (by decide +kernel)
theorem wd_1000 : (Cond.constantLong "GraphWriterModel" 204 (7665538200524054894 : Int64)) ∈ wd_W := wd_mem 1000 (by decide +kernel) (by decide +kernel)
theorem wd_1001 : (Cond.constantLong "GraphWriterModel" 206 (113448431023469 : Int64)) ∈ wd_W := wd_mem 1001 (by decide +kernel) (by decide +kernel)
theorem wd_1002 : (Cond.constantLong "GraphWriterModel" 217 (3 : Int64)) ∈ wd_W := wd_mem 1002 (by decide +kernel) (by decide +kernel)
theorem wd_1003 : (Cond.methodLink "GraphWriterModel" 219 ⟨"GraphWriterModel", "arrange", "(I)I"⟩) ∈ wd_W := wd_mem 1003 (by decide +kernel) (by decide +kernel)
theorem wd_1005 : (Cond.instanceMethod ⟨"GraphWriterModel", "arrange", "(I)I"⟩) ∈ wd_W := wd_mem 1005 (by decide +kernel) (by decide +kernel)
theorem wd_1006 : (Cond.code ⟨"GraphWriterModel", "arrange", "(I)I"⟩ prog_6_method_30_code 6 (some FieldType.int)) ∈ wd_W := wd_mem 1006 (by decide +kernel) (by decide +kernel)
theorem wd_1007 : (Cond.methodLink "GraphWriterModel" 222 ⟨"GraphWriterModel", "fieldEntry", "(I)V"⟩) ∈ wd_W := wd_mem 1007 (by decide +kernel) (by decide +kernel)
theorem wd_1009 : (Cond.instanceMethod ⟨"GraphWriterModel", "fieldEntry", "(I)V"⟩) ∈ wd_W := wd_mem 1009 (by decide +kernel) (by decide +kernel)
theorem wd_1010 : (Cond.code ⟨"GraphWriterModel", "fieldEntry", "(I)V"⟩ prog_6_method_32_code 4 none) ∈ wd_W := wd_mem 1010 (by decide +kernel) (by decide +kernel)
theorem wd_1011 : (Cond.constantLong "GraphWriterModel" 167 (66 : Int64)) ∈ wd_W := wd_mem 1011 (by decide +kernel) (by decide +kernel)
theorem wd_1012 : (Cond.constantLong "GraphWriterModel" 169 (67 : Int64)) ∈ wd_W := wd_mem 1012 (by decide +kernel) (by decide +kernel)
theorem wd_1013 : (Cond.constantLong "GraphWriterModel" 171 (73 : Int64)) ∈ wd_W := wd_mem 1013 (by decide +kernel) (by decide +kernel)
theorem wd_1014 : (Cond.constantLong "GraphWriterModel" 173 (74 : Int64)) ∈ wd_W := wd_mem 1014 (by decide +kernel) (by decide +kernel)
theorem wd_1015 : (Cond.constantLong "GraphWriterModel" 175 (83 : Int64)) ∈ wd_W := wd_mem 1015 (by decide +kernel) (by decide +kernel)
theorem wd_1016 : (Cond.constantLong "GraphWriterModel" 177 (90 : Int64)) ∈ wd_W := wd_mem 1016 (by decide +kernel) (by decide +kernel)
theorem wd_1017 : (Cond.constantLong "GraphWriterModel" 179 (91 : Int64)) ∈ wd_W := wd_mem 1017 (by decide +kernel) (by decide +kernel)
theorem wd_1018 : (Cond.constantLong "GraphWriterModel" 181 (76 : Int64)) ∈ wd_W := wd_mem 1018 (by decide +kernel) (by decide +kernel)
theorem wd_1019 : (Cond.methodLink "GraphWriterModel" 195 ⟨"GraphWriterModel", "typeSigns", "(I)V"⟩) ∈ wd_W := wd_mem 1019 (by decide +kernel) (by decide +kernel)
theorem wd_1021 : (Cond.instanceMethod ⟨"GraphWriterModel", "typeSigns", "(I)V"⟩) ∈ wd_W := wd_mem 1021 (by decide +kernel) (by decide +kernel)
theorem wd_1022 : (Cond.code ⟨"GraphWriterModel", "typeSigns", "(I)V"⟩ prog_6_method_31_code 2 none) ∈ wd_W := wd_mem 1022 (by decide +kernel) (by decide +kernel)
theorem wd_1023 : (Cond.constantLong "GraphWriterModel" 159 (18 : Int64)) ∈ wd_W := wd_mem 1023 (by decide +kernel) (by decide +kernel)
theorem wd_1024 : (Cond.constantLong "GraphWriterModel" 161 (5506320655478385761 : Int64)) ∈ wd_W := wd_mem 1024 (by decide +kernel) (by decide +kernel)
theorem wd_1025 : (Cond.constantLong "GraphWriterModel" 163 (7955379284773332323 : Int64)) ∈ wd_W := wd_mem 1025 (by decide +kernel) (by decide +kernel)
theorem wd_1026 : (Cond.constantLong "GraphWriterModel" 165 (29755 : Int64)) ∈ wd_W := wd_mem 1026 (by decide +kernel) (by decide +kernel)
theorem wd_1027 : (Cond.methodLink "GraphWriterModel" 261 ⟨"GraphWriterModel", "abort", "(I)V"⟩) ∈ wd_W := wd_mem 1027 (by decide +kernel) (by decide +kernel)
theorem wd_1029 : (Cond.instanceMethod ⟨"GraphWriterModel", "abort", "(I)V"⟩) ∈ wd_W := wd_mem 1029 (by decide +kernel) (by decide +kernel)
theorem wd_1030 : (Cond.code ⟨"GraphWriterModel", "abort", "(I)V"⟩ prog_6_method_42_code 2 none) ∈ wd_W := wd_mem 1030 (by decide +kernel) (by decide +kernel)
theorem wd_1031 : (Cond.constantLong "GraphWriterModel" 269 (31609 : Int64)) ∈ wd_W := wd_mem 1031 (by decide +kernel) (by decide +kernel)
theorem wd_1032 : (Cond.constantLong "GraphWriterModel" 271 (121 : Int64)) ∈ wd_W := wd_mem 1032 (by decide +kernel) (by decide +kernel)
theorem wd_1033 : (Cond.constantLong "GraphWriterModel" 264 (115 : Int64)) ∈ wd_W := wd_mem 1033 (by decide +kernel) (by decide +kernel)
theorem wd_1034 : (Cond.methodLink "GraphWriterModel" 266 ⟨"GraphWriterModel", "parts", "(I)V"⟩) ∈ wd_W := wd_mem 1034 (by decide +kernel) (by decide +kernel)
theorem wd_1036 : (Cond.instanceMethod ⟨"GraphWriterModel", "parts", "(I)V"⟩) ∈ wd_W := wd_mem 1036 (by decide +kernel) (by decide +kernel)
theorem wd_1037 : (Cond.code ⟨"GraphWriterModel", "parts", "(I)V"⟩ prog_6_method_38_code 6 none) ∈ wd_W := wd_mem 1037 (by decide +kernel) (by decide +kernel)
theorem wd_1038 : (Cond.methodLink "GraphWriterModel" 285 ⟨"GraphWriterModel", "doOne", "()Z"⟩) ∈ wd_W := wd_mem 1038 (by decide +kernel) (by decide +kernel)
theorem wd_1040 : (Cond.instanceMethod ⟨"GraphWriterModel", "doOne", "()Z"⟩) ∈ wd_W := wd_mem 1040 (by decide +kernel) (by decide +kernel)
theorem wd_1041 : (Cond.code ⟨"GraphWriterModel", "doOne", "()Z"⟩ prog_6_method_43_code 6 (some FieldType.boolean)) ∈ wd_W := wd_mem 1041 (by decide +kernel) (by decide +kernel)
theorem wd_1042 : (Cond.methodLink "GraphWriterModel" 277 ⟨"GraphWriterModel", "width", "(I)I"⟩) ∈ wd_W := wd_mem 1042 (by decide +kernel) (by decide +kernel)
theorem wd_1044 : (Cond.instanceMethod ⟨"GraphWriterModel", "width", "(I)I"⟩) ∈ wd_W := wd_mem 1044 (by decide +kernel) (by decide +kernel)
theorem wd_1045 : (Cond.code ⟨"GraphWriterModel", "width", "(I)I"⟩ prog_6_method_28_code 2 (some FieldType.int)) ∈ wd_W := wd_mem 1045 (by decide +kernel) (by decide +kernel)
theorem wd_1046 : (Cond.constantLong "GraphWriterModel" 280 (30468 : Int64)) ∈ wd_W := wd_mem 1046 (by decide +kernel) (by decide +kernel)
theorem wd_1047 : (Cond.methodLink "GraphWriterModel" 289 ⟨"GraphWriterModel", "tooLong", "()Z"⟩) ∈ wd_W := wd_mem 1047 (by decide +kernel) (by decide +kernel)
theorem wd_1049 : (Cond.instanceMethod ⟨"GraphWriterModel", "tooLong", "()Z"⟩) ∈ wd_W := wd_mem 1049 (by decide +kernel) (by decide +kernel)
theorem wd_1050 : (Cond.code ⟨"GraphWriterModel", "tooLong", "()Z"⟩ prog_6_method_25_code 2 (some FieldType.boolean)) ∈ wd_W := wd_mem 1050 (by decide +kernel) (by decide +kernel)
theorem wd_1051 : (Cond.methodLink "GraphWriterLaw" 72 ⟨"GraphWriterModel", "reset", "()I"⟩) ∈ wd_W := wd_mem 1051 (by decide +kernel) (by decide +kernel)
theorem wd_1052 : (Cond.instanceMethod ⟨"GraphWriterModel", "reset", "()I"⟩) ∈ wd_W := wd_mem 1052 (by decide +kernel) (by decide +kernel)
theorem wd_1053 : (Cond.selects "GraphWriterModel" ⟨"GraphWriterModel", "reset", "()I"⟩ ⟨"GraphWriterModel", "reset", "()I"⟩) ∈ wd_W := wd_mem 1053 (by decide +kernel) (by decide +kernel)
theorem wd_1054 : (Cond.code ⟨"GraphWriterModel", "reset", "()I"⟩ prog_6_method_45_code 1 (some FieldType.int)) ∈ wd_W := wd_mem 1054 (by decide +kernel) (by decide +kernel)
theorem wd_1055 : (Cond.methodLink "GraphWriterLaw" 76 ⟨"GraphWriterModel", "byteAt", "(I)I"⟩) ∈ wd_W := wd_mem 1055 (by decide +kernel) (by decide +kernel)
theorem wd_1056 : (Cond.instanceMethod ⟨"GraphWriterModel", "byteAt", "(I)I"⟩) ∈ wd_W := wd_mem 1056 (by decide +kernel) (by decide +kernel)
theorem wd_1057 : (Cond.selects "GraphWriterModel" ⟨"GraphWriterModel", "byteAt", "(I)I"⟩ ⟨"GraphWriterModel", "byteAt", "(I)I"⟩) ∈ wd_W := wd_mem 1057 (by decide +kernel) (by decide +kernel)
theorem wd_1058 : (Cond.code ⟨"GraphWriterModel", "byteAt", "(I)I"⟩ prog_6_method_46_code 2 (some FieldType.int)) ∈ wd_W := wd_mem 1058 (by decide +kernel) (by decide +kernel)
theorem wd_1059 : (Cond.methodLink "GraphWriterLaw" 80 ⟨"GraphWriterModel", "handle", "(I)I"⟩) ∈ wd_W := wd_mem 1059 (by decide +kernel) (by decide +kernel)
theorem wd_1060 : (Cond.instanceMethod ⟨"GraphWriterModel", "handle", "(I)I"⟩) ∈ wd_W := wd_mem 1060 (by decide +kernel) (by decide +kernel)
theorem wd_1061 : (Cond.selects "GraphWriterModel" ⟨"GraphWriterModel", "handle", "(I)I"⟩ ⟨"GraphWriterModel", "handle", "(I)I"⟩) ∈ wd_W := wd_mem 1061 (by decide +kernel) (by decide +kernel)
theorem wd_1062 : (Cond.code ⟨"GraphWriterModel", "handle", "(I)I"⟩ prog_6_method_47_code 2 (some FieldType.int)) ∈ wd_W := wd_mem 1062 (by decide +kernel) (by decide +kernel)
theorem wd_1063 : (Cond.methodLink "GraphWriterLaw" 84 ⟨"GraphWriterModel", "count", "(I)I"⟩) ∈ wd_W := wd_mem 1063 (by decide +kernel) (by decide +kernel)
theorem wd_1064 : (Cond.instanceMethod ⟨"GraphWriterModel", "count", "(I)I"⟩) ∈ wd_W := wd_mem 1064 (by decide +kernel) (by decide +kernel)
theorem wd_1065 : (Cond.selects "GraphWriterModel" ⟨"GraphWriterModel", "count", "(I)I"⟩ ⟨"GraphWriterModel", "count", "(I)I"⟩) ∈ wd_W := wd_mem 1065 (by decide +kernel) (by decide +kernel)
theorem wd_1066 : (Cond.code ⟨"GraphWriterModel", "count", "(I)I"⟩ prog_6_method_48_code 4 (some FieldType.int)) ∈ wd_W := wd_mem 1066 (by decide +kernel) (by decide +kernel)
theorem wd_1067 : (Cond.methodLink "GraphWriterLaw" 88 ⟨"GraphWriterModel", "object", "(II)I"⟩) ∈ wd_W := wd_mem 1067 (by decide +kernel) (by decide +kernel)
theorem wd_1068 : (Cond.instanceMethod ⟨"GraphWriterModel", "object", "(II)I"⟩) ∈ wd_W := wd_mem 1068 (by decide +kernel) (by decide +kernel)
theorem wd_1069 : (Cond.selects "GraphWriterModel" ⟨"GraphWriterModel", "object", "(II)I"⟩ ⟨"GraphWriterModel", "object", "(II)I"⟩) ∈ wd_W := wd_mem 1069 (by decide +kernel) (by decide +kernel)
theorem wd_1070 : (Cond.code ⟨"GraphWriterModel", "object", "(II)I"⟩ prog_6_method_49_code 3 (some FieldType.int)) ∈ wd_W := wd_mem 1070 (by decide +kernel) (by decide +kernel)
theorem wd_1071 : (Cond.constantLong "GraphWriterLaw" 13 (4294967295 : Int64)) ∈ wd_W := wd_mem 1071 (by decide +kernel) (by decide +kernel)
theorem wd_1072 : (Cond.sameMethod "java/lang/AbstractStringBuilder" "java/lang/AbstractStringBuilder" "append" "(C)Ljava/lang/AbstractStringBuilder;") ∈ wd_W := wd_mem 1072 (by decide +kernel) (by decide +kernel)
theorem wd_1073 : (Cond.sameMethod "java/lang/AbstractStringBuilder" "java/lang/AbstractStringBuilder" "ensureCapacityInternal" "(I)V") ∈ wd_W := wd_mem 1073 (by decide +kernel) (by decide +kernel)
theorem wd_1074 : (Cond.sameMethod "java/lang/AbstractStringBuilder" "java/lang/AbstractStringBuilder" "newCapacity" "(I)I") ∈ wd_W := wd_mem 1074 (by decide +kernel) (by decide +kernel)
theorem wd_1075 : (Cond.sameMethod "java/lang/AbstractStringBuilder" "java/lang/AbstractStringBuilder" "inflate" "()V") ∈ wd_W := wd_mem 1075 (by decide +kernel) (by decide +kernel)
end
section
abbrev b_G_init : ByteArray := prog_1_method_1_code
abbrev y_G_init : MethodName := ⟨"GraphWriter", "<init>", "()V"⟩
abbrev c_G_init : Cond := .code y_G_init b_G_init 1 none
abbrev b_JO_init : ByteArray := object_method_1_code
abbrev y_JO_init : MethodName := ⟨"java/lang/Object", "<init>", "()V"⟩
abbrev c_JO_init : Cond := .code y_JO_init b_JO_init 1 none
abbrev b_O_init : ByteArray := prog_3_method_1_code
abbrev y_O_init : MethodName := ⟨"GraphWriter$Out", "<init>", "()V"⟩
abbrev c_O_init : Cond := .code y_O_init b_O_init 1 none
abbrev b_O_forgetHandles : ByteArray := prog_3_method_9_code
abbrev y_O_forgetHandles : MethodName := ⟨"GraphWriter$Out", "forgetHandles", "()V"⟩
abbrev c_O_forgetHandles : Cond := .code y_O_forgetHandles b_O_forgetHandles 1 none
abbrev b_JR_fill : ByteArray := prog_15_method_103_code
abbrev y_JR_fill : MethodName := ⟨"java/util/Arrays", "fill", "([II)V"⟩
abbrev c_JR_fill : Cond := .code y_JR_fill b_JR_fill 4 none
abbrev b_O_put : ByteArray := prog_3_method_5_code
abbrev y_O_put : MethodName := ⟨"GraphWriter$Out", "put", "(JI)V"⟩
abbrev c_O_put : Cond := .code y_O_put b_O_put 5 none
abbrev b_G_define : ByteArray := prog_1_method_2_code
abbrev y_G_define : MethodName := ⟨"GraphWriter", "define", "(IIIJ)I"⟩
abbrev c_G_define : Cond := .code y_G_define b_G_define 6 (some FieldType.int)
abbrev b_G_mayStandAbove : ByteArray := prog_1_method_22_code
abbrev y_G_mayStandAbove : MethodName := ⟨"GraphWriter", "mayStandAbove", "(II)Z"⟩
abbrev c_G_mayStandAbove : Cond := .code y_G_mayStandAbove b_G_mayStandAbove 4 (some FieldType.boolean)
abbrev b_G_isDefined : ByteArray := prog_1_method_18_code
abbrev y_G_isDefined : MethodName := ⟨"GraphWriter", "isDefined", "(I)Z"⟩
abbrev c_G_isDefined : Cond := .code y_G_isDefined b_G_isDefined 2 (some FieldType.boolean)
abbrev b_G_chainTo : ByteArray := prog_1_method_23_code
abbrev y_G_chainTo : MethodName := ⟨"GraphWriter", "chainTo", "(II)[I"⟩
abbrev c_G_chainTo : Cond := .code y_G_chainTo b_G_chainTo 5 (some (FieldType.array FieldType.int))
abbrev b_JR_copyOf1 : ByteArray := prog_15_method_123_code
abbrev y_JR_copyOf1 : MethodName := ⟨"java/util/Arrays", "copyOf", "([II)[I"⟩
abbrev c_JR_copyOf1 : Cond := .code y_JR_copyOf1 b_JR_copyOf1 3 (some (FieldType.array FieldType.int))
abbrev b_JM_min : ByteArray := prog_9_method_69_code
abbrev y_JM_min : MethodName := ⟨"java/lang/Math", "min", "(II)I"⟩
abbrev c_JM_min : Cond := .code y_JM_min b_JM_min 2 (some FieldType.int)
abbrev b_D_init : ByteArray := prog_2_method_1_code
abbrev y_D_init : MethodName := ⟨"GraphWriter$Defined", "<init>", "(IIJ[I)V"⟩
abbrev c_D_init : Cond := .code y_D_init b_D_init 6 none
abbrev b_JS_substring : ByteArray := prog_10_method_92_code
abbrev y_JS_substring : MethodName := ⟨"java/lang/String", "substring", "(II)Ljava/lang/String;"⟩
abbrev c_JS_substring : Cond := .code y_JS_substring b_JS_substring 5 (some (FieldType.object "java/lang/String"))
abbrev b_JS_length : ByteArray := prog_10_method_54_code
abbrev y_JS_length : MethodName := ⟨"java/lang/String", "length", "()I"⟩
abbrev c_JS_length : Cond := .code y_JS_length b_JS_length 1 (some FieldType.int)
abbrev b_JS_coder : ByteArray := prog_10_method_152_code
abbrev y_JS_coder : MethodName := ⟨"java/lang/String", "coder", "()B"⟩
abbrev c_JS_coder : Cond := .code y_JS_coder b_JS_coder 1 (some FieldType.byte)
abbrev b_JS_checkBoundsBeginEnd : ByteArray := prog_10_method_158_code
abbrev y_JS_checkBoundsBeginEnd : MethodName := ⟨"java/lang/String", "checkBoundsBeginEnd", "(III)V"⟩
abbrev c_JS_checkBoundsBeginEnd : Cond := .code y_JS_checkBoundsBeginEnd b_JS_checkBoundsBeginEnd 3 none
abbrev b_JC_checkFromToIndex : ByteArray := prog_17_method_12_code
abbrev y_JC_checkFromToIndex : MethodName := ⟨"jdk/internal/util/Preconditions", "checkFromToIndex", "(IIILjava/util/function/BiFunction;)I"⟩
abbrev c_JC_checkFromToIndex : Cond := .code y_JC_checkFromToIndex b_JC_checkFromToIndex 4 (some FieldType.int)
abbrev b_JS_isLatin1 : ByteArray := prog_10_method_154_code
abbrev y_JS_isLatin1 : MethodName := ⟨"java/lang/String", "isLatin1", "()Z"⟩
abbrev c_JS_isLatin1 : Cond := .code y_JS_isLatin1 b_JS_isLatin1 1 (some FieldType.boolean)
abbrev b_JL_newString : ByteArray := prog_12_method_47_code
abbrev y_JL_newString : MethodName := ⟨"java/lang/StringLatin1", "newString", "([BII)Ljava/lang/String;"⟩
abbrev c_JL_newString : Cond := .code y_JL_newString b_JL_newString 3 (some (FieldType.object "java/lang/String"))
abbrev b_JR_copyOfRange : ByteArray := prog_15_method_132_code
abbrev y_JR_copyOfRange : MethodName := ⟨"java/util/Arrays", "copyOfRange", "([BII)[B"⟩
abbrev c_JR_copyOfRange : Cond := .code y_JR_copyOfRange b_JR_copyOfRange 3 (some (FieldType.array FieldType.byte))
abbrev b_JR_copyOfRangeByte : ByteArray := prog_15_method_133_code
abbrev y_JR_copyOfRangeByte : MethodName := ⟨"java/util/Arrays", "copyOfRangeByte", "([BII)[B"⟩
abbrev c_JR_copyOfRangeByte : Cond := .code y_JR_copyOfRangeByte b_JR_copyOfRangeByte 5 (some (FieldType.array FieldType.byte))
abbrev b_JR_checkLength : ByteArray := prog_15_method_131_code
abbrev y_JR_checkLength : MethodName := ⟨"java/util/Arrays", "checkLength", "(II)V"⟩
abbrev c_JR_checkLength : Cond := .code y_JR_checkLength b_JR_checkLength 2 none
abbrev b_JS_init1 : ByteArray := prog_10_method_151_code
abbrev y_JS_init1 : MethodName := ⟨"java/lang/String", "<init>", "([BB)V"⟩
abbrev c_JS_init1 : Cond := .code y_JS_init1 b_JS_init1 3 none
abbrev b_JU_newString : ByteArray := prog_13_method_69_code
abbrev y_JU_newString : MethodName := ⟨"java/lang/StringUTF16", "newString", "([BII)Ljava/lang/String;"⟩
abbrev c_JU_newString : Cond := .code y_JU_newString b_JU_newString 5 (some (FieldType.object "java/lang/String"))
abbrev b_JU_compress1 : ByteArray := prog_13_method_17_code
abbrev y_JU_compress1 : MethodName := ⟨"java/lang/StringUTF16", "compress", "([BII)[B"⟩
abbrev c_JU_compress1 : Cond := .code y_JU_compress1 b_JU_compress1 6 (some (FieldType.array FieldType.byte))
abbrev b_JU_compress2 : ByteArray := prog_13_method_22_code
abbrev y_JU_compress2 : MethodName := ⟨"java/lang/StringUTF16", "compress", "([BI[BII)I"⟩
abbrev c_JU_compress2 : Cond := .code y_JU_compress2 b_JU_compress2 7 (some FieldType.int)
abbrev b_JU_checkBoundsOffCount : ByteArray := prog_13_method_94_code
abbrev y_JU_checkBoundsOffCount : MethodName := ⟨"java/lang/StringUTF16", "checkBoundsOffCount", "(II[B)V"⟩
abbrev c_JU_checkBoundsOffCount : Cond := .code y_JU_checkBoundsOffCount b_JU_checkBoundsOffCount 3 none
abbrev b_JU_length : ByteArray := prog_13_method_6_code
abbrev y_JU_length : MethodName := ⟨"java/lang/StringUTF16", "length", "([B)I"⟩
abbrev c_JU_length : Cond := .code y_JU_length b_JU_length 1 (some FieldType.int)
abbrev b_JS_checkBoundsOffCount : ByteArray := prog_10_method_157_code
abbrev y_JS_checkBoundsOffCount : MethodName := ⟨"java/lang/String", "checkBoundsOffCount", "(III)I"⟩
abbrev c_JS_checkBoundsOffCount : Cond := .code y_JS_checkBoundsOffCount b_JS_checkBoundsOffCount 3 (some FieldType.int)
abbrev b_JC_checkFromIndexSize : ByteArray := prog_17_method_13_code
abbrev y_JC_checkFromIndexSize : MethodName := ⟨"jdk/internal/util/Preconditions", "checkFromIndexSize", "(IIILjava/util/function/BiFunction;)I"⟩
abbrev c_JC_checkFromIndexSize : Cond := .code y_JC_checkFromIndexSize b_JC_checkFromIndexSize 4 (some FieldType.int)
abbrev b_JU_getChar : ByteArray := prog_13_method_5_code
abbrev y_JU_getChar : MethodName := ⟨"java/lang/StringUTF16", "getChar", "([BI)C"⟩
abbrev c_JU_getChar : Cond := .code y_JU_getChar b_JU_getChar 2 (some FieldType.char)
abbrev b_JU_newBytesLength : ByteArray := prog_13_method_3_code
abbrev y_JU_newBytesLength : MethodName := ⟨"java/lang/StringUTF16", "newBytesLength", "(I)I"⟩
abbrev c_JU_newBytesLength : Cond := .code y_JU_newBytesLength b_JU_newBytesLength 1 (some FieldType.int)
abbrev b_JU_coderFromArrayLen : ByteArray := prog_13_method_15_code
abbrev y_JU_coderFromArrayLen : MethodName := ⟨"java/lang/StringUTF16", "coderFromArrayLen", "([BI)B"⟩
abbrev c_JU_coderFromArrayLen : Cond := .code y_JU_coderFromArrayLen b_JU_coderFromArrayLen 2 (some FieldType.byte)
abbrev b_G_field : ByteArray := prog_1_method_3_code
abbrev y_G_field : MethodName := ⟨"GraphWriter", "field", "(IIIZ)I"⟩
abbrev c_G_field : Cond := .code y_G_field b_G_field 6 (some FieldType.int)
abbrev b_D_hasField : ByteArray := prog_2_method_3_code
abbrev y_D_hasField : MethodName := ⟨"GraphWriter$Defined", "hasField", "(I)Z"⟩
abbrev c_D_hasField : Cond := .code y_D_hasField b_D_hasField 3 (some FieldType.boolean)
abbrev b_D_addField : ByteArray := prog_2_method_4_code
abbrev y_D_addField : MethodName := ⟨"GraphWriter$Defined", "addField", "(IIZ)V"⟩
abbrev c_D_addField : Cond := .code y_D_addField b_D_addField 4 none
abbrev b_D_putInOrder : ByteArray := prog_2_method_5_code
abbrev y_D_putInOrder : MethodName := ⟨"GraphWriter$Defined", "putInOrder", "(I)V"⟩
abbrev c_D_putInOrder : Cond := .code y_D_putInOrder b_D_putInOrder 3 none
abbrev b_D_rank : ByteArray := prog_2_method_6_code
abbrev y_D_rank : MethodName := ⟨"GraphWriter$Defined", "rank", "(I)I"⟩
abbrev c_D_rank : Cond := .code y_D_rank b_D_rank 2 (some FieldType.int)
abbrev b_G_instance : ByteArray := prog_1_method_4_code
abbrev y_G_instance : MethodName := ⟨"GraphWriter", "instance", "(I)I"⟩
abbrev c_G_instance : Cond := .code y_G_instance b_G_instance 4 (some FieldType.int)
abbrev b_G_slotTypes : ByteArray := prog_1_method_24_code
abbrev y_G_slotTypes : MethodName := ⟨"GraphWriter", "slotTypes", "([I)[I"⟩
abbrev c_G_slotTypes : Cond := .code y_G_slotTypes b_G_slotTypes 7 (some (FieldType.array FieldType.int))
abbrev b_T_init : ByteArray := prog_4_method_1_code
abbrev y_T_init : MethodName := ⟨"GraphWriter$Thing", "<init>", "(II[ILjava/lang/String;)V"⟩
abbrev c_T_init : Cond := .code y_T_init b_T_init 6 none
abbrev b_G_keep : ByteArray := prog_1_method_26_code
abbrev y_G_keep : MethodName := ⟨"GraphWriter", "keep", "(LGraphWriter$Thing;)I"⟩
abbrev c_G_keep : Cond := .code y_G_keep b_G_keep 2 (some FieldType.int)
abbrev b_G_text : ByteArray := prog_1_method_5_code
abbrev y_G_text : MethodName := ⟨"GraphWriter", "text", "(J)I"⟩
abbrev c_G_text : Cond := .code y_G_text b_G_text 3 (some FieldType.int)
abbrev b_G_signsOf : ByteArray := prog_1_method_25_code
abbrev y_G_signsOf : MethodName := ⟨"GraphWriter", "signsOf", "(J)Ljava/lang/String;"⟩
abbrev c_G_signsOf : Cond := .code y_G_signsOf b_G_signsOf 5 (some (FieldType.object "java/lang/String"))
abbrev b_JB_init : ByteArray := prog_11_method_1_code
abbrev y_JB_init : MethodName := ⟨"java/lang/StringBuilder", "<init>", "()V"⟩
abbrev c_JB_init : Cond := .code y_JB_init b_JB_init 1 none
abbrev b_JA_init : ByteArray := prog_7_method_2_code
abbrev y_JA_init : MethodName := ⟨"java/lang/AbstractStringBuilder", "<init>", "(I)V"⟩
abbrev c_JA_init : Cond := .code y_JA_init b_JA_init 2 none
abbrev b_JU_newBytesFor : ByteArray := prog_13_method_2_code
abbrev y_JU_newBytesFor : MethodName := ⟨"java/lang/StringUTF16", "newBytesFor", "(I)[B"⟩
abbrev c_JU_newBytesFor : Cond := .code y_JU_newBytesFor b_JU_newBytesFor 1 (some (FieldType.array FieldType.byte))
abbrev b_JB_append : ByteArray := prog_11_method_14_code
abbrev y_JB_append : MethodName := ⟨"java/lang/StringBuilder", "append", "(C)Ljava/lang/StringBuilder;"⟩
abbrev c_JB_append : Cond := .code y_JB_append b_JB_append 2 (some (FieldType.object "java/lang/StringBuilder"))
abbrev b_JA_append : ByteArray := prog_7_method_31_code
abbrev y_JA_append : MethodName := ⟨"java/lang/AbstractStringBuilder", "append", "(C)Ljava/lang/AbstractStringBuilder;"⟩
abbrev c_JA_append : Cond := .code y_JA_append b_JA_append 2 (some (FieldType.object "java/lang/AbstractStringBuilder"))
abbrev b_JA_ensureCapacityInternal : ByteArray := prog_7_method_9_code
abbrev y_JA_ensureCapacityInternal : MethodName := ⟨"java/lang/AbstractStringBuilder", "ensureCapacityInternal", "(I)V"⟩
abbrev c_JA_ensureCapacityInternal : Cond := .code y_JA_ensureCapacityInternal b_JA_ensureCapacityInternal 3 none
abbrev b_JA_newCapacity : ByteArray := prog_7_method_10_code
abbrev y_JA_newCapacity : MethodName := ⟨"java/lang/AbstractStringBuilder", "newCapacity", "(I)I"⟩
abbrev c_JA_newCapacity : Cond := .code y_JA_newCapacity b_JA_newCapacity 6 (some FieldType.int)
abbrev b_JP_newLength : ByteArray := prog_16_method_27_code
abbrev y_JP_newLength : MethodName := ⟨"jdk/internal/util/ArraysSupport", "newLength", "(III)I"⟩
abbrev c_JP_newLength : Cond := .code y_JP_newLength b_JP_newLength 4 (some FieldType.int)
abbrev b_JM_max : ByteArray := prog_9_method_65_code
abbrev y_JM_max : MethodName := ⟨"java/lang/Math", "max", "(II)I"⟩
abbrev c_JM_max : Cond := .code y_JM_max b_JM_max 2 (some FieldType.int)
abbrev b_JP_hugeLength : ByteArray := prog_16_method_28_code
abbrev y_JP_hugeLength : MethodName := ⟨"jdk/internal/util/ArraysSupport", "hugeLength", "(II)I"⟩
abbrev c_JP_hugeLength : Cond := .code y_JP_hugeLength b_JP_hugeLength 3 (some FieldType.int)
abbrev b_JR_copyOf2 : ByteArray := prog_15_method_121_code
abbrev y_JR_copyOf2 : MethodName := ⟨"java/util/Arrays", "copyOf", "([BI)[B"⟩
abbrev c_JR_copyOf2 : Cond := .code y_JR_copyOf2 b_JR_copyOf2 3 (some (FieldType.array FieldType.byte))
abbrev b_JA_isLatin1 : ByteArray := prog_7_method_68_code
abbrev y_JA_isLatin1 : MethodName := ⟨"java/lang/AbstractStringBuilder", "isLatin1", "()Z"⟩
abbrev c_JA_isLatin1 : Cond := .code y_JA_isLatin1 b_JA_isLatin1 1 (some FieldType.boolean)
abbrev b_JL_canEncode : ByteArray := prog_12_method_3_code
abbrev y_JL_canEncode : MethodName := ⟨"java/lang/StringLatin1", "canEncode", "(C)Z"⟩
abbrev c_JL_canEncode : Cond := .code y_JL_canEncode b_JL_canEncode 1 (some FieldType.boolean)
abbrev b_JA_inflate : ByteArray := prog_7_method_11_code
abbrev y_JA_inflate : MethodName := ⟨"java/lang/AbstractStringBuilder", "inflate", "()V"⟩
abbrev c_JA_inflate : Cond := .code y_JA_inflate b_JA_inflate 2 none
abbrev b_JL_inflate : ByteArray := prog_12_method_50_code
abbrev y_JL_inflate : MethodName := ⟨"java/lang/StringLatin1", "inflate", "([BI[BII)V"⟩
abbrev c_JL_inflate : Cond := .code y_JL_inflate b_JL_inflate 5 none
abbrev b_JU_inflate : ByteArray := prog_13_method_86_code
abbrev y_JU_inflate : MethodName := ⟨"java/lang/StringUTF16", "inflate", "([BI[BII)V"⟩
abbrev c_JU_inflate : Cond := .code y_JU_inflate b_JU_inflate 6 none
abbrev b_JU_putChar : ByteArray := prog_13_method_4_code
abbrev y_JU_putChar : MethodName := ⟨"java/lang/StringUTF16", "putChar", "([BII)V"⟩
abbrev c_JU_putChar : Cond := .code y_JU_putChar b_JU_putChar 3 none
abbrev b_JU_putCharSB : ByteArray := prog_13_method_71_code
abbrev y_JU_putCharSB : MethodName := ⟨"java/lang/StringUTF16", "putCharSB", "([BII)V"⟩
abbrev c_JU_putCharSB : Cond := .code y_JU_putCharSB b_JU_putCharSB 3 none
abbrev b_JU_checkIndex : ByteArray := prog_13_method_91_code
abbrev y_JU_checkIndex : MethodName := ⟨"java/lang/StringUTF16", "checkIndex", "(I[B)V"⟩
abbrev c_JU_checkIndex : Cond := .code y_JU_checkIndex b_JU_checkIndex 2 none
abbrev b_JS_checkIndex : ByteArray := prog_10_method_155_code
abbrev y_JS_checkIndex : MethodName := ⟨"java/lang/String", "checkIndex", "(II)V"⟩
abbrev c_JS_checkIndex : Cond := .code y_JS_checkIndex b_JS_checkIndex 2 none
abbrev b_JC_checkIndex : ByteArray := prog_17_method_11_code
abbrev y_JC_checkIndex : MethodName := ⟨"jdk/internal/util/Preconditions", "checkIndex", "(IILjava/util/function/BiFunction;)I"⟩
abbrev c_JC_checkIndex : Cond := .code y_JC_checkIndex b_JC_checkIndex 3 (some FieldType.int)
abbrev b_JB_toString : ByteArray := prog_11_method_42_code
abbrev y_JB_toString : MethodName := ⟨"java/lang/StringBuilder", "toString", "()Ljava/lang/String;"⟩
abbrev c_JB_toString : Cond := .code y_JB_toString b_JB_toString 1 (some (FieldType.object "java/lang/String"))
abbrev b_JS_init2 : ByteArray := prog_10_method_53_code
abbrev y_JS_init2 : MethodName := ⟨"java/lang/String", "<init>", "(Ljava/lang/StringBuilder;)V"⟩
abbrev c_JS_init2 : Cond := .code y_JS_init2 b_JS_init2 2 none
abbrev b_JS_init3 : ByteArray := prog_10_method_150_code
abbrev y_JS_init3 : MethodName := ⟨"java/lang/String", "<init>", "(Ljava/lang/AbstractStringBuilder;Ljava/lang/Void;)V"⟩
abbrev c_JS_init3 : Cond := .code y_JS_init3 b_JS_init3 5 none
abbrev b_JA_getValue : ByteArray := prog_7_method_64_code
abbrev y_JA_getValue : MethodName := ⟨"java/lang/AbstractStringBuilder", "getValue", "()[B"⟩
abbrev c_JA_getValue : Cond := .code y_JA_getValue b_JA_getValue 1 (some (FieldType.array FieldType.byte))
abbrev b_JB_length : ByteArray := prog_11_method_93_code
abbrev y_JB_length : MethodName := ⟨"java/lang/StringBuilder", "length", "()I"⟩
abbrev c_JB_length : Cond := .code y_JB_length b_JB_length 1 (some FieldType.int)
abbrev b_JA_length : ByteArray := prog_7_method_6_code
abbrev y_JA_length : MethodName := ⟨"java/lang/AbstractStringBuilder", "length", "()I"⟩
abbrev c_JA_length : Cond := .code y_JA_length b_JA_length 1 (some FieldType.int)
abbrev b_G_array : ByteArray := prog_1_method_6_code
abbrev y_G_array : MethodName := ⟨"GraphWriter", "array", "(ZI)I"⟩
abbrev c_G_array : Cond := .code y_G_array b_G_array 4 (some FieldType.int)
abbrev b_G_constant : ByteArray := prog_1_method_7_code
abbrev y_G_constant : MethodName := ⟨"GraphWriter", "constant", "(II)I"⟩
abbrev c_G_constant : Cond := .code y_G_constant b_G_constant 4 (some FieldType.int)
abbrev b_G_set : ByteArray := prog_1_method_8_code
abbrev y_G_set : MethodName := ⟨"GraphWriter", "set", "(IIJ)I"⟩
abbrev c_G_set : Cond := .code y_G_set b_G_set 6 (some FieldType.int)
abbrev b_G_isMade : ByteArray := prog_1_method_19_code
abbrev y_G_isMade : MethodName := ⟨"GraphWriter", "isMade", "(I)Z"⟩
abbrev c_G_isMade : Cond := .code y_G_isMade b_G_isMade 2 (some FieldType.boolean)
abbrev b_G_mayBeHeld : ByteArray := prog_1_method_27_code
abbrev y_G_mayBeHeld : MethodName := ⟨"GraphWriter", "mayBeHeld", "(JI)Z"⟩
abbrev c_G_mayBeHeld : Cond := .code y_G_mayBeHeld b_G_mayBeHeld 4 (some FieldType.boolean)
abbrev b_G_replace : ByteArray := prog_1_method_9_code
abbrev y_G_replace : MethodName := ⟨"GraphWriter", "replace", "(II)I"⟩
abbrev c_G_replace : Cond := .code y_G_replace b_G_replace 3 (some FieldType.int)
abbrev b_G_isInstance : ByteArray := prog_1_method_20_code
abbrev y_G_isInstance : MethodName := ⟨"GraphWriter", "isInstance", "(I)Z"⟩
abbrev c_G_isInstance : Cond := .code y_G_isInstance b_G_isInstance 2 (some FieldType.boolean)
abbrev b_G_extra : ByteArray := prog_1_method_10_code
abbrev y_G_extra : MethodName := ⟨"GraphWriter", "extra", "(II)I"⟩
abbrev c_G_extra : Cond := .code y_G_extra b_G_extra 3 (some FieldType.int)
abbrev b_G_data : ByteArray := prog_1_method_11_code
abbrev y_G_data : MethodName := ⟨"GraphWriter", "data", "(JI)I"⟩
abbrev c_G_data : Cond := .code y_G_data b_G_data 4 (some FieldType.int)
abbrev b_O_hasRoomToWait : ByteArray := prog_3_method_15_code
abbrev y_O_hasRoomToWait : MethodName := ⟨"GraphWriter$Out", "hasRoomToWait", "(I)Z"⟩
abbrev c_O_hasRoomToWait : Cond := .code y_O_hasRoomToWait b_O_hasRoomToWait 3 (some FieldType.boolean)
abbrev b_O_letWait : ByteArray := prog_3_method_16_code
abbrev y_O_letWait : MethodName := ⟨"GraphWriter$Out", "letWait", "(JI)V"⟩
abbrev c_O_letWait : Cond := .code y_O_letWait b_O_letWait 5 none
abbrev b_O_flush : ByteArray := prog_3_method_17_code
abbrev y_O_flush : MethodName := ⟨"GraphWriter$Out", "flush", "()V"⟩
abbrev c_O_flush : Cond := .code y_O_flush b_O_flush 2 none
abbrev b_G_write : ByteArray := prog_1_method_12_code
abbrev y_G_write : MethodName := ⟨"GraphWriter", "write", "(IZ)I"⟩
abbrev c_G_write : Cond := .code y_G_write b_G_write 3 (some FieldType.int)
abbrev b_O_begin : ByteArray := prog_3_method_2_code
abbrev y_O_begin : MethodName := ⟨"GraphWriter$Out", "begin", "()V"⟩
abbrev c_O_begin : Cond := .code y_O_begin b_O_begin 1 none
abbrev b_G_writeObject : ByteArray := prog_1_method_28_code
abbrev y_G_writeObject : MethodName := ⟨"GraphWriter", "writeObject", "(IZI)V"⟩
abbrev c_G_writeObject : Cond := .code y_G_writeObject b_G_writeObject 5 none
abbrev b_G_replaced : ByteArray := prog_1_method_29_code
abbrev y_G_replaced : MethodName := ⟨"GraphWriter", "replaced", "(I)I"⟩
abbrev c_G_replaced : Cond := .code y_G_replaced b_G_replaced 6 (some FieldType.int)
abbrev b_O_putReference : ByteArray := prog_3_method_10_code
abbrev y_O_putReference : MethodName := ⟨"GraphWriter$Out", "putReference", "(I)Z"⟩
abbrev c_O_putReference : Cond := .code y_O_putReference b_O_putReference 2 (some FieldType.boolean)
abbrev b_O_putText : ByteArray := prog_3_method_11_code
abbrev y_O_putText : MethodName := ⟨"GraphWriter$Out", "putText", "(ILjava/lang/String;)V"⟩
abbrev c_O_putText : Cond := .code y_O_putText b_O_putText 3 none
abbrev b_O_giveHandle : ByteArray := prog_3_method_8_code
abbrev y_O_giveHandle : MethodName := ⟨"GraphWriter$Out", "giveHandle", "(I)V"⟩
abbrev c_O_giveHandle : Cond := .code y_O_giveHandle b_O_giveHandle 2 none
abbrev b_O_putUtf : ByteArray := prog_3_method_6_code
abbrev y_O_putUtf : MethodName := ⟨"GraphWriter$Out", "putUtf", "(Ljava/lang/String;)V"⟩
abbrev c_O_putUtf : Cond := .code y_O_putUtf b_O_putUtf 3 none
abbrev b_JS_charAt : ByteArray := prog_10_method_56_code
abbrev y_JS_charAt : MethodName := ⟨"java/lang/String", "charAt", "(I)C"⟩
abbrev c_JS_charAt : Cond := .code y_JS_charAt b_JS_charAt 2 (some FieldType.char)
abbrev b_JL_charAt : ByteArray := prog_12_method_2_code
abbrev y_JL_charAt : MethodName := ⟨"java/lang/StringLatin1", "charAt", "([BI)C"⟩
abbrev c_JL_charAt : Cond := .code y_JL_charAt b_JL_charAt 2 (some FieldType.char)
abbrev b_JU_charAt : ByteArray := prog_13_method_83_code
abbrev y_JU_charAt : MethodName := ⟨"java/lang/StringUTF16", "charAt", "([BI)C"⟩
abbrev c_JU_charAt : Cond := .code y_JU_charAt b_JU_charAt 2 (some FieldType.char)
abbrev b_G_writeInts : ByteArray := prog_1_method_30_code
abbrev y_G_writeInts : MethodName := ⟨"GraphWriter", "writeInts", "(I)V"⟩
abbrev c_G_writeInts : Cond := .code y_G_writeInts b_G_writeInts 4 none
abbrev b_O_openDescriptor : ByteArray := prog_3_method_12_code
abbrev y_O_openDescriptor : MethodName := ⟨"GraphWriter$Out", "openDescriptor", "(ILjava/lang/String;JII)Z"⟩
abbrev c_O_openDescriptor : Cond := .code y_O_openDescriptor b_O_openDescriptor 7 (some FieldType.boolean)
abbrev b_O_closeTopDescriptor : ByteArray := prog_3_method_13_code
abbrev y_O_closeTopDescriptor : MethodName := ⟨"GraphWriter$Out", "closeTopDescriptor", "()V"⟩
abbrev c_O_closeTopDescriptor : Cond := .code y_O_closeTopDescriptor b_O_closeTopDescriptor 1 none
abbrev b_G_writeRefs : ByteArray := prog_1_method_31_code
abbrev y_G_writeRefs : MethodName := ⟨"GraphWriter", "writeRefs", "(II)V"⟩
abbrev c_G_writeRefs : Cond := .code y_G_writeRefs b_G_writeRefs 5 none
abbrev b_G_writeConstant : ByteArray := prog_1_method_32_code
abbrev y_G_writeConstant : MethodName := ⟨"GraphWriter", "writeConstant", "(I)V"⟩
abbrev c_G_writeConstant : Cond := .code y_G_writeConstant b_G_writeConstant 3 none
abbrev b_G_writeDescriptor : ByteArray := prog_1_method_35_code
abbrev y_G_writeDescriptor : MethodName := ⟨"GraphWriter", "writeDescriptor", "(LGraphWriter$Defined;)V"⟩
abbrev c_G_writeDescriptor : Cond := .code y_G_writeDescriptor b_G_writeDescriptor 6 none
abbrev b_D_flags : ByteArray := prog_2_method_2_code
abbrev y_D_flags : MethodName := ⟨"GraphWriter$Defined", "flags", "()I"⟩
abbrev c_D_flags : Cond := .code y_D_flags b_D_flags 1 (some FieldType.int)
abbrev b_O_putSign : ByteArray := prog_3_method_7_code
abbrev y_O_putSign : MethodName := ⟨"GraphWriter$Out", "putSign", "(C)V"⟩
abbrev c_O_putSign : Cond := .code y_O_putSign b_O_putSign 2 none
abbrev b_G_writeInstance : ByteArray := prog_1_method_33_code
abbrev y_G_writeInstance : MethodName := ⟨"GraphWriter", "writeInstance", "(II)V"⟩
abbrev c_G_writeInstance : Cond := .code y_G_writeInstance b_G_writeInstance 8 none
abbrev b_O_abort : ByteArray := prog_3_method_14_code
abbrev y_O_abort : MethodName := ⟨"GraphWriter$Out", "abort", "(Ljava/lang/String;)V"⟩
abbrev c_O_abort : Cond := .code y_O_abort b_O_abort 2 none
abbrev b_G_writeParts : ByteArray := prog_1_method_34_code
abbrev y_G_writeParts : MethodName := ⟨"GraphWriter", "writeParts", "(LGraphWriter$Thing;LGraphWriter$Defined;II)V"⟩
abbrev c_G_writeParts : Cond := .code y_G_writeParts b_G_writeParts 10 none
abbrev b_O_settle : ByteArray := prog_3_method_3_code
abbrev y_O_settle : MethodName := ⟨"GraphWriter$Out", "settle", "()I"⟩
abbrev c_O_settle : Cond := .code y_O_settle b_O_settle 2 (some FieldType.int)
abbrev b_O_goBack : ByteArray := prog_3_method_4_code
abbrev y_O_goBack : MethodName := ⟨"GraphWriter$Out", "goBack", "()V"⟩
abbrev c_O_goBack : Cond := .code y_O_goBack b_O_goBack 1 none
abbrev b_G_reset : ByteArray := prog_1_method_13_code
abbrev y_G_reset : MethodName := ⟨"GraphWriter", "reset", "()I"⟩
abbrev c_G_reset : Cond := .code y_G_reset b_G_reset 1 (some FieldType.int)
abbrev b_G_byteAt : ByteArray := prog_1_method_14_code
abbrev y_G_byteAt : MethodName := ⟨"GraphWriter", "byteAt", "(I)I"⟩
abbrev c_G_byteAt : Cond := .code y_G_byteAt b_G_byteAt 2 (some FieldType.int)
abbrev b_G_handle : ByteArray := prog_1_method_15_code
abbrev y_G_handle : MethodName := ⟨"GraphWriter", "handle", "(I)I"⟩
abbrev c_G_handle : Cond := .code y_G_handle b_G_handle 2 (some FieldType.int)
abbrev b_G_count : ByteArray := prog_1_method_16_code
abbrev y_G_count : MethodName := ⟨"GraphWriter", "count", "(I)I"⟩
abbrev c_G_count : Cond := .code y_G_count b_G_count 2 (some FieldType.int)
abbrev b_G_definedClasses : ByteArray := prog_1_method_21_code
abbrev y_G_definedClasses : MethodName := ⟨"GraphWriter", "definedClasses", "()I"⟩
abbrev c_G_definedClasses : Cond := .code y_G_definedClasses b_G_definedClasses 3 (some FieldType.int)
abbrev b_G_object : ByteArray := prog_1_method_17_code
abbrev y_G_object : MethodName := ⟨"GraphWriter", "object", "(II)I"⟩
abbrev c_G_object : Cond := .code y_G_object b_G_object 4 (some FieldType.int)
abbrev b_M_init : ByteArray := prog_6_method_1_code
abbrev y_M_init : MethodName := ⟨"GraphWriterModel", "<init>", "()V"⟩
abbrev c_M_init : Cond := .code y_M_init b_M_init 1 none
abbrev b_M_append : ByteArray := prog_6_method_4_code
abbrev y_M_append : MethodName := ⟨"GraphWriterModel", "append", "(JI)V"⟩
abbrev c_M_append : Cond := .code y_M_append b_M_append 5 none
abbrev b_M_noHandles : ByteArray := prog_6_method_5_code
abbrev y_M_noHandles : MethodName := ⟨"GraphWriterModel", "noHandles", "()V"⟩
abbrev c_M_noHandles : Cond := .code y_M_noHandles b_M_noHandles 2 none
abbrev b_M_define : ByteArray := prog_6_method_9_code
abbrev y_M_define : MethodName := ⟨"GraphWriterModel", "define", "(IIIJ)I"⟩
abbrev c_M_define : Cond := .code y_M_define b_M_define 6 (some FieldType.int)
abbrev b_M_out : ByteArray := prog_6_method_2_code
abbrev y_M_out : MethodName := ⟨"GraphWriterModel", "out", "(II)Z"⟩
abbrev c_M_out : Cond := .code y_M_out b_M_out 3 (some FieldType.boolean)
abbrev b_M_noClass : ByteArray := prog_6_method_3_code
abbrev y_M_noClass : MethodName := ⟨"GraphWriterModel", "noClass", "(I)Z"⟩
abbrev c_M_noClass : Cond := .code y_M_noClass b_M_noClass 2 (some FieldType.boolean)
abbrev b_M_field : ByteArray := prog_6_method_11_code
abbrev y_M_field : MethodName := ⟨"GraphWriterModel", "field", "(IIIZ)I"⟩
abbrev c_M_field : Cond := .code y_M_field b_M_field 6 (some FieldType.int)
abbrev b_M_below : ByteArray := prog_6_method_10_code
abbrev y_M_below : MethodName := ⟨"GraphWriterModel", "below", "(II)Z"⟩
abbrev c_M_below : Cond := .code y_M_below b_M_below 5 (some FieldType.boolean)
abbrev b_M_instance : ByteArray := prog_6_method_16_code
abbrev y_M_instance : MethodName := ⟨"GraphWriterModel", "instance", "(I)I"⟩
abbrev c_M_instance : Cond := .code y_M_instance b_M_instance 4 (some FieldType.int)
abbrev b_M_firstSlot : ByteArray := prog_6_method_13_code
abbrev y_M_firstSlot : MethodName := ⟨"GraphWriterModel", "firstSlot", "(I)I"⟩
abbrev c_M_firstSlot : Cond := .code y_M_firstSlot b_M_firstSlot 5 (some FieldType.int)
abbrev b_M_begin : ByteArray := prog_6_method_12_code
abbrev y_M_begin : MethodName := ⟨"GraphWriterModel", "begin", "(II)I"⟩
abbrev c_M_begin : Cond := .code y_M_begin b_M_begin 4 (some FieldType.int)
abbrev b_M_slotType : ByteArray := prog_6_method_15_code
abbrev y_M_slotType : MethodName := ⟨"GraphWriterModel", "slotType", "(II)I"⟩
abbrev c_M_slotType : Cond := .code y_M_slotType b_M_slotType 4 (some FieldType.int)
abbrev b_M_holder : ByteArray := prog_6_method_14_code
abbrev y_M_holder : MethodName := ⟨"GraphWriterModel", "holder", "(II)I"⟩
abbrev c_M_holder : Cond := .code y_M_holder b_M_holder 5 (some FieldType.int)
abbrev b_M_text : ByteArray := prog_6_method_17_code
abbrev y_M_text : MethodName := ⟨"GraphWriterModel", "text", "(J)I"⟩
abbrev c_M_text : Cond := .code y_M_text b_M_text 7 (some FieldType.int)
abbrev b_M_array : ByteArray := prog_6_method_18_code
abbrev y_M_array : MethodName := ⟨"GraphWriterModel", "array", "(ZI)I"⟩
abbrev c_M_array : Cond := .code y_M_array b_M_array 5 (some FieldType.int)
abbrev b_M_constant : ByteArray := prog_6_method_19_code
abbrev y_M_constant : MethodName := ⟨"GraphWriterModel", "constant", "(II)I"⟩
abbrev c_M_constant : Cond := .code y_M_constant b_M_constant 4 (some FieldType.int)
abbrev b_M_set : ByteArray := prog_6_method_20_code
abbrev y_M_set : MethodName := ⟨"GraphWriterModel", "set", "(IIJ)I"⟩
abbrev c_M_set : Cond := .code y_M_set b_M_set 6 (some FieldType.int)
abbrev b_M_replace : ByteArray := prog_6_method_22_code
abbrev y_M_replace : MethodName := ⟨"GraphWriterModel", "replace", "(II)I"⟩
abbrev c_M_replace : Cond := .code y_M_replace b_M_replace 3 (some FieldType.int)
abbrev b_M_noInstance : ByteArray := prog_6_method_21_code
abbrev y_M_noInstance : MethodName := ⟨"GraphWriterModel", "noInstance", "(I)Z"⟩
abbrev c_M_noInstance : Cond := .code y_M_noInstance b_M_noInstance 2 (some FieldType.boolean)
abbrev b_M_extra : ByteArray := prog_6_method_23_code
abbrev y_M_extra : MethodName := ⟨"GraphWriterModel", "extra", "(II)I"⟩
abbrev c_M_extra : Cond := .code y_M_extra b_M_extra 3 (some FieldType.int)
abbrev b_M_data : ByteArray := prog_6_method_26_code
abbrev y_M_data : MethodName := ⟨"GraphWriterModel", "data", "(JI)I"⟩
abbrev c_M_data : Cond := .code y_M_data b_M_data 7 (some FieldType.int)
abbrev b_M_flush : ByteArray := prog_6_method_8_code
abbrev y_M_flush : MethodName := ⟨"GraphWriterModel", "flush", "()V"⟩
abbrev c_M_flush : Cond := .code y_M_flush b_M_flush 2 none
abbrev b_M_write : ByteArray := prog_6_method_44_code
abbrev y_M_write : MethodName := ⟨"GraphWriterModel", "write", "(IZ)I"⟩
abbrev c_M_write : Cond := .code y_M_write b_M_write 4 (some FieldType.int)
abbrev b_M_remember : ByteArray := prog_6_method_24_code
abbrev y_M_remember : MethodName := ⟨"GraphWriterModel", "remember", "()V"⟩
abbrev c_M_remember : Cond := .code y_M_remember b_M_remember 2 none
abbrev b_M_writeObject : ByteArray := prog_6_method_41_code
abbrev y_M_writeObject : MethodName := ⟨"GraphWriterModel", "writeObject", "(IZ)Z"⟩
abbrev c_M_writeObject : Cond := .code y_M_writeObject b_M_writeObject 5 (some FieldType.boolean)
abbrev b_M_standing : ByteArray := prog_6_method_37_code
abbrev y_M_standing : MethodName := ⟨"GraphWriterModel", "standing", "(I)I"⟩
abbrev c_M_standing : Cond := .code y_M_standing b_M_standing 6 (some FieldType.int)
abbrev b_M_refer : ByteArray := prog_6_method_7_code
abbrev y_M_refer : MethodName := ⟨"GraphWriterModel", "refer", "(I)V"⟩
abbrev c_M_refer : Cond := .code y_M_refer b_M_refer 2 none
abbrev b_M_give : ByteArray := prog_6_method_6_code
abbrev y_M_give : MethodName := ⟨"GraphWriterModel", "give", "(I)V"⟩
abbrev c_M_give : Cond := .code y_M_give b_M_give 2 none
abbrev b_M_writeArray : ByteArray := prog_6_method_39_code
abbrev y_M_writeArray : MethodName := ⟨"GraphWriterModel", "writeArray", "(I)V"⟩
abbrev c_M_writeArray : Cond := .code y_M_writeArray b_M_writeArray 4 none
abbrev b_M_arrayDescriptor : ByteArray := prog_6_method_36_code
abbrev y_M_arrayDescriptor : MethodName := ⟨"GraphWriterModel", "arrayDescriptor", "(Z)V"⟩
abbrev c_M_arrayDescriptor : Cond := .code y_M_arrayDescriptor b_M_arrayDescriptor 3 none
abbrev b_M_plainEnd : ByteArray := prog_6_method_33_code
abbrev y_M_plainEnd : MethodName := ⟨"GraphWriterModel", "plainEnd", "(II)V"⟩
abbrev c_M_plainEnd : Cond := .code y_M_plainEnd b_M_plainEnd 3 none
abbrev b_M_push : ByteArray := prog_6_method_27_code
abbrev y_M_push : MethodName := ⟨"GraphWriterModel", "push", "(III)V"⟩
abbrev c_M_push : Cond := .code y_M_push b_M_push 4 none
abbrev b_M_writeConstant : ByteArray := prog_6_method_40_code
abbrev y_M_writeConstant : MethodName := ⟨"GraphWriterModel", "writeConstant", "(I)V"⟩
abbrev c_M_writeConstant : Cond := .code y_M_writeConstant b_M_writeConstant 2 none
abbrev b_M_descriptor : ByteArray := prog_6_method_35_code
abbrev y_M_descriptor : MethodName := ⟨"GraphWriterModel", "descriptor", "(I)V"⟩
abbrev c_M_descriptor : Cond := .code y_M_descriptor b_M_descriptor 6 none
abbrev b_M_letter : ByteArray := prog_6_method_29_code
abbrev y_M_letter : MethodName := ⟨"GraphWriterModel", "letter", "(I)V"⟩
abbrev c_M_letter : Cond := .code y_M_letter b_M_letter 2 none
abbrev b_M_enumBase : ByteArray := prog_6_method_34_code
abbrev y_M_enumBase : MethodName := ⟨"GraphWriterModel", "enumBase", "()V"⟩
abbrev c_M_enumBase : Cond := .code y_M_enumBase b_M_enumBase 1 none
abbrev b_M_arrange : ByteArray := prog_6_method_30_code
abbrev y_M_arrange : MethodName := ⟨"GraphWriterModel", "arrange", "(I)I"⟩
abbrev c_M_arrange : Cond := .code y_M_arrange b_M_arrange 6 (some FieldType.int)
abbrev b_M_fieldEntry : ByteArray := prog_6_method_32_code
abbrev y_M_fieldEntry : MethodName := ⟨"GraphWriterModel", "fieldEntry", "(I)V"⟩
abbrev c_M_fieldEntry : Cond := .code y_M_fieldEntry b_M_fieldEntry 4 none
abbrev b_M_typeSigns : ByteArray := prog_6_method_31_code
abbrev y_M_typeSigns : MethodName := ⟨"GraphWriterModel", "typeSigns", "(I)V"⟩
abbrev c_M_typeSigns : Cond := .code y_M_typeSigns b_M_typeSigns 2 none
abbrev b_M_abort : ByteArray := prog_6_method_42_code
abbrev y_M_abort : MethodName := ⟨"GraphWriterModel", "abort", "(I)V"⟩
abbrev c_M_abort : Cond := .code y_M_abort b_M_abort 2 none
abbrev b_M_parts : ByteArray := prog_6_method_38_code
abbrev y_M_parts : MethodName := ⟨"GraphWriterModel", "parts", "(I)V"⟩
abbrev c_M_parts : Cond := .code y_M_parts b_M_parts 6 none
abbrev b_M_doOne : ByteArray := prog_6_method_43_code
abbrev y_M_doOne : MethodName := ⟨"GraphWriterModel", "doOne", "()Z"⟩
abbrev c_M_doOne : Cond := .code y_M_doOne b_M_doOne 6 (some FieldType.boolean)
abbrev b_M_width : ByteArray := prog_6_method_28_code
abbrev y_M_width : MethodName := ⟨"GraphWriterModel", "width", "(I)I"⟩
abbrev c_M_width : Cond := .code y_M_width b_M_width 2 (some FieldType.int)
abbrev b_M_tooLong : ByteArray := prog_6_method_25_code
abbrev y_M_tooLong : MethodName := ⟨"GraphWriterModel", "tooLong", "()Z"⟩
abbrev c_M_tooLong : Cond := .code y_M_tooLong b_M_tooLong 2 (some FieldType.boolean)
abbrev b_M_reset : ByteArray := prog_6_method_45_code
abbrev y_M_reset : MethodName := ⟨"GraphWriterModel", "reset", "()I"⟩
abbrev c_M_reset : Cond := .code y_M_reset b_M_reset 1 (some FieldType.int)
abbrev b_M_byteAt : ByteArray := prog_6_method_46_code
abbrev y_M_byteAt : MethodName := ⟨"GraphWriterModel", "byteAt", "(I)I"⟩
abbrev c_M_byteAt : Cond := .code y_M_byteAt b_M_byteAt 2 (some FieldType.int)
abbrev b_M_handle : ByteArray := prog_6_method_47_code
abbrev y_M_handle : MethodName := ⟨"GraphWriterModel", "handle", "(I)I"⟩
abbrev c_M_handle : Cond := .code y_M_handle b_M_handle 2 (some FieldType.int)
abbrev b_M_count : ByteArray := prog_6_method_48_code
abbrev y_M_count : MethodName := ⟨"GraphWriterModel", "count", "(I)I"⟩
abbrev c_M_count : Cond := .code y_M_count b_M_count 4 (some FieldType.int)
abbrev b_M_object : ByteArray := prog_6_method_49_code
abbrev y_M_object : MethodName := ⟨"GraphWriterModel", "object", "(II)I"⟩
abbrev c_M_object : Cond := .code y_M_object b_M_object 3 (some FieldType.int)
def F_G : u_T := fun k => match k with
  | 0 => ("GraphWriter", "classes", "[LGraphWriter$Defined;", true)
  | 1 => ("GraphWriter", "things", "[LGraphWriter$Thing;", true)
  | 2 => ("GraphWriter", "out", "LGraphWriter$Out;", true)
  | _ => ("GraphWriter", "made", "I", false)
def ft_G : Nat → FieldType := fun k => match k with
  | 0 => .array (.object "GraphWriter$Defined")
  | 1 => .array (.object "GraphWriter$Thing")
  | 2 => .object "GraphWriter$Out"
  | _ => .int
theorem nm_G : ∀ a, a < 4 → ∀ b, b < 4 → a ≠ b → (F_G a).2.1 ≠ (F_G b).2.1 := by decide +kernel
theorem to_G : ∀ k, k < 4 → parseFieldDescriptor (F_G k).2.2.1 = some (ft_G k) := by decide +kernel
theorem in_G : ∀ w ∈ u_ws "GraphWriter" F_G 4, w ∈ wd_W := by
  intro w hw
  obtain ⟨k, hk, rfl⟩ := List.mem_map.mp hw
  have hk := List.mem_range.mp hk
  match k, hk with
  | 0, _ => exact wd_144
  | 1, _ => exact wd_146
  | 2, _ => exact wd_148
  | 3, _ => exact wd_150
  | k + 4, h => exact absurd h (by omega)
def F_O : u_T := fun k => match k with
  | 0 => ("GraphWriter$Out", "bytes", "[B", true)
  | 1 => ("GraphWriter$Out", "waiting", "[B", true)
  | 2 => ("GraphWriter$Out", "last", "[I", true)
  | 3 => ("GraphWriter$Out", "length", "I", false)
  | 4 => ("GraphWriter$Out", "waits", "I", false)
  | 5 => ("GraphWriter$Out", "handles", "I", false)
  | 6 => ("GraphWriter$Out", "outcome", "I", false)
  | 7 => ("GraphWriter$Out", "lastBefore", "[I", true)
  | 8 => ("GraphWriter$Out", "lengthBefore", "I", false)
  | 9 => ("GraphWriter$Out", "waitsBefore", "I", false)
  | _ => ("GraphWriter$Out", "handlesBefore", "I", false)
def ft_O : Nat → FieldType := fun k => match k with
  | 0 => .array .byte
  | 1 => .array .byte
  | 2 => .array .int
  | 3 => .int
  | 4 => .int
  | 5 => .int
  | 6 => .int
  | 7 => .array .int
  | 8 => .int
  | 9 => .int
  | _ => .int
theorem nm_O : ∀ a, a < 11 → ∀ b, b < 11 → a ≠ b → (F_O a).2.1 ≠ (F_O b).2.1 := by decide +kernel
theorem to_O : ∀ k, k < 11 → parseFieldDescriptor (F_O k).2.2.1 = some (ft_O k) := by decide +kernel
theorem in_O : ∀ w ∈ u_ws "GraphWriter$Out" F_O 11, w ∈ wd_W := by
  intro w hw
  obtain ⟨k, hk, rfl⟩ := List.mem_map.mp hw
  have hk := List.mem_range.mp hk
  match k, hk with
  | 0, _ => exact wd_103
  | 1, _ => exact wd_105
  | 2, _ => exact wd_107
  | 3, _ => exact wd_109
  | 4, _ => exact wd_111
  | 5, _ => exact wd_113
  | 6, _ => exact wd_115
  | 7, _ => exact wd_117
  | 8, _ => exact wd_119
  | 9, _ => exact wd_121
  | 10, _ => exact wd_123
  | k + 11, h => exact absurd h (by omega)
def F_D : u_T := fun k => match k with
  | 0 => ("GraphWriter$Defined", "number", "I", true)
  | 1 => ("GraphWriter$Defined", "kind", "I", true)
  | 2 => ("GraphWriter$Defined", "id", "J", true)
  | 3 => ("GraphWriter$Defined", "sign", "Ljava/lang/String;", true)
  | 4 => ("GraphWriter$Defined", "chain", "[I", true)
  | 5 => ("GraphWriter$Defined", "names", "[I", true)
  | 6 => ("GraphWriter$Defined", "types", "[I", true)
  | 7 => ("GraphWriter$Defined", "order", "[I", true)
  | 8 => ("GraphWriter$Defined", "fields", "I", false)
  | 9 => ("GraphWriter$Defined", "shown", "I", false)
  | _ => ("GraphWriter$Defined", "used", "Z", false)
def ft_D : Nat → FieldType := fun k => match k with
  | 0 => .int
  | 1 => .int
  | 2 => .long
  | 3 => .object "java/lang/String"
  | 4 => .array .int
  | 5 => .array .int
  | 6 => .array .int
  | 7 => .array .int
  | 8 => .int
  | 9 => .int
  | _ => .boolean
theorem nm_D : ∀ a, a < 11 → ∀ b, b < 11 → a ≠ b → (F_D a).2.1 ≠ (F_D b).2.1 := by decide +kernel
theorem to_D : ∀ k, k < 11 → parseFieldDescriptor (F_D k).2.2.1 = some (ft_D k) := by decide +kernel
theorem in_D : ∀ w ∈ u_ws "GraphWriter$Defined" F_D 11, w ∈ wd_W := by
  intro w hw
  obtain ⟨k, hk, rfl⟩ := List.mem_map.mp hw
  have hk := List.mem_range.mp hk
  match k, hk with
  | 0, _ => exact wd_315
  | 1, _ => exact wd_317
  | 2, _ => exact wd_319
  | 3, _ => exact wd_321
  | 4, _ => exact wd_323
  | 5, _ => exact wd_325
  | 6, _ => exact wd_327
  | 7, _ => exact wd_329
  | 8, _ => exact wd_331
  | 9, _ => exact wd_333
  | 10, _ => exact wd_335
  | k + 11, h => exact absurd h (by omega)
def F_T : u_T := fun k => match k with
  | 0 => ("GraphWriter$Thing", "sort", "I", true)
  | 1 => ("GraphWriter$Thing", "owner", "I", true)
  | 2 => ("GraphWriter$Thing", "types", "[I", true)
  | 3 => ("GraphWriter$Thing", "values", "[J", true)
  | 4 => ("GraphWriter$Thing", "text", "Ljava/lang/String;", true)
  | 5 => ("GraphWriter$Thing", "replacement", "I", false)
  | _ => ("GraphWriter$Thing", "extra", "I", false)
def ft_T : Nat → FieldType := fun k => match k with
  | 0 => .int
  | 1 => .int
  | 2 => .array .int
  | 3 => .array .long
  | 4 => .object "java/lang/String"
  | 5 => .int
  | _ => .int
theorem nm_T : ∀ a, a < 7 → ∀ b, b < 7 → a ≠ b → (F_T a).2.1 ≠ (F_T b).2.1 := by decide +kernel
theorem to_T : ∀ k, k < 7 → parseFieldDescriptor (F_T k).2.2.1 = some (ft_T k) := by decide +kernel
theorem in_T : ∀ w ∈ u_ws "GraphWriter$Thing" F_T 7, w ∈ wd_W := by
  intro w hw
  obtain ⟨k, hk, rfl⟩ := List.mem_map.mp hw
  have hk := List.mem_range.mp hk
  match k, hk with
  | 0, _ => exact wd_387
  | 1, _ => exact wd_389
  | 2, _ => exact wd_391
  | 3, _ => exact wd_393
  | 4, _ => exact wd_395
  | 5, _ => exact wd_397
  | 6, _ => exact wd_399
  | k + 7, h => exact absurd h (by omega)
def F_M : u_T := fun k => match k with
  | 0 => ("GraphWriterModel", "defined", "[Z", true)
  | 1 => ("GraphWriterModel", "kind", "[I", true)
  | 2 => ("GraphWriterModel", "above", "[I", true)
  | 3 => ("GraphWriterModel", "id", "[J", true)
  | 4 => ("GraphWriterModel", "fields", "[I", true)
  | 5 => ("GraphWriterModel", "fName", "[I", true)
  | 6 => ("GraphWriterModel", "fType", "[I", true)
  | 7 => ("GraphWriterModel", "fSkip", "[Z", true)
  | 8 => ("GraphWriterModel", "sort", "[I", true)
  | 9 => ("GraphWriterModel", "classOf", "[I", true)
  | 10 => ("GraphWriterModel", "nameOf", "[I", true)
  | 11 => ("GraphWriterModel", "size", "[I", true)
  | 12 => ("GraphWriterModel", "value", "[J", true)
  | 13 => ("GraphWriterModel", "standIn", "[I", true)
  | 14 => ("GraphWriterModel", "extras", "[I", true)
  | 15 => ("GraphWriterModel", "objects", "I", false)
  | 16 => ("GraphWriterModel", "stream", "[I", true)
  | 17 => ("GraphWriterModel", "length", "I", false)
  | 18 => ("GraphWriterModel", "waiting", "[I", true)
  | 19 => ("GraphWriterModel", "waits", "I", false)
  | 20 => ("GraphWriterModel", "handles", "[I", true)
  | 21 => ("GraphWriterModel", "given", "I", false)
  | 22 => ("GraphWriterModel", "todo", "[I", true)
  | 23 => ("GraphWriterModel", "todoOf", "[I", true)
  | 24 => ("GraphWriterModel", "todoWith", "[I", true)
  | 25 => ("GraphWriterModel", "left", "I", false)
  | 26 => ("GraphWriterModel", "order", "[I", true)
  | 27 => ("GraphWriterModel", "oldHandles", "[I", true)
  | 28 => ("GraphWriterModel", "oldLength", "I", false)
  | 29 => ("GraphWriterModel", "oldWaits", "I", false)
  | _ => ("GraphWriterModel", "oldGiven", "I", false)
def ft_M : Nat → FieldType := fun k => match k with
  | 0 => .array .boolean
  | 1 => .array .int
  | 2 => .array .int
  | 3 => .array .long
  | 4 => .array .int
  | 5 => .array .int
  | 6 => .array .int
  | 7 => .array .boolean
  | 8 => .array .int
  | 9 => .array .int
  | 10 => .array .int
  | 11 => .array .int
  | 12 => .array .long
  | 13 => .array .int
  | 14 => .array .int
  | 15 => .int
  | 16 => .array .int
  | 17 => .int
  | 18 => .array .int
  | 19 => .int
  | 20 => .array .int
  | 21 => .int
  | 22 => .array .int
  | 23 => .array .int
  | 24 => .array .int
  | 25 => .int
  | 26 => .array .int
  | 27 => .array .int
  | 28 => .int
  | 29 => .int
  | _ => .int
theorem nm_M : ∀ a, a < 31 → ∀ b, b < 31 → a ≠ b → (F_M a).2.1 ≠ (F_M b).2.1 := by decide +kernel
theorem to_M : ∀ k, k < 31 → parseFieldDescriptor (F_M k).2.2.1 = some (ft_M k) := by decide +kernel
theorem in_M : ∀ w ∈ u_ws "GraphWriterModel" F_M 31, w ∈ wd_W := by
  intro w hw
  obtain ⟨k, hk, rfl⟩ := List.mem_map.mp hw
  have hk := List.mem_range.mp hk
  match k, hk with
  | 0, _ => exact wd_785
  | 1, _ => exact wd_787
  | 2, _ => exact wd_789
  | 3, _ => exact wd_791
  | 4, _ => exact wd_793
  | 5, _ => exact wd_795
  | 6, _ => exact wd_797
  | 7, _ => exact wd_799
  | 8, _ => exact wd_801
  | 9, _ => exact wd_803
  | 10, _ => exact wd_805
  | 11, _ => exact wd_807
  | 12, _ => exact wd_809
  | 13, _ => exact wd_811
  | 14, _ => exact wd_813
  | 15, _ => exact wd_815
  | 16, _ => exact wd_817
  | 17, _ => exact wd_819
  | 18, _ => exact wd_821
  | 19, _ => exact wd_823
  | 20, _ => exact wd_825
  | 21, _ => exact wd_827
  | 22, _ => exact wd_829
  | 23, _ => exact wd_831
  | 24, _ => exact wd_833
  | 25, _ => exact wd_835
  | 26, _ => exact wd_837
  | 27, _ => exact wd_839
  | 28, _ => exact wd_841
  | 29, _ => exact wd_843
  | 30, _ => exact wd_845
  | k + 31, h => exact absurd h (by omega)
def F_JS : u_T := fun k => match k with
  | 0 => ("java/lang/String", "value", "[B", true)
  | 1 => ("java/lang/String", "coder", "B", true)
  | 2 => ("java/lang/String", "hash", "I", false)
  | _ => ("java/lang/String", "hashIsZero", "Z", false)
def ft_JS : Nat → FieldType := fun k => match k with
  | 0 => .array .byte
  | 1 => .byte
  | 2 => .int
  | _ => .boolean
theorem nm_JS : ∀ a, a < 4 → ∀ b, b < 4 → a ≠ b → (F_JS a).2.1 ≠ (F_JS b).2.1 := by decide +kernel
theorem to_JS : ∀ k, k < 4 → parseFieldDescriptor (F_JS k).2.2.1 = some (ft_JS k) := by decide +kernel
theorem in_JS : ∀ w ∈ u_ws "java/lang/String" F_JS 4, w ∈ wd_W := by
  intro w hw
  obtain ⟨k, hk, rfl⟩ := List.mem_map.mp hw
  have hk := List.mem_range.mp hk
  match k, hk with
  | 0, _ => exact wd_243
  | 1, _ => exact wd_245
  | 2, _ => exact wd_247
  | 3, _ => exact wd_249
  | k + 4, h => exact absurd h (by omega)
def F_JB : u_T := fun k => match k with
  | 0 => ("java/lang/AbstractStringBuilder", "value", "[B", false)
  | 1 => ("java/lang/AbstractStringBuilder", "coder", "B", false)
  | 2 => ("java/lang/AbstractStringBuilder", "maybeLatin1", "Z", false)
  | _ => ("java/lang/AbstractStringBuilder", "count", "I", false)
def ft_JB : Nat → FieldType := fun k => match k with
  | 0 => .array .byte
  | 1 => .byte
  | 2 => .boolean
  | _ => .int
theorem nm_JB : ∀ a, a < 4 → ∀ b, b < 4 → a ≠ b → (F_JB a).2.1 ≠ (F_JB b).2.1 := by decide +kernel
theorem to_JB : ∀ k, k < 4 → parseFieldDescriptor (F_JB k).2.2.1 = some (ft_JB k) := by decide +kernel
theorem in_JB : ∀ w ∈ u_ws "java/lang/StringBuilder" F_JB 4, w ∈ wd_W := by
  intro w hw
  obtain ⟨k, hk, rfl⟩ := List.mem_map.mp hw
  have hk := List.mem_range.mp hk
  match k, hk with
  | 0, _ => exact wd_432
  | 1, _ => exact wd_434
  | 2, _ => exact wd_436
  | 3, _ => exact wd_438
  | k + 4, h => exact absurd h (by omega)
abbrev cls9 : List vw_C := [("GraphWriter", F_G, 4), ("GraphWriter$Out", F_O, 11), ("GraphWriter$Defined", F_D, 11), ("GraphWriter$Thing", F_T, 7), ("GraphWriterModel", F_M, 31), ("java/lang/String", F_JS, 4), ("java/lang/StringBuilder", F_JB, 4)]
end
section
theorem d_G_init_0 : decode b_G_init 0 = .ok (.aload_n 0, 1) := by decide +kernel
theorem d_G_init_1 : decode b_G_init 1 = .ok (.invokespecial 3, 3) := by decide +kernel
theorem d_G_init_4 : decode b_G_init 4 = .ok (.aload_n 0, 1) := by decide +kernel
theorem d_G_init_5 : decode b_G_init 5 = .ok (.bipush 6, 2) := by decide +kernel
theorem d_G_init_7 : decode b_G_init 7 = .ok (.anewarray 9, 3) := by decide +kernel
theorem d_G_init_10 : decode b_G_init 10 = .ok (.putfield 11, 3) := by decide +kernel
theorem d_G_init_13 : decode b_G_init 13 = .ok (.aload_n 0, 1) := by decide +kernel
theorem d_G_init_14 : decode b_G_init 14 = .ok (.bipush 12, 2) := by decide +kernel
theorem d_G_init_16 : decode b_G_init 16 = .ok (.anewarray 15, 3) := by decide +kernel
theorem d_G_init_19 : decode b_G_init 19 = .ok (.putfield 17, 3) := by decide +kernel
theorem d_G_init_22 : decode b_G_init 22 = .ok (.aload_n 0, 1) := by decide +kernel
theorem d_G_init_23 : decode b_G_init 23 = .ok (.new 21, 3) := by decide +kernel
theorem d_G_init_26 : decode b_G_init 26 = .ok (.dup, 1) := by decide +kernel
theorem d_G_init_27 : decode b_G_init 27 = .ok (.invokespecial 23, 3) := by decide +kernel
theorem d_G_init_30 : decode b_G_init 30 = .ok (.putfield 24, 3) := by decide +kernel
theorem d_G_init_33 : decode b_G_init 33 = .ok (.aload_n 0, 1) := by decide +kernel
theorem d_G_init_34 : decode b_G_init 34 = .ok (.getfield 24, 3) := by decide +kernel
theorem d_G_init_37 : decode b_G_init 37 = .ok (.invokevirtual 28, 3) := by decide +kernel
theorem d_G_init_40 : decode b_G_init 40 = .ok (.aload_n 0, 1) := by decide +kernel
theorem d_G_init_41 : decode b_G_init 41 = .ok (.getfield 24, 3) := by decide +kernel
theorem d_G_init_44 : decode b_G_init 44 = .ok (.ldc2_w 31, 3) := by decide +kernel
theorem d_G_init_47 : decode b_G_init 47 = .ok (.iconst 4, 1) := by decide +kernel
theorem d_G_init_48 : decode b_G_init 48 = .ok (.invokevirtual 33, 3) := by decide +kernel
theorem d_G_init_51 : decode b_G_init 51 = .ok (.return_, 1) := by decide +kernel
theorem d_JO_init_0 : decode b_JO_init 0 = .ok (.return_, 1) := by decide +kernel
theorem d_O_init_0 : decode b_O_init 0 = .ok (.aload_n 0, 1) := by decide +kernel
theorem d_O_init_1 : decode b_O_init 1 = .ok (.invokespecial 3, 3) := by decide +kernel
theorem d_O_init_4 : decode b_O_init 4 = .ok (.aload_n 0, 1) := by decide +kernel
theorem d_O_init_5 : decode b_O_init 5 = .ok (.sipush 1400, 3) := by decide +kernel
theorem d_O_init_8 : decode b_O_init 8 = .ok (.newarray .byte, 2) := by decide +kernel
theorem d_O_init_10 : decode b_O_init 10 = .ok (.putfield 9, 3) := by decide +kernel
theorem d_O_init_13 : decode b_O_init 13 = .ok (.aload_n 0, 1) := by decide +kernel
theorem d_O_init_14 : decode b_O_init 14 = .ok (.sipush 255, 3) := by decide +kernel
theorem d_O_init_17 : decode b_O_init 17 = .ok (.newarray .byte, 2) := by decide +kernel
theorem d_O_init_19 : decode b_O_init 19 = .ok (.putfield 15, 3) := by decide +kernel
theorem d_O_init_22 : decode b_O_init 22 = .ok (.aload_n 0, 1) := by decide +kernel
theorem d_O_init_23 : decode b_O_init 23 = .ok (.bipush 35, 2) := by decide +kernel
theorem d_O_init_25 : decode b_O_init 25 = .ok (.newarray .int, 2) := by decide +kernel
theorem d_O_init_27 : decode b_O_init 27 = .ok (.putfield 18, 3) := by decide +kernel
theorem d_O_init_30 : decode b_O_init 30 = .ok (.aload_n 0, 1) := by decide +kernel
theorem d_O_init_31 : decode b_O_init 31 = .ok (.iconst 0, 1) := by decide +kernel
theorem d_O_init_32 : decode b_O_init 32 = .ok (.putfield 22, 3) := by decide +kernel
theorem d_O_init_35 : decode b_O_init 35 = .ok (.aload_n 0, 1) := by decide +kernel
theorem d_O_init_36 : decode b_O_init 36 = .ok (.bipush 35, 2) := by decide +kernel
theorem d_O_init_38 : decode b_O_init 38 = .ok (.newarray .int, 2) := by decide +kernel
theorem d_O_init_40 : decode b_O_init 40 = .ok (.putfield 26, 3) := by decide +kernel
theorem d_O_init_43 : decode b_O_init 43 = .ok (.return_, 1) := by decide +kernel
theorem d_O_forgetHandles_0 : decode b_O_forgetHandles 0 = .ok (.aload_n 0, 1) := by decide +kernel
theorem d_O_forgetHandles_1 : decode b_O_forgetHandles 1 = .ok (.getfield 18, 3) := by decide +kernel
theorem d_O_forgetHandles_4 : decode b_O_forgetHandles 4 = .ok (.iconst (-1), 1) := by decide +kernel
theorem d_O_forgetHandles_5 : decode b_O_forgetHandles 5 = .ok (.invokestatic 72, 3) := by decide +kernel
theorem d_O_forgetHandles_8 : decode b_O_forgetHandles 8 = .ok (.aload_n 0, 1) := by decide +kernel
theorem d_O_forgetHandles_9 : decode b_O_forgetHandles 9 = .ok (.iconst 0, 1) := by decide +kernel
theorem d_O_forgetHandles_10 : decode b_O_forgetHandles 10 = .ok (.putfield 47, 3) := by decide +kernel
theorem d_O_forgetHandles_13 : decode b_O_forgetHandles 13 = .ok (.return_, 1) := by decide +kernel
theorem d_JR_fill_0 : decode b_JR_fill 0 = .ok (.iconst 0, 1) := by decide +kernel
theorem d_JR_fill_1 : decode b_JR_fill 1 = .ok (.istore_n 2, 1) := by decide +kernel
theorem d_JR_fill_2 : decode b_JR_fill 2 = .ok (.aload_n 0, 1) := by decide +kernel
theorem d_JR_fill_3 : decode b_JR_fill 3 = .ok (.arraylength, 1) := by decide +kernel
theorem d_JR_fill_4 : decode b_JR_fill 4 = .ok (.istore_n 3, 1) := by decide +kernel
theorem d_JR_fill_5 : decode b_JR_fill 5 = .ok (.iload_n 2, 1) := by decide +kernel
theorem d_JR_fill_6 : decode b_JR_fill 6 = .ok (.iload_n 3, 1) := by decide +kernel
theorem d_JR_fill_7 : decode b_JR_fill 7 = .ok (.if_icmp .ge 13, 3) := by decide +kernel
theorem d_JR_fill_10 : decode b_JR_fill 10 = .ok (.aload_n 0, 1) := by decide +kernel
theorem d_JR_fill_11 : decode b_JR_fill 11 = .ok (.iload_n 2, 1) := by decide +kernel
theorem d_JR_fill_12 : decode b_JR_fill 12 = .ok (.iload_n 1, 1) := by decide +kernel
theorem d_JR_fill_13 : decode b_JR_fill 13 = .ok (.iastore, 1) := by decide +kernel
theorem d_JR_fill_14 : decode b_JR_fill 14 = .ok (.iinc 2 1, 3) := by decide +kernel
theorem d_JR_fill_17 : decode b_JR_fill 17 = .ok (.goto (-12), 3) := by decide +kernel
theorem d_JR_fill_20 : decode b_JR_fill 20 = .ok (.return_, 1) := by decide +kernel
theorem d_O_put_0 : decode b_O_put 0 = .ok (.aload_n 0, 1) := by decide +kernel
theorem d_O_put_1 : decode b_O_put 1 = .ok (.getfield 22, 3) := by decide +kernel
theorem d_O_put_4 : decode b_O_put 4 = .ok (.ifCond .ne 21, 3) := by decide +kernel
theorem d_O_put_7 : decode b_O_put 7 = .ok (.aload_n 0, 1) := by decide +kernel
theorem d_O_put_8 : decode b_O_put 8 = .ok (.getfield 35, 3) := by decide +kernel
theorem d_O_put_11 : decode b_O_put 11 = .ok (.iload_n 3, 1) := by decide +kernel
theorem d_O_put_12 : decode b_O_put 12 = .ok (.iadd, 1) := by decide +kernel
theorem d_O_put_13 : decode b_O_put 13 = .ok (.sipush 1400, 3) := by decide +kernel
theorem d_O_put_16 : decode b_O_put 16 = .ok (.if_icmp .le 9, 3) := by decide +kernel
theorem d_O_put_19 : decode b_O_put 19 = .ok (.aload_n 0, 1) := by decide +kernel
theorem d_O_put_20 : decode b_O_put 20 = .ok (.bipush (-2), 2) := by decide +kernel
theorem d_O_put_22 : decode b_O_put 22 = .ok (.putfield 22, 3) := by decide +kernel
theorem d_O_put_25 : decode b_O_put 25 = .ok (.aload_n 0, 1) := by decide +kernel
theorem d_O_put_26 : decode b_O_put 26 = .ok (.getfield 22, 3) := by decide +kernel
theorem d_O_put_29 : decode b_O_put 29 = .ok (.ifCond .eq 4, 3) := by decide +kernel
theorem d_O_put_32 : decode b_O_put 32 = .ok (.return_, 1) := by decide +kernel
theorem d_O_put_33 : decode b_O_put 33 = .ok (.bipush 8, 2) := by decide +kernel
theorem d_O_put_35 : decode b_O_put 35 = .ok (.iload_n 3, 1) := by decide +kernel
theorem d_O_put_36 : decode b_O_put 36 = .ok (.imul, 1) := by decide +kernel
theorem d_O_put_37 : decode b_O_put 37 = .ok (.bipush 8, 2) := by decide +kernel
theorem d_O_put_39 : decode b_O_put 39 = .ok (.isub, 1) := by decide +kernel
theorem d_O_put_40 : decode b_O_put 40 = .ok (.istore 4, 2) := by decide +kernel
theorem d_O_put_42 : decode b_O_put 42 = .ok (.iload 4, 2) := by decide +kernel
theorem d_O_put_44 : decode b_O_put 44 = .ok (.ifCond .lt 34, 3) := by decide +kernel
theorem d_O_put_47 : decode b_O_put 47 = .ok (.aload_n 0, 1) := by decide +kernel
theorem d_O_put_48 : decode b_O_put 48 = .ok (.getfield 9, 3) := by decide +kernel
theorem d_O_put_51 : decode b_O_put 51 = .ok (.aload_n 0, 1) := by decide +kernel
theorem d_O_put_52 : decode b_O_put 52 = .ok (.getfield 35, 3) := by decide +kernel
theorem d_O_put_55 : decode b_O_put 55 = .ok (.lload_n 1, 1) := by decide +kernel
theorem d_O_put_56 : decode b_O_put 56 = .ok (.iload 4, 2) := by decide +kernel
theorem d_O_put_58 : decode b_O_put 58 = .ok (.lushr, 1) := by decide +kernel
theorem d_O_put_59 : decode b_O_put 59 = .ok (.l2i, 1) := by decide +kernel
theorem d_O_put_60 : decode b_O_put 60 = .ok (.i2b, 1) := by decide +kernel
theorem d_O_put_61 : decode b_O_put 61 = .ok (.bastore, 1) := by decide +kernel
theorem d_O_put_62 : decode b_O_put 62 = .ok (.aload_n 0, 1) := by decide +kernel
theorem d_O_put_63 : decode b_O_put 63 = .ok (.dup, 1) := by decide +kernel
theorem d_O_put_64 : decode b_O_put 64 = .ok (.getfield 35, 3) := by decide +kernel
theorem d_O_put_67 : decode b_O_put 67 = .ok (.iconst 1, 1) := by decide +kernel
theorem d_O_put_68 : decode b_O_put 68 = .ok (.iadd, 1) := by decide +kernel
theorem d_O_put_69 : decode b_O_put 69 = .ok (.putfield 35, 3) := by decide +kernel
theorem d_O_put_72 : decode b_O_put 72 = .ok (.iinc 4 (-8), 3) := by decide +kernel
theorem d_O_put_75 : decode b_O_put 75 = .ok (.goto (-33), 3) := by decide +kernel
theorem d_O_put_78 : decode b_O_put 78 = .ok (.return_, 1) := by decide +kernel
theorem d_G_define_0 : decode b_G_define 0 = .ok (.iload_n 1, 1) := by decide +kernel
theorem d_G_define_1 : decode b_G_define 1 = .ok (.ifCond .lt 18, 3) := by decide +kernel
theorem d_G_define_4 : decode b_G_define 4 = .ok (.iload_n 1, 1) := by decide +kernel
theorem d_G_define_5 : decode b_G_define 5 = .ok (.bipush 6, 2) := by decide +kernel
theorem d_G_define_7 : decode b_G_define 7 = .ok (.if_icmp .ge 12, 3) := by decide +kernel
theorem d_G_define_10 : decode b_G_define 10 = .ok (.aload_n 0, 1) := by decide +kernel
theorem d_G_define_11 : decode b_G_define 11 = .ok (.getfield 11, 3) := by decide +kernel
theorem d_G_define_14 : decode b_G_define 14 = .ok (.iload_n 1, 1) := by decide +kernel
theorem d_G_define_15 : decode b_G_define 15 = .ok (.aaload, 1) := by decide +kernel
theorem d_G_define_16 : decode b_G_define 16 = .ok (.ifnull 5, 3) := by decide +kernel
theorem d_G_define_19 : decode b_G_define 19 = .ok (.iconst (-1), 1) := by decide +kernel
theorem d_G_define_20 : decode b_G_define 20 = .ok (.ireturn, 1) := by decide +kernel
theorem d_G_define_21 : decode b_G_define 21 = .ok (.iload_n 2, 1) := by decide +kernel
theorem d_G_define_22 : decode b_G_define 22 = .ok (.ifCond .lt 8, 3) := by decide +kernel
theorem d_G_define_25 : decode b_G_define 25 = .ok (.iload_n 2, 1) := by decide +kernel
theorem d_G_define_26 : decode b_G_define 26 = .ok (.iconst 4, 1) := by decide +kernel
theorem d_G_define_27 : decode b_G_define 27 = .ok (.if_icmp .le 5, 3) := by decide +kernel
theorem d_G_define_30 : decode b_G_define 30 = .ok (.iconst (-1), 1) := by decide +kernel
theorem d_G_define_31 : decode b_G_define 31 = .ok (.ireturn, 1) := by decide +kernel
theorem d_G_define_32 : decode b_G_define 32 = .ok (.iload_n 3, 1) := by decide +kernel
theorem d_G_define_33 : decode b_G_define 33 = .ok (.iconst (-1), 1) := by decide +kernel
theorem d_G_define_34 : decode b_G_define 34 = .ok (.if_icmp .eq 14, 3) := by decide +kernel
theorem d_G_define_37 : decode b_G_define 37 = .ok (.aload_n 0, 1) := by decide +kernel
theorem d_G_define_38 : decode b_G_define 38 = .ok (.iload_n 3, 1) := by decide +kernel
theorem d_G_define_39 : decode b_G_define 39 = .ok (.iload_n 2, 1) := by decide +kernel
theorem d_G_define_40 : decode b_G_define 40 = .ok (.invokevirtual 37, 3) := by decide +kernel
theorem d_G_define_43 : decode b_G_define 43 = .ok (.ifCond .ne 5, 3) := by decide +kernel
theorem d_G_define_46 : decode b_G_define 46 = .ok (.iconst (-1), 1) := by decide +kernel
theorem d_G_define_47 : decode b_G_define 47 = .ok (.ireturn, 1) := by decide +kernel
theorem d_G_define_48 : decode b_G_define 48 = .ok (.aload_n 0, 1) := by decide +kernel
theorem d_G_define_49 : decode b_G_define 49 = .ok (.getfield 11, 3) := by decide +kernel
theorem d_G_define_52 : decode b_G_define 52 = .ok (.iload_n 1, 1) := by decide +kernel
theorem d_G_define_53 : decode b_G_define 53 = .ok (.new 9, 3) := by decide +kernel
theorem d_G_define_56 : decode b_G_define 56 = .ok (.dup, 1) := by decide +kernel
theorem d_G_define_57 : decode b_G_define 57 = .ok (.iload_n 1, 1) := by decide +kernel
theorem d_G_define_58 : decode b_G_define 58 = .ok (.iload_n 2, 1) := by decide +kernel
theorem d_G_define_59 : decode b_G_define 59 = .ok (.lload 4, 2) := by decide +kernel
theorem d_G_define_61 : decode b_G_define 61 = .ok (.aload_n 0, 1) := by decide +kernel
theorem d_G_define_62 : decode b_G_define 62 = .ok (.iload_n 1, 1) := by decide +kernel
theorem d_G_define_63 : decode b_G_define 63 = .ok (.iload_n 3, 1) := by decide +kernel
theorem d_G_define_64 : decode b_G_define 64 = .ok (.invokevirtual 41, 3) := by decide +kernel
theorem d_G_define_67 : decode b_G_define 67 = .ok (.invokespecial 45, 3) := by decide +kernel
theorem d_G_define_70 : decode b_G_define 70 = .ok (.aastore, 1) := by decide +kernel
theorem d_G_define_71 : decode b_G_define 71 = .ok (.iconst 0, 1) := by decide +kernel
theorem d_G_define_72 : decode b_G_define 72 = .ok (.ireturn, 1) := by decide +kernel
theorem d_G_mayStandAbove_0 : decode b_G_mayStandAbove 0 = .ok (.aload_n 0, 1) := by decide +kernel
theorem d_G_mayStandAbove_1 : decode b_G_mayStandAbove 1 = .ok (.iload_n 1, 1) := by decide +kernel
theorem d_G_mayStandAbove_2 : decode b_G_mayStandAbove 2 = .ok (.invokevirtual 48, 3) := by decide +kernel
theorem d_G_mayStandAbove_5 : decode b_G_mayStandAbove 5 = .ok (.ifCond .ne 5, 3) := by decide +kernel
theorem d_G_mayStandAbove_8 : decode b_G_mayStandAbove 8 = .ok (.iconst 0, 1) := by decide +kernel
theorem d_G_mayStandAbove_9 : decode b_G_mayStandAbove 9 = .ok (.ireturn, 1) := by decide +kernel
theorem d_G_mayStandAbove_10 : decode b_G_mayStandAbove 10 = .ok (.aload_n 0, 1) := by decide +kernel
theorem d_G_mayStandAbove_11 : decode b_G_mayStandAbove 11 = .ok (.getfield 11, 3) := by decide +kernel
theorem d_G_mayStandAbove_14 : decode b_G_mayStandAbove 14 = .ok (.iload_n 1, 1) := by decide +kernel
theorem d_G_mayStandAbove_15 : decode b_G_mayStandAbove 15 = .ok (.aaload, 1) := by decide +kernel
theorem d_G_mayStandAbove_16 : decode b_G_mayStandAbove 16 = .ok (.getfield 52, 3) := by decide +kernel
theorem d_G_mayStandAbove_19 : decode b_G_mayStandAbove 19 = .ok (.istore_n 3, 1) := by decide +kernel
theorem d_G_mayStandAbove_20 : decode b_G_mayStandAbove 20 = .ok (.iload_n 3, 1) := by decide +kernel
theorem d_G_mayStandAbove_21 : decode b_G_mayStandAbove 21 = .ok (.iconst 2, 1) := by decide +kernel
theorem d_G_mayStandAbove_22 : decode b_G_mayStandAbove 22 = .ok (.if_icmp .gt 8, 3) := by decide +kernel
theorem d_G_mayStandAbove_25 : decode b_G_mayStandAbove 25 = .ok (.iload_n 2, 1) := by decide +kernel
theorem d_G_mayStandAbove_26 : decode b_G_mayStandAbove 26 = .ok (.iconst 2, 1) := by decide +kernel
theorem d_G_mayStandAbove_27 : decode b_G_mayStandAbove 27 = .ok (.if_icmp .le 5, 3) := by decide +kernel
theorem d_G_mayStandAbove_30 : decode b_G_mayStandAbove 30 = .ok (.iconst 0, 1) := by decide +kernel
theorem d_G_mayStandAbove_31 : decode b_G_mayStandAbove 31 = .ok (.ireturn, 1) := by decide +kernel
theorem d_G_mayStandAbove_32 : decode b_G_mayStandAbove 32 = .ok (.iload_n 2, 1) := by decide +kernel
theorem d_G_mayStandAbove_33 : decode b_G_mayStandAbove 33 = .ok (.ifCond .ne 7, 3) := by decide +kernel
theorem d_G_mayStandAbove_36 : decode b_G_mayStandAbove 36 = .ok (.iload_n 3, 1) := by decide +kernel
theorem d_G_mayStandAbove_37 : decode b_G_mayStandAbove 37 = .ok (.ifCond .ne 7, 3) := by decide +kernel
theorem d_G_mayStandAbove_40 : decode b_G_mayStandAbove 40 = .ok (.iconst 1, 1) := by decide +kernel
theorem d_G_mayStandAbove_41 : decode b_G_mayStandAbove 41 = .ok (.goto 4, 3) := by decide +kernel
theorem d_G_mayStandAbove_44 : decode b_G_mayStandAbove 44 = .ok (.iconst 0, 1) := by decide +kernel
theorem d_G_mayStandAbove_45 : decode b_G_mayStandAbove 45 = .ok (.ireturn, 1) := by decide +kernel
theorem d_G_isDefined_0 : decode b_G_isDefined 0 = .ok (.iload_n 1, 1) := by decide +kernel
theorem d_G_isDefined_1 : decode b_G_isDefined 1 = .ok (.ifCond .lt 22, 3) := by decide +kernel
theorem d_G_isDefined_4 : decode b_G_isDefined 4 = .ok (.iload_n 1, 1) := by decide +kernel
theorem d_G_isDefined_5 : decode b_G_isDefined 5 = .ok (.bipush 6, 2) := by decide +kernel
theorem d_G_isDefined_7 : decode b_G_isDefined 7 = .ok (.if_icmp .ge 16, 3) := by decide +kernel
theorem d_G_isDefined_10 : decode b_G_isDefined 10 = .ok (.aload_n 0, 1) := by decide +kernel
theorem d_G_isDefined_11 : decode b_G_isDefined 11 = .ok (.getfield 11, 3) := by decide +kernel
theorem d_G_isDefined_14 : decode b_G_isDefined 14 = .ok (.iload_n 1, 1) := by decide +kernel
theorem d_G_isDefined_15 : decode b_G_isDefined 15 = .ok (.aaload, 1) := by decide +kernel
theorem d_G_isDefined_16 : decode b_G_isDefined 16 = .ok (.ifnull 7, 3) := by decide +kernel
theorem d_G_isDefined_19 : decode b_G_isDefined 19 = .ok (.iconst 1, 1) := by decide +kernel
theorem d_G_isDefined_20 : decode b_G_isDefined 20 = .ok (.goto 4, 3) := by decide +kernel
theorem d_G_isDefined_23 : decode b_G_isDefined 23 = .ok (.iconst 0, 1) := by decide +kernel
theorem d_G_isDefined_24 : decode b_G_isDefined 24 = .ok (.ireturn, 1) := by decide +kernel
theorem d_G_chainTo_0 : decode b_G_chainTo 0 = .ok (.iload_n 2, 1) := by decide +kernel
theorem d_G_chainTo_1 : decode b_G_chainTo 1 = .ok (.iconst (-1), 1) := by decide +kernel
theorem d_G_chainTo_2 : decode b_G_chainTo 2 = .ok (.if_icmp .ne 11, 3) := by decide +kernel
theorem d_G_chainTo_5 : decode b_G_chainTo 5 = .ok (.iconst 1, 1) := by decide +kernel
theorem d_G_chainTo_6 : decode b_G_chainTo 6 = .ok (.newarray .int, 2) := by decide +kernel
theorem d_G_chainTo_8 : decode b_G_chainTo 8 = .ok (.dup, 1) := by decide +kernel
theorem d_G_chainTo_9 : decode b_G_chainTo 9 = .ok (.iconst 0, 1) := by decide +kernel
theorem d_G_chainTo_10 : decode b_G_chainTo 10 = .ok (.iload_n 1, 1) := by decide +kernel
theorem d_G_chainTo_11 : decode b_G_chainTo 11 = .ok (.iastore, 1) := by decide +kernel
theorem d_G_chainTo_12 : decode b_G_chainTo 12 = .ok (.areturn, 1) := by decide +kernel
theorem d_G_chainTo_13 : decode b_G_chainTo 13 = .ok (.aload_n 0, 1) := by decide +kernel
theorem d_G_chainTo_14 : decode b_G_chainTo 14 = .ok (.getfield 11, 3) := by decide +kernel
theorem d_G_chainTo_17 : decode b_G_chainTo 17 = .ok (.iload_n 2, 1) := by decide +kernel
theorem d_G_chainTo_18 : decode b_G_chainTo 18 = .ok (.aaload, 1) := by decide +kernel
theorem d_G_chainTo_19 : decode b_G_chainTo 19 = .ok (.getfield 73, 3) := by decide +kernel
theorem d_G_chainTo_22 : decode b_G_chainTo 22 = .ok (.astore_n 3, 1) := by decide +kernel
theorem d_G_chainTo_23 : decode b_G_chainTo 23 = .ok (.aload_n 3, 1) := by decide +kernel
theorem d_G_chainTo_24 : decode b_G_chainTo 24 = .ok (.aload_n 3, 1) := by decide +kernel
theorem d_G_chainTo_25 : decode b_G_chainTo 25 = .ok (.arraylength, 1) := by decide +kernel
theorem d_G_chainTo_26 : decode b_G_chainTo 26 = .ok (.iconst 1, 1) := by decide +kernel
theorem d_G_chainTo_27 : decode b_G_chainTo 27 = .ok (.iadd, 1) := by decide +kernel
theorem d_G_chainTo_28 : decode b_G_chainTo 28 = .ok (.invokestatic 186, 3) := by decide +kernel
theorem d_G_chainTo_31 : decode b_G_chainTo 31 = .ok (.astore 4, 2) := by decide +kernel
theorem d_G_chainTo_33 : decode b_G_chainTo 33 = .ok (.aload 4, 2) := by decide +kernel
theorem d_G_chainTo_35 : decode b_G_chainTo 35 = .ok (.aload_n 3, 1) := by decide +kernel
theorem d_G_chainTo_36 : decode b_G_chainTo 36 = .ok (.arraylength, 1) := by decide +kernel
theorem d_G_chainTo_37 : decode b_G_chainTo 37 = .ok (.iload_n 1, 1) := by decide +kernel
theorem d_G_chainTo_38 : decode b_G_chainTo 38 = .ok (.iastore, 1) := by decide +kernel
theorem d_G_chainTo_39 : decode b_G_chainTo 39 = .ok (.aload 4, 2) := by decide +kernel
theorem d_G_chainTo_41 : decode b_G_chainTo 41 = .ok (.areturn, 1) := by decide +kernel
theorem d_JR_copyOf1_0 : decode b_JR_copyOf1 0 = .ok (.iload_n 1, 1) := by decide +kernel
theorem d_JR_copyOf1_1 : decode b_JR_copyOf1 1 = .ok (.aload_n 0, 1) := by decide +kernel
theorem d_JR_copyOf1_2 : decode b_JR_copyOf1 2 = .ok (.arraylength, 1) := by decide +kernel
theorem d_JR_copyOf1_3 : decode b_JR_copyOf1 3 = .ok (.if_icmp .ne 11, 3) := by decide +kernel
theorem d_JR_copyOf1_6 : decode b_JR_copyOf1 6 = .ok (.aload_n 0, 1) := by decide +kernel
theorem d_JR_copyOf1_7 : decode b_JR_copyOf1 7 = .ok (.invokevirtual 316, 3) := by decide +kernel
theorem d_JR_copyOf1_10 : decode b_JR_copyOf1 10 = .ok (.checkcast 317, 3) := by decide +kernel
theorem d_JR_copyOf1_13 : decode b_JR_copyOf1 13 = .ok (.areturn, 1) := by decide +kernel
theorem d_JR_copyOf1_14 : decode b_JR_copyOf1 14 = .ok (.iload_n 1, 1) := by decide +kernel
theorem d_JR_copyOf1_15 : decode b_JR_copyOf1 15 = .ok (.newarray .int, 2) := by decide +kernel
theorem d_JR_copyOf1_17 : decode b_JR_copyOf1 17 = .ok (.astore_n 2, 1) := by decide +kernel
theorem d_JR_copyOf1_18 : decode b_JR_copyOf1 18 = .ok (.aload_n 0, 1) := by decide +kernel
theorem d_JR_copyOf1_19 : decode b_JR_copyOf1 19 = .ok (.iconst 0, 1) := by decide +kernel
theorem d_JR_copyOf1_20 : decode b_JR_copyOf1 20 = .ok (.aload_n 2, 1) := by decide +kernel
theorem d_JR_copyOf1_21 : decode b_JR_copyOf1 21 = .ok (.iconst 0, 1) := by decide +kernel
theorem d_JR_copyOf1_22 : decode b_JR_copyOf1 22 = .ok (.aload_n 0, 1) := by decide +kernel
theorem d_JR_copyOf1_23 : decode b_JR_copyOf1 23 = .ok (.arraylength, 1) := by decide +kernel
theorem d_JR_copyOf1_24 : decode b_JR_copyOf1 24 = .ok (.iload_n 1, 1) := by decide +kernel
theorem d_JR_copyOf1_25 : decode b_JR_copyOf1 25 = .ok (.invokestatic 304, 3) := by decide +kernel
theorem d_JR_copyOf1_28 : decode b_JR_copyOf1 28 = .ok (.invokestatic 150, 3) := by decide +kernel
theorem d_JR_copyOf1_31 : decode b_JR_copyOf1 31 = .ok (.aload_n 2, 1) := by decide +kernel
theorem d_JR_copyOf1_32 : decode b_JR_copyOf1 32 = .ok (.areturn, 1) := by decide +kernel
theorem d_JM_min_0 : decode b_JM_min 0 = .ok (.iload_n 0, 1) := by decide +kernel
theorem d_JM_min_1 : decode b_JM_min 1 = .ok (.iload_n 1, 1) := by decide +kernel
theorem d_JM_min_2 : decode b_JM_min 2 = .ok (.if_icmp .gt 7, 3) := by decide +kernel
theorem d_JM_min_5 : decode b_JM_min 5 = .ok (.iload_n 0, 1) := by decide +kernel
theorem d_JM_min_6 : decode b_JM_min 6 = .ok (.goto 4, 3) := by decide +kernel
theorem d_JM_min_9 : decode b_JM_min 9 = .ok (.iload_n 1, 1) := by decide +kernel
theorem d_JM_min_10 : decode b_JM_min 10 = .ok (.ireturn, 1) := by decide +kernel
theorem d_D_init_0 : decode b_D_init 0 = .ok (.aload_n 0, 1) := by decide +kernel
theorem d_D_init_1 : decode b_D_init 1 = .ok (.invokespecial 3, 3) := by decide +kernel
theorem d_D_init_4 : decode b_D_init 4 = .ok (.aload_n 0, 1) := by decide +kernel
theorem d_D_init_5 : decode b_D_init 5 = .ok (.iconst 4, 1) := by decide +kernel
theorem d_D_init_6 : decode b_D_init 6 = .ok (.newarray .int, 2) := by decide +kernel
theorem d_D_init_8 : decode b_D_init 8 = .ok (.putfield 9, 3) := by decide +kernel
theorem d_D_init_11 : decode b_D_init 11 = .ok (.aload_n 0, 1) := by decide +kernel
theorem d_D_init_12 : decode b_D_init 12 = .ok (.iconst 4, 1) := by decide +kernel
theorem d_D_init_13 : decode b_D_init 13 = .ok (.newarray .int, 2) := by decide +kernel
theorem d_D_init_15 : decode b_D_init 15 = .ok (.putfield 15, 3) := by decide +kernel
theorem d_D_init_18 : decode b_D_init 18 = .ok (.aload_n 0, 1) := by decide +kernel
theorem d_D_init_19 : decode b_D_init 19 = .ok (.iconst 4, 1) := by decide +kernel
theorem d_D_init_20 : decode b_D_init 20 = .ok (.newarray .int, 2) := by decide +kernel
theorem d_D_init_22 : decode b_D_init 22 = .ok (.putfield 18, 3) := by decide +kernel
theorem d_D_init_25 : decode b_D_init 25 = .ok (.aload_n 0, 1) := by decide +kernel
theorem d_D_init_26 : decode b_D_init 26 = .ok (.iload_n 1, 1) := by decide +kernel
theorem d_D_init_27 : decode b_D_init 27 = .ok (.putfield 21, 3) := by decide +kernel
theorem d_D_init_30 : decode b_D_init 30 = .ok (.aload_n 0, 1) := by decide +kernel
theorem d_D_init_31 : decode b_D_init 31 = .ok (.iload_n 2, 1) := by decide +kernel
theorem d_D_init_32 : decode b_D_init 32 = .ok (.putfield 25, 3) := by decide +kernel
theorem d_D_init_35 : decode b_D_init 35 = .ok (.aload_n 0, 1) := by decide +kernel
theorem d_D_init_36 : decode b_D_init 36 = .ok (.iload_n 2, 1) := by decide +kernel
theorem d_D_init_37 : decode b_D_init 37 = .ok (.iconst 3, 1) := by decide +kernel
theorem d_D_init_38 : decode b_D_init 38 = .ok (.if_icmp .ne 7, 3) := by decide +kernel
theorem d_D_init_41 : decode b_D_init 41 = .ok (.lconst 0, 1) := by decide +kernel
theorem d_D_init_42 : decode b_D_init 42 = .ok (.goto 4, 3) := by decide +kernel
theorem d_D_init_45 : decode b_D_init 45 = .ok (.lload_n 3, 1) := by decide +kernel
theorem d_D_init_46 : decode b_D_init 46 = .ok (.putfield 28, 3) := by decide +kernel
theorem d_D_init_49 : decode b_D_init 49 = .ok (.aload_n 0, 1) := by decide +kernel
theorem d_D_init_50 : decode b_D_init 50 = .ok (.ldc 32, 2) := by decide +kernel
theorem d_D_init_52 : decode b_D_init 52 = .ok (.iload_n 1, 1) := by decide +kernel
theorem d_D_init_53 : decode b_D_init 53 = .ok (.iload_n 1, 1) := by decide +kernel
theorem d_D_init_54 : decode b_D_init 54 = .ok (.iconst 1, 1) := by decide +kernel
theorem d_D_init_55 : decode b_D_init 55 = .ok (.iadd, 1) := by decide +kernel
theorem d_D_init_56 : decode b_D_init 56 = .ok (.invokevirtual 34, 3) := by decide +kernel
theorem d_D_init_59 : decode b_D_init 59 = .ok (.putfield 40, 3) := by decide +kernel
theorem d_D_init_62 : decode b_D_init 62 = .ok (.aload_n 0, 1) := by decide +kernel
theorem d_D_init_63 : decode b_D_init 63 = .ok (.aload 5, 2) := by decide +kernel
theorem d_D_init_65 : decode b_D_init 65 = .ok (.putfield 44, 3) := by decide +kernel
theorem d_D_init_68 : decode b_D_init 68 = .ok (.return_, 1) := by decide +kernel
theorem d_JS_substring_0 : decode b_JS_substring 0 = .ok (.aload_n 0, 1) := by decide +kernel
theorem d_JS_substring_1 : decode b_JS_substring 1 = .ok (.invokevirtual 505, 3) := by decide +kernel
theorem d_JS_substring_4 : decode b_JS_substring 4 = .ok (.istore_n 3, 1) := by decide +kernel
theorem d_JS_substring_5 : decode b_JS_substring 5 = .ok (.iload_n 1, 1) := by decide +kernel
theorem d_JS_substring_6 : decode b_JS_substring 6 = .ok (.iload_n 2, 1) := by decide +kernel
theorem d_JS_substring_7 : decode b_JS_substring 7 = .ok (.iload_n 3, 1) := by decide +kernel
theorem d_JS_substring_8 : decode b_JS_substring 8 = .ok (.invokestatic 521, 3) := by decide +kernel
theorem d_JS_substring_11 : decode b_JS_substring 11 = .ok (.iload_n 1, 1) := by decide +kernel
theorem d_JS_substring_12 : decode b_JS_substring 12 = .ok (.ifCond .ne 10, 3) := by decide +kernel
theorem d_JS_substring_15 : decode b_JS_substring 15 = .ok (.iload_n 2, 1) := by decide +kernel
theorem d_JS_substring_16 : decode b_JS_substring 16 = .ok (.iload_n 3, 1) := by decide +kernel
theorem d_JS_substring_17 : decode b_JS_substring 17 = .ok (.if_icmp .ne 5, 3) := by decide +kernel
theorem d_JS_substring_20 : decode b_JS_substring 20 = .ok (.aload_n 0, 1) := by decide +kernel
theorem d_JS_substring_21 : decode b_JS_substring 21 = .ok (.areturn, 1) := by decide +kernel
theorem d_JS_substring_22 : decode b_JS_substring 22 = .ok (.iload_n 2, 1) := by decide +kernel
theorem d_JS_substring_23 : decode b_JS_substring 23 = .ok (.iload_n 1, 1) := by decide +kernel
theorem d_JS_substring_24 : decode b_JS_substring 24 = .ok (.isub, 1) := by decide +kernel
theorem d_JS_substring_25 : decode b_JS_substring 25 = .ok (.istore 4, 2) := by decide +kernel
theorem d_JS_substring_27 : decode b_JS_substring 27 = .ok (.aload_n 0, 1) := by decide +kernel
theorem d_JS_substring_28 : decode b_JS_substring 28 = .ok (.invokevirtual 492, 3) := by decide +kernel
theorem d_JS_substring_31 : decode b_JS_substring 31 = .ok (.ifCond .eq 16, 3) := by decide +kernel
theorem d_JS_substring_34 : decode b_JS_substring 34 = .ok (.aload_n 0, 1) := by decide +kernel
theorem d_JS_substring_35 : decode b_JS_substring 35 = .ok (.getfield 9, 3) := by decide +kernel
theorem d_JS_substring_38 : decode b_JS_substring 38 = .ok (.iload_n 1, 1) := by decide +kernel
theorem d_JS_substring_39 : decode b_JS_substring 39 = .ok (.iload 4, 2) := by decide +kernel
theorem d_JS_substring_41 : decode b_JS_substring 41 = .ok (.invokestatic 685, 3) := by decide +kernel
theorem d_JS_substring_44 : decode b_JS_substring 44 = .ok (.goto 13, 3) := by decide +kernel
theorem d_JS_substring_47 : decode b_JS_substring 47 = .ok (.aload_n 0, 1) := by decide +kernel
theorem d_JS_substring_48 : decode b_JS_substring 48 = .ok (.getfield 9, 3) := by decide +kernel
theorem d_JS_substring_51 : decode b_JS_substring 51 = .ok (.iload_n 1, 1) := by decide +kernel
theorem d_JS_substring_52 : decode b_JS_substring 52 = .ok (.iload 4, 2) := by decide +kernel
theorem d_JS_substring_54 : decode b_JS_substring 54 = .ok (.invokestatic 689, 3) := by decide +kernel
theorem d_JS_substring_57 : decode b_JS_substring 57 = .ok (.areturn, 1) := by decide +kernel
theorem d_JS_length_0 : decode b_JS_length 0 = .ok (.aload_n 0, 1) := by decide +kernel
theorem d_JS_length_1 : decode b_JS_length 1 = .ok (.getfield 9, 3) := by decide +kernel
theorem d_JS_length_4 : decode b_JS_length 4 = .ok (.arraylength, 1) := by decide +kernel
theorem d_JS_length_5 : decode b_JS_length 5 = .ok (.aload_n 0, 1) := by decide +kernel
theorem d_JS_length_6 : decode b_JS_length 6 = .ok (.invokevirtual 335, 3) := by decide +kernel
theorem d_JS_length_9 : decode b_JS_length 9 = .ok (.ishr, 1) := by decide +kernel
theorem d_JS_length_10 : decode b_JS_length 10 = .ok (.ireturn, 1) := by decide +kernel
theorem d_JS_coder_0 : decode b_JS_coder 0 = .ok (.getstatic 38, 3) := by decide +kernel
theorem d_JS_coder_3 : decode b_JS_coder 3 = .ok (.ifCond .eq 10, 3) := by decide +kernel
theorem d_JS_coder_6 : decode b_JS_coder 6 = .ok (.aload_n 0, 1) := by decide +kernel
theorem d_JS_coder_7 : decode b_JS_coder 7 = .ok (.getfield 15, 3) := by decide +kernel
theorem d_JS_coder_10 : decode b_JS_coder 10 = .ok (.goto 4, 3) := by decide +kernel
theorem d_JS_coder_13 : decode b_JS_coder 13 = .ok (.iconst 1, 1) := by decide +kernel
theorem d_JS_coder_14 : decode b_JS_coder 14 = .ok (.ireturn, 1) := by decide +kernel
theorem d_JS_checkBoundsBeginEnd_0 : decode b_JS_checkBoundsBeginEnd 0 = .ok (.iload_n 0, 1) := by decide +kernel
theorem d_JS_checkBoundsBeginEnd_1 : decode b_JS_checkBoundsBeginEnd 1 = .ok (.iload_n 1, 1) := by decide +kernel
theorem d_JS_checkBoundsBeginEnd_2 : decode b_JS_checkBoundsBeginEnd 2 = .ok (.iload_n 2, 1) := by decide +kernel
theorem d_JS_checkBoundsBeginEnd_3 : decode b_JS_checkBoundsBeginEnd 3 = .ok (.getstatic 1053, 3) := by decide +kernel
theorem d_JS_checkBoundsBeginEnd_6 : decode b_JS_checkBoundsBeginEnd 6 = .ok (.invokestatic 1062, 3) := by decide +kernel
theorem d_JS_checkBoundsBeginEnd_9 : decode b_JS_checkBoundsBeginEnd 9 = .ok (.pop, 1) := by decide +kernel
theorem d_JS_checkBoundsBeginEnd_10 : decode b_JS_checkBoundsBeginEnd 10 = .ok (.return_, 1) := by decide +kernel
theorem d_JC_checkFromToIndex_0 : decode b_JC_checkFromToIndex 0 = .ok (.iload_n 0, 1) := by decide +kernel
theorem d_JC_checkFromToIndex_1 : decode b_JC_checkFromToIndex 1 = .ok (.ifCond .lt 13, 3) := by decide +kernel
theorem d_JC_checkFromToIndex_4 : decode b_JC_checkFromToIndex 4 = .ok (.iload_n 0, 1) := by decide +kernel
theorem d_JC_checkFromToIndex_5 : decode b_JC_checkFromToIndex 5 = .ok (.iload_n 1, 1) := by decide +kernel
theorem d_JC_checkFromToIndex_6 : decode b_JC_checkFromToIndex 6 = .ok (.if_icmp .gt 8, 3) := by decide +kernel
theorem d_JC_checkFromToIndex_9 : decode b_JC_checkFromToIndex 9 = .ok (.iload_n 1, 1) := by decide +kernel
theorem d_JC_checkFromToIndex_10 : decode b_JC_checkFromToIndex 10 = .ok (.iload_n 2, 1) := by decide +kernel
theorem d_JC_checkFromToIndex_11 : decode b_JC_checkFromToIndex 11 = .ok (.if_icmp .le 11, 3) := by decide +kernel
theorem d_JC_checkFromToIndex_14 : decode b_JC_checkFromToIndex 14 = .ok (.aload_n 3, 1) := by decide +kernel
theorem d_JC_checkFromToIndex_15 : decode b_JC_checkFromToIndex 15 = .ok (.iload_n 0, 1) := by decide +kernel
theorem d_JC_checkFromToIndex_16 : decode b_JC_checkFromToIndex 16 = .ok (.iload_n 1, 1) := by decide +kernel
theorem d_JC_checkFromToIndex_17 : decode b_JC_checkFromToIndex 17 = .ok (.iload_n 2, 1) := by decide +kernel
theorem d_JC_checkFromToIndex_18 : decode b_JC_checkFromToIndex 18 = .ok (.invokestatic 99, 3) := by decide +kernel
theorem d_JC_checkFromToIndex_21 : decode b_JC_checkFromToIndex 21 = .ok (.athrow, 1) := by decide +kernel
theorem d_JC_checkFromToIndex_22 : decode b_JC_checkFromToIndex 22 = .ok (.iload_n 0, 1) := by decide +kernel
theorem d_JC_checkFromToIndex_23 : decode b_JC_checkFromToIndex 23 = .ok (.ireturn, 1) := by decide +kernel
theorem d_JS_isLatin1_0 : decode b_JS_isLatin1 0 = .ok (.getstatic 38, 3) := by decide +kernel
theorem d_JS_isLatin1_3 : decode b_JS_isLatin1 3 = .ok (.ifCond .eq 14, 3) := by decide +kernel
theorem d_JS_isLatin1_6 : decode b_JS_isLatin1 6 = .ok (.aload_n 0, 1) := by decide +kernel
theorem d_JS_isLatin1_7 : decode b_JS_isLatin1 7 = .ok (.getfield 15, 3) := by decide +kernel
theorem d_JS_isLatin1_10 : decode b_JS_isLatin1 10 = .ok (.ifCond .ne 7, 3) := by decide +kernel
theorem d_JS_isLatin1_13 : decode b_JS_isLatin1 13 = .ok (.iconst 1, 1) := by decide +kernel
theorem d_JS_isLatin1_14 : decode b_JS_isLatin1 14 = .ok (.goto 4, 3) := by decide +kernel
theorem d_JS_isLatin1_17 : decode b_JS_isLatin1 17 = .ok (.iconst 0, 1) := by decide +kernel
theorem d_JS_isLatin1_18 : decode b_JS_isLatin1 18 = .ok (.ireturn, 1) := by decide +kernel
theorem d_JL_newString_0 : decode b_JL_newString 0 = .ok (.iload_n 2, 1) := by decide +kernel
theorem d_JL_newString_1 : decode b_JL_newString 1 = .ok (.ifCond .ne 6, 3) := by decide +kernel
theorem d_JL_newString_4 : decode b_JL_newString 4 = .ok (.ldc 151, 2) := by decide +kernel
theorem d_JL_newString_6 : decode b_JL_newString 6 = .ok (.areturn, 1) := by decide +kernel
theorem d_JL_newString_7 : decode b_JL_newString 7 = .ok (.new 1, 3) := by decide +kernel
theorem d_JL_newString_10 : decode b_JL_newString 10 = .ok (.dup, 1) := by decide +kernel
theorem d_JL_newString_11 : decode b_JL_newString 11 = .ok (.aload_n 0, 1) := by decide +kernel
theorem d_JL_newString_12 : decode b_JL_newString 12 = .ok (.iload_n 1, 1) := by decide +kernel
theorem d_JL_newString_13 : decode b_JL_newString 13 = .ok (.iload_n 1, 1) := by decide +kernel
theorem d_JL_newString_14 : decode b_JL_newString 14 = .ok (.iload_n 2, 1) := by decide +kernel
theorem d_JL_newString_15 : decode b_JL_newString 15 = .ok (.iadd, 1) := by decide +kernel
theorem d_JL_newString_16 : decode b_JL_newString 16 = .ok (.invokestatic 232, 3) := by decide +kernel
theorem d_JL_newString_19 : decode b_JL_newString 19 = .ok (.iconst 0, 1) := by decide +kernel
theorem d_JL_newString_20 : decode b_JL_newString 20 = .ok (.invokespecial 112, 3) := by decide +kernel
theorem d_JL_newString_23 : decode b_JL_newString 23 = .ok (.areturn, 1) := by decide +kernel
theorem d_JR_copyOfRange_0 : decode b_JR_copyOfRange 0 = .ok (.iload_n 1, 1) := by decide +kernel
theorem d_JR_copyOfRange_1 : decode b_JR_copyOfRange 1 = .ok (.ifCond .ne 9, 3) := by decide +kernel
theorem d_JR_copyOfRange_4 : decode b_JR_copyOfRange 4 = .ok (.iload_n 2, 1) := by decide +kernel
theorem d_JR_copyOfRange_5 : decode b_JR_copyOfRange 5 = .ok (.aload_n 0, 1) := by decide +kernel
theorem d_JR_copyOfRange_6 : decode b_JR_copyOfRange 6 = .ok (.arraylength, 1) := by decide +kernel
theorem d_JR_copyOfRange_7 : decode b_JR_copyOfRange 7 = .ok (.if_icmp .eq 10, 3) := by decide +kernel
theorem d_JR_copyOfRange_10 : decode b_JR_copyOfRange 10 = .ok (.aload_n 0, 1) := by decide +kernel
theorem d_JR_copyOfRange_11 : decode b_JR_copyOfRange 11 = .ok (.iload_n 1, 1) := by decide +kernel
theorem d_JR_copyOfRange_12 : decode b_JR_copyOfRange 12 = .ok (.iload_n 2, 1) := by decide +kernel
theorem d_JR_copyOfRange_13 : decode b_JR_copyOfRange 13 = .ok (.invokestatic 339, 3) := by decide +kernel
theorem d_JR_copyOfRange_16 : decode b_JR_copyOfRange 16 = .ok (.areturn, 1) := by decide +kernel
theorem d_JR_copyOfRange_17 : decode b_JR_copyOfRange 17 = .ok (.aload_n 0, 1) := by decide +kernel
theorem d_JR_copyOfRange_18 : decode b_JR_copyOfRange 18 = .ok (.invokevirtual 310, 3) := by decide +kernel
theorem d_JR_copyOfRange_21 : decode b_JR_copyOfRange 21 = .ok (.checkcast 311, 3) := by decide +kernel
theorem d_JR_copyOfRange_24 : decode b_JR_copyOfRange 24 = .ok (.areturn, 1) := by decide +kernel
theorem d_JR_copyOfRangeByte_0 : decode b_JR_copyOfRangeByte 0 = .ok (.iload_n 1, 1) := by decide +kernel
theorem d_JR_copyOfRangeByte_1 : decode b_JR_copyOfRangeByte 1 = .ok (.iload_n 2, 1) := by decide +kernel
theorem d_JR_copyOfRangeByte_2 : decode b_JR_copyOfRangeByte 2 = .ok (.invokestatic 343, 3) := by decide +kernel
theorem d_JR_copyOfRangeByte_5 : decode b_JR_copyOfRangeByte 5 = .ok (.iload_n 2, 1) := by decide +kernel
theorem d_JR_copyOfRangeByte_6 : decode b_JR_copyOfRangeByte 6 = .ok (.iload_n 1, 1) := by decide +kernel
theorem d_JR_copyOfRangeByte_7 : decode b_JR_copyOfRangeByte 7 = .ok (.isub, 1) := by decide +kernel
theorem d_JR_copyOfRangeByte_8 : decode b_JR_copyOfRangeByte 8 = .ok (.istore_n 3, 1) := by decide +kernel
theorem d_JR_copyOfRangeByte_9 : decode b_JR_copyOfRangeByte 9 = .ok (.iload_n 3, 1) := by decide +kernel
theorem d_JR_copyOfRangeByte_10 : decode b_JR_copyOfRangeByte 10 = .ok (.newarray .byte, 2) := by decide +kernel
theorem d_JR_copyOfRangeByte_12 : decode b_JR_copyOfRangeByte 12 = .ok (.astore 4, 2) := by decide +kernel
theorem d_JR_copyOfRangeByte_14 : decode b_JR_copyOfRangeByte 14 = .ok (.aload_n 0, 1) := by decide +kernel
theorem d_JR_copyOfRangeByte_15 : decode b_JR_copyOfRangeByte 15 = .ok (.iload_n 1, 1) := by decide +kernel
theorem d_JR_copyOfRangeByte_16 : decode b_JR_copyOfRangeByte 16 = .ok (.aload 4, 2) := by decide +kernel
theorem d_JR_copyOfRangeByte_18 : decode b_JR_copyOfRangeByte 18 = .ok (.iconst 0, 1) := by decide +kernel
theorem d_JR_copyOfRangeByte_19 : decode b_JR_copyOfRangeByte 19 = .ok (.aload_n 0, 1) := by decide +kernel
theorem d_JR_copyOfRangeByte_20 : decode b_JR_copyOfRangeByte 20 = .ok (.arraylength, 1) := by decide +kernel
theorem d_JR_copyOfRangeByte_21 : decode b_JR_copyOfRangeByte 21 = .ok (.iload_n 1, 1) := by decide +kernel
theorem d_JR_copyOfRangeByte_22 : decode b_JR_copyOfRangeByte 22 = .ok (.isub, 1) := by decide +kernel
theorem d_JR_copyOfRangeByte_23 : decode b_JR_copyOfRangeByte 23 = .ok (.iload_n 3, 1) := by decide +kernel
theorem d_JR_copyOfRangeByte_24 : decode b_JR_copyOfRangeByte 24 = .ok (.invokestatic 304, 3) := by decide +kernel
theorem d_JR_copyOfRangeByte_27 : decode b_JR_copyOfRangeByte 27 = .ok (.invokestatic 150, 3) := by decide +kernel
theorem d_JR_copyOfRangeByte_30 : decode b_JR_copyOfRangeByte 30 = .ok (.aload 4, 2) := by decide +kernel
theorem d_JR_copyOfRangeByte_32 : decode b_JR_copyOfRangeByte 32 = .ok (.areturn, 1) := by decide +kernel
theorem d_JR_checkLength_0 : decode b_JR_checkLength 0 = .ok (.iload_n 1, 1) := by decide +kernel
theorem d_JR_checkLength_1 : decode b_JR_checkLength 1 = .ok (.iload_n 0, 1) := by decide +kernel
theorem d_JR_checkLength_2 : decode b_JR_checkLength 2 = .ok (.if_icmp .ge 35, 3) := by decide +kernel
theorem d_JR_checkLength_5 : decode b_JR_checkLength 5 = .ok (.new 43, 3) := by decide +kernel
theorem d_JR_checkLength_8 : decode b_JR_checkLength 8 = .ok (.dup, 1) := by decide +kernel
theorem d_JR_checkLength_9 : decode b_JR_checkLength 9 = .ok (.new 45, 3) := by decide +kernel
theorem d_JR_checkLength_12 : decode b_JR_checkLength 12 = .ok (.dup, 1) := by decide +kernel
theorem d_JR_checkLength_13 : decode b_JR_checkLength 13 = .ok (.invokespecial 47, 3) := by decide +kernel
theorem d_JR_checkLength_16 : decode b_JR_checkLength 16 = .ok (.iload_n 0, 1) := by decide +kernel
theorem d_JR_checkLength_17 : decode b_JR_checkLength 17 = .ok (.invokevirtual 54, 3) := by decide +kernel
theorem d_JR_checkLength_20 : decode b_JR_checkLength 20 = .ok (.ldc_w 337, 3) := by decide +kernel
theorem d_JR_checkLength_23 : decode b_JR_checkLength 23 = .ok (.invokevirtual 50, 3) := by decide +kernel
theorem d_JR_checkLength_26 : decode b_JR_checkLength 26 = .ok (.iload_n 1, 1) := by decide +kernel
theorem d_JR_checkLength_27 : decode b_JR_checkLength 27 = .ok (.invokevirtual 54, 3) := by decide +kernel
theorem d_JR_checkLength_30 : decode b_JR_checkLength 30 = .ok (.invokevirtual 61, 3) := by decide +kernel
theorem d_JR_checkLength_33 : decode b_JR_checkLength 33 = .ok (.invokespecial 65, 3) := by decide +kernel
theorem d_JR_checkLength_36 : decode b_JR_checkLength 36 = .ok (.athrow, 1) := by decide +kernel
theorem d_JR_checkLength_37 : decode b_JR_checkLength 37 = .ok (.return_, 1) := by decide +kernel
theorem d_JS_init1_0 : decode b_JS_init1 0 = .ok (.aload_n 0, 1) := by decide +kernel
theorem d_JS_init1_1 : decode b_JS_init1 1 = .ok (.invokespecial 1, 3) := by decide +kernel
theorem d_JS_init1_4 : decode b_JS_init1 4 = .ok (.aload_n 0, 1) := by decide +kernel
theorem d_JS_init1_5 : decode b_JS_init1 5 = .ok (.aload_n 1, 1) := by decide +kernel
theorem d_JS_init1_6 : decode b_JS_init1 6 = .ok (.putfield 9, 3) := by decide +kernel
theorem d_JS_init1_9 : decode b_JS_init1 9 = .ok (.aload_n 0, 1) := by decide +kernel
theorem d_JS_init1_10 : decode b_JS_init1 10 = .ok (.iload_n 2, 1) := by decide +kernel
theorem d_JS_init1_11 : decode b_JS_init1 11 = .ok (.putfield 15, 3) := by decide +kernel
theorem d_JS_init1_14 : decode b_JS_init1 14 = .ok (.return_, 1) := by decide +kernel
theorem d_JU_newString_0 : decode b_JU_newString 0 = .ok (.iload_n 2, 1) := by decide +kernel
theorem d_JU_newString_1 : decode b_JU_newString 1 = .ok (.ifCond .ne 7, 3) := by decide +kernel
theorem d_JU_newString_4 : decode b_JU_newString 4 = .ok (.ldc_w 295, 3) := by decide +kernel
theorem d_JU_newString_7 : decode b_JU_newString 7 = .ok (.areturn, 1) := by decide +kernel
theorem d_JU_newString_8 : decode b_JU_newString 8 = .ok (.getstatic 251, 3) := by decide +kernel
theorem d_JU_newString_11 : decode b_JU_newString 11 = .ok (.ifCond .eq 28, 3) := by decide +kernel
theorem d_JU_newString_14 : decode b_JU_newString 14 = .ok (.aload_n 0, 1) := by decide +kernel
theorem d_JU_newString_15 : decode b_JU_newString 15 = .ok (.iload_n 1, 1) := by decide +kernel
theorem d_JU_newString_16 : decode b_JU_newString 16 = .ok (.iload_n 2, 1) := by decide +kernel
theorem d_JU_newString_17 : decode b_JU_newString 17 = .ok (.invokestatic 257, 3) := by decide +kernel
theorem d_JU_newString_20 : decode b_JU_newString 20 = .ok (.astore_n 3, 1) := by decide +kernel
theorem d_JU_newString_21 : decode b_JU_newString 21 = .ok (.aload_n 3, 1) := by decide +kernel
theorem d_JU_newString_22 : decode b_JU_newString 22 = .ok (.iload_n 2, 1) := by decide +kernel
theorem d_JU_newString_23 : decode b_JU_newString 23 = .ok (.invokestatic 259, 3) := by decide +kernel
theorem d_JU_newString_26 : decode b_JU_newString 26 = .ok (.istore 4, 2) := by decide +kernel
theorem d_JU_newString_28 : decode b_JU_newString 28 = .ok (.new 3, 3) := by decide +kernel
theorem d_JU_newString_31 : decode b_JU_newString 31 = .ok (.dup, 1) := by decide +kernel
theorem d_JU_newString_32 : decode b_JU_newString 32 = .ok (.aload_n 3, 1) := by decide +kernel
theorem d_JU_newString_33 : decode b_JU_newString 33 = .ok (.iload 4, 2) := by decide +kernel
theorem d_JU_newString_35 : decode b_JU_newString 35 = .ok (.invokespecial 263, 3) := by decide +kernel
theorem d_JU_newString_38 : decode b_JU_newString 38 = .ok (.areturn, 1) := by decide +kernel
theorem d_JU_newString_39 : decode b_JU_newString 39 = .ok (.iload_n 1, 1) := by decide +kernel
theorem d_JU_newString_40 : decode b_JU_newString 40 = .ok (.iload_n 2, 1) := by decide +kernel
theorem d_JU_newString_41 : decode b_JU_newString 41 = .ok (.iadd, 1) := by decide +kernel
theorem d_JU_newString_42 : decode b_JU_newString 42 = .ok (.istore_n 3, 1) := by decide +kernel
theorem d_JU_newString_43 : decode b_JU_newString 43 = .ok (.new 3, 3) := by decide +kernel
theorem d_JU_newString_46 : decode b_JU_newString 46 = .ok (.dup, 1) := by decide +kernel
theorem d_JU_newString_47 : decode b_JU_newString 47 = .ok (.aload_n 0, 1) := by decide +kernel
theorem d_JU_newString_48 : decode b_JU_newString 48 = .ok (.iload_n 1, 1) := by decide +kernel
theorem d_JU_newString_49 : decode b_JU_newString 49 = .ok (.iconst 1, 1) := by decide +kernel
theorem d_JU_newString_50 : decode b_JU_newString 50 = .ok (.ishl, 1) := by decide +kernel
theorem d_JU_newString_51 : decode b_JU_newString 51 = .ok (.iload_n 3, 1) := by decide +kernel
theorem d_JU_newString_52 : decode b_JU_newString 52 = .ok (.iconst 1, 1) := by decide +kernel
theorem d_JU_newString_53 : decode b_JU_newString 53 = .ok (.ishl, 1) := by decide +kernel
theorem d_JU_newString_54 : decode b_JU_newString 54 = .ok (.invokestatic 126, 3) := by decide +kernel
theorem d_JU_newString_57 : decode b_JU_newString 57 = .ok (.iconst 1, 1) := by decide +kernel
theorem d_JU_newString_58 : decode b_JU_newString 58 = .ok (.invokespecial 263, 3) := by decide +kernel
theorem d_JU_newString_61 : decode b_JU_newString 61 = .ok (.areturn, 1) := by decide +kernel
theorem d_JU_compress1_0 : decode b_JU_compress1 0 = .ok (.iload_n 2, 1) := by decide +kernel
theorem d_JU_compress1_1 : decode b_JU_compress1 1 = .ok (.newarray .byte, 2) := by decide +kernel
theorem d_JU_compress1_3 : decode b_JU_compress1 3 = .ok (.astore_n 3, 1) := by decide +kernel
theorem d_JU_compress1_4 : decode b_JU_compress1 4 = .ok (.aload_n 0, 1) := by decide +kernel
theorem d_JU_compress1_5 : decode b_JU_compress1 5 = .ok (.iload_n 1, 1) := by decide +kernel
theorem d_JU_compress1_6 : decode b_JU_compress1 6 = .ok (.aload_n 3, 1) := by decide +kernel
theorem d_JU_compress1_7 : decode b_JU_compress1 7 = .ok (.iconst 0, 1) := by decide +kernel
theorem d_JU_compress1_8 : decode b_JU_compress1 8 = .ok (.iload_n 2, 1) := by decide +kernel
theorem d_JU_compress1_9 : decode b_JU_compress1 9 = .ok (.invokestatic 123, 3) := by decide +kernel
theorem d_JU_compress1_12 : decode b_JU_compress1 12 = .ok (.istore 4, 2) := by decide +kernel
theorem d_JU_compress1_14 : decode b_JU_compress1 14 = .ok (.iload 4, 2) := by decide +kernel
theorem d_JU_compress1_16 : decode b_JU_compress1 16 = .ok (.iload_n 2, 1) := by decide +kernel
theorem d_JU_compress1_17 : decode b_JU_compress1 17 = .ok (.if_icmp .eq 47, 3) := by decide +kernel
theorem d_JU_compress1_20 : decode b_JU_compress1 20 = .ok (.aload_n 0, 1) := by decide +kernel
theorem d_JU_compress1_21 : decode b_JU_compress1 21 = .ok (.iload_n 1, 1) := by decide +kernel
theorem d_JU_compress1_22 : decode b_JU_compress1 22 = .ok (.iconst 1, 1) := by decide +kernel
theorem d_JU_compress1_23 : decode b_JU_compress1 23 = .ok (.ishl, 1) := by decide +kernel
theorem d_JU_compress1_24 : decode b_JU_compress1 24 = .ok (.iload_n 1, 1) := by decide +kernel
theorem d_JU_compress1_25 : decode b_JU_compress1 25 = .ok (.iload_n 2, 1) := by decide +kernel
theorem d_JU_compress1_26 : decode b_JU_compress1 26 = .ok (.iadd, 1) := by decide +kernel
theorem d_JU_compress1_27 : decode b_JU_compress1 27 = .ok (.invokestatic 11, 3) := by decide +kernel
theorem d_JU_compress1_30 : decode b_JU_compress1 30 = .ok (.invokestatic 126, 3) := by decide +kernel
theorem d_JU_compress1_33 : decode b_JU_compress1 33 = .ok (.astore 5, 2) := by decide +kernel
theorem d_JU_compress1_35 : decode b_JU_compress1 35 = .ok (.aload 5, 2) := by decide +kernel
theorem d_JU_compress1_37 : decode b_JU_compress1 37 = .ok (.iload 4, 2) := by decide +kernel
theorem d_JU_compress1_39 : decode b_JU_compress1 39 = .ok (.invokestatic 71, 3) := by decide +kernel
theorem d_JU_compress1_42 : decode b_JU_compress1 42 = .ok (.sipush 255, 3) := by decide +kernel
theorem d_JU_compress1_45 : decode b_JU_compress1 45 = .ok (.if_icmp .gt 16, 3) := by decide +kernel
theorem d_JU_compress1_48 : decode b_JU_compress1 48 = .ok (.aload 5, 2) := by decide +kernel
theorem d_JU_compress1_50 : decode b_JU_compress1 50 = .ok (.iconst 0, 1) := by decide +kernel
theorem d_JU_compress1_51 : decode b_JU_compress1 51 = .ok (.aload_n 3, 1) := by decide +kernel
theorem d_JU_compress1_52 : decode b_JU_compress1 52 = .ok (.iconst 0, 1) := by decide +kernel
theorem d_JU_compress1_53 : decode b_JU_compress1 53 = .ok (.iload_n 2, 1) := by decide +kernel
theorem d_JU_compress1_54 : decode b_JU_compress1 54 = .ok (.invokestatic 123, 3) := by decide +kernel
theorem d_JU_compress1_57 : decode b_JU_compress1 57 = .ok (.iload_n 2, 1) := by decide +kernel
theorem d_JU_compress1_58 : decode b_JU_compress1 58 = .ok (.if_icmp .eq 6, 3) := by decide +kernel
theorem d_JU_compress1_61 : decode b_JU_compress1 61 = .ok (.aload 5, 2) := by decide +kernel
theorem d_JU_compress1_63 : decode b_JU_compress1 63 = .ok (.areturn, 1) := by decide +kernel
theorem d_JU_compress1_64 : decode b_JU_compress1 64 = .ok (.aload_n 3, 1) := by decide +kernel
theorem d_JU_compress1_65 : decode b_JU_compress1 65 = .ok (.areturn, 1) := by decide +kernel
theorem d_JU_compress2_0 : decode b_JU_compress2 0 = .ok (.iload_n 1, 1) := by decide +kernel
theorem d_JU_compress2_1 : decode b_JU_compress2 1 = .ok (.iload 4, 2) := by decide +kernel
theorem d_JU_compress2_3 : decode b_JU_compress2 3 = .ok (.aload_n 0, 1) := by decide +kernel
theorem d_JU_compress2_4 : decode b_JU_compress2 4 = .ok (.invokestatic 173, 3) := by decide +kernel
theorem d_JU_compress2_7 : decode b_JU_compress2 7 = .ok (.iconst 0, 1) := by decide +kernel
theorem d_JU_compress2_8 : decode b_JU_compress2 8 = .ok (.istore 5, 2) := by decide +kernel
theorem d_JU_compress2_10 : decode b_JU_compress2 10 = .ok (.iload 5, 2) := by decide +kernel
theorem d_JU_compress2_12 : decode b_JU_compress2 12 = .ok (.iload 4, 2) := by decide +kernel
theorem d_JU_compress2_14 : decode b_JU_compress2 14 = .ok (.if_icmp .ge 39, 3) := by decide +kernel
theorem d_JU_compress2_17 : decode b_JU_compress2 17 = .ok (.aload_n 0, 1) := by decide +kernel
theorem d_JU_compress2_18 : decode b_JU_compress2 18 = .ok (.iload_n 1, 1) := by decide +kernel
theorem d_JU_compress2_19 : decode b_JU_compress2 19 = .ok (.invokestatic 71, 3) := by decide +kernel
theorem d_JU_compress2_22 : decode b_JU_compress2 22 = .ok (.istore 6, 2) := by decide +kernel
theorem d_JU_compress2_24 : decode b_JU_compress2 24 = .ok (.iload 6, 2) := by decide +kernel
theorem d_JU_compress2_26 : decode b_JU_compress2 26 = .ok (.sipush 255, 3) := by decide +kernel
theorem d_JU_compress2_29 : decode b_JU_compress2 29 = .ok (.if_icmp .le 6, 3) := by decide +kernel
theorem d_JU_compress2_32 : decode b_JU_compress2 32 = .ok (.iload 5, 2) := by decide +kernel
theorem d_JU_compress2_34 : decode b_JU_compress2 34 = .ok (.ireturn, 1) := by decide +kernel
theorem d_JU_compress2_35 : decode b_JU_compress2 35 = .ok (.aload_n 2, 1) := by decide +kernel
theorem d_JU_compress2_36 : decode b_JU_compress2 36 = .ok (.iload_n 3, 1) := by decide +kernel
theorem d_JU_compress2_37 : decode b_JU_compress2 37 = .ok (.iload 6, 2) := by decide +kernel
theorem d_JU_compress2_39 : decode b_JU_compress2 39 = .ok (.i2b, 1) := by decide +kernel
theorem d_JU_compress2_40 : decode b_JU_compress2 40 = .ok (.bastore, 1) := by decide +kernel
theorem d_JU_compress2_41 : decode b_JU_compress2 41 = .ok (.iinc 1 1, 3) := by decide +kernel
theorem d_JU_compress2_44 : decode b_JU_compress2 44 = .ok (.iinc 3 1, 3) := by decide +kernel
theorem d_JU_compress2_47 : decode b_JU_compress2 47 = .ok (.iinc 5 1, 3) := by decide +kernel
theorem d_JU_compress2_50 : decode b_JU_compress2 50 = .ok (.goto (-40), 3) := by decide +kernel
theorem d_JU_compress2_53 : decode b_JU_compress2 53 = .ok (.iload 4, 2) := by decide +kernel
theorem d_JU_compress2_55 : decode b_JU_compress2 55 = .ok (.ireturn, 1) := by decide +kernel
theorem d_JU_checkBoundsOffCount_0 : decode b_JU_checkBoundsOffCount 0 = .ok (.iload_n 0, 1) := by decide +kernel
theorem d_JU_checkBoundsOffCount_1 : decode b_JU_checkBoundsOffCount 1 = .ok (.iload_n 1, 1) := by decide +kernel
theorem d_JU_checkBoundsOffCount_2 : decode b_JU_checkBoundsOffCount 2 = .ok (.aload_n 2, 1) := by decide +kernel
theorem d_JU_checkBoundsOffCount_3 : decode b_JU_checkBoundsOffCount 3 = .ok (.invokestatic 48, 3) := by decide +kernel
theorem d_JU_checkBoundsOffCount_6 : decode b_JU_checkBoundsOffCount 6 = .ok (.invokestatic 419, 3) := by decide +kernel
theorem d_JU_checkBoundsOffCount_9 : decode b_JU_checkBoundsOffCount 9 = .ok (.pop, 1) := by decide +kernel
theorem d_JU_checkBoundsOffCount_10 : decode b_JU_checkBoundsOffCount 10 = .ok (.return_, 1) := by decide +kernel
theorem d_JU_length_0 : decode b_JU_length 0 = .ok (.aload_n 0, 1) := by decide +kernel
theorem d_JU_length_1 : decode b_JU_length 1 = .ok (.arraylength, 1) := by decide +kernel
theorem d_JU_length_2 : decode b_JU_length 2 = .ok (.iconst 1, 1) := by decide +kernel
theorem d_JU_length_3 : decode b_JU_length 3 = .ok (.ishr, 1) := by decide +kernel
theorem d_JU_length_4 : decode b_JU_length 4 = .ok (.ireturn, 1) := by decide +kernel
theorem d_JS_checkBoundsOffCount_0 : decode b_JS_checkBoundsOffCount 0 = .ok (.iload_n 0, 1) := by decide +kernel
theorem d_JS_checkBoundsOffCount_1 : decode b_JS_checkBoundsOffCount 1 = .ok (.iload_n 1, 1) := by decide +kernel
theorem d_JS_checkBoundsOffCount_2 : decode b_JS_checkBoundsOffCount 2 = .ok (.iload_n 2, 1) := by decide +kernel
theorem d_JS_checkBoundsOffCount_3 : decode b_JS_checkBoundsOffCount 3 = .ok (.getstatic 1053, 3) := by decide +kernel
theorem d_JS_checkBoundsOffCount_6 : decode b_JS_checkBoundsOffCount 6 = .ok (.invokestatic 1065, 3) := by decide +kernel
theorem d_JS_checkBoundsOffCount_9 : decode b_JS_checkBoundsOffCount 9 = .ok (.ireturn, 1) := by decide +kernel
theorem d_JC_checkFromIndexSize_0 : decode b_JC_checkFromIndexSize 0 = .ok (.iload_n 2, 1) := by decide +kernel
theorem d_JC_checkFromIndexSize_1 : decode b_JC_checkFromIndexSize 1 = .ok (.iload_n 0, 1) := by decide +kernel
theorem d_JC_checkFromIndexSize_2 : decode b_JC_checkFromIndexSize 2 = .ok (.ior, 1) := by decide +kernel
theorem d_JC_checkFromIndexSize_3 : decode b_JC_checkFromIndexSize 3 = .ok (.iload_n 1, 1) := by decide +kernel
theorem d_JC_checkFromIndexSize_4 : decode b_JC_checkFromIndexSize 4 = .ok (.ior, 1) := by decide +kernel
theorem d_JC_checkFromIndexSize_5 : decode b_JC_checkFromIndexSize 5 = .ok (.ifCond .lt 10, 3) := by decide +kernel
theorem d_JC_checkFromIndexSize_8 : decode b_JC_checkFromIndexSize 8 = .ok (.iload_n 1, 1) := by decide +kernel
theorem d_JC_checkFromIndexSize_9 : decode b_JC_checkFromIndexSize 9 = .ok (.iload_n 2, 1) := by decide +kernel
theorem d_JC_checkFromIndexSize_10 : decode b_JC_checkFromIndexSize 10 = .ok (.iload_n 0, 1) := by decide +kernel
theorem d_JC_checkFromIndexSize_11 : decode b_JC_checkFromIndexSize 11 = .ok (.isub, 1) := by decide +kernel
theorem d_JC_checkFromIndexSize_12 : decode b_JC_checkFromIndexSize 12 = .ok (.if_icmp .le 11, 3) := by decide +kernel
theorem d_JC_checkFromIndexSize_15 : decode b_JC_checkFromIndexSize 15 = .ok (.aload_n 3, 1) := by decide +kernel
theorem d_JC_checkFromIndexSize_16 : decode b_JC_checkFromIndexSize 16 = .ok (.iload_n 0, 1) := by decide +kernel
theorem d_JC_checkFromIndexSize_17 : decode b_JC_checkFromIndexSize 17 = .ok (.iload_n 1, 1) := by decide +kernel
theorem d_JC_checkFromIndexSize_18 : decode b_JC_checkFromIndexSize 18 = .ok (.iload_n 2, 1) := by decide +kernel
theorem d_JC_checkFromIndexSize_19 : decode b_JC_checkFromIndexSize 19 = .ok (.invokestatic 103, 3) := by decide +kernel
theorem d_JC_checkFromIndexSize_22 : decode b_JC_checkFromIndexSize 22 = .ok (.athrow, 1) := by decide +kernel
theorem d_JC_checkFromIndexSize_23 : decode b_JC_checkFromIndexSize 23 = .ok (.iload_n 0, 1) := by decide +kernel
theorem d_JC_checkFromIndexSize_24 : decode b_JC_checkFromIndexSize 24 = .ok (.ireturn, 1) := by decide +kernel
theorem d_JU_getChar_0 : decode b_JU_getChar 0 = .ok (.getstatic 44, 3) := by decide +kernel
theorem d_JU_getChar_3 : decode b_JU_getChar 3 = .ok (.ifCond .ne 25, 3) := by decide +kernel
theorem d_JU_getChar_6 : decode b_JU_getChar 6 = .ok (.iload_n 1, 1) := by decide +kernel
theorem d_JU_getChar_7 : decode b_JU_getChar 7 = .ok (.ifCond .lt 11, 3) := by decide +kernel
theorem d_JU_getChar_10 : decode b_JU_getChar 10 = .ok (.iload_n 1, 1) := by decide +kernel
theorem d_JU_getChar_11 : decode b_JU_getChar 11 = .ok (.aload_n 0, 1) := by decide +kernel
theorem d_JU_getChar_12 : decode b_JU_getChar 12 = .ok (.invokestatic 48, 3) := by decide +kernel
theorem d_JU_getChar_15 : decode b_JU_getChar 15 = .ok (.if_icmp .lt 13, 3) := by decide +kernel
theorem d_JU_getChar_18 : decode b_JU_getChar 18 = .ok (.new 52, 3) := by decide +kernel
theorem d_JU_getChar_21 : decode b_JU_getChar 21 = .ok (.dup, 1) := by decide +kernel
theorem d_JU_getChar_22 : decode b_JU_getChar 22 = .ok (.ldc 54, 2) := by decide +kernel
theorem d_JU_getChar_24 : decode b_JU_getChar 24 = .ok (.invokespecial 56, 3) := by decide +kernel
theorem d_JU_getChar_27 : decode b_JU_getChar 27 = .ok (.athrow, 1) := by decide +kernel
theorem d_JU_getChar_28 : decode b_JU_getChar 28 = .ok (.iload_n 1, 1) := by decide +kernel
theorem d_JU_getChar_29 : decode b_JU_getChar 29 = .ok (.iconst 1, 1) := by decide +kernel
theorem d_JU_getChar_30 : decode b_JU_getChar 30 = .ok (.ishl, 1) := by decide +kernel
theorem d_JU_getChar_31 : decode b_JU_getChar 31 = .ok (.istore_n 1, 1) := by decide +kernel
theorem d_JU_getChar_32 : decode b_JU_getChar 32 = .ok (.aload_n 0, 1) := by decide +kernel
theorem d_JU_getChar_33 : decode b_JU_getChar 33 = .ok (.iload_n 1, 1) := by decide +kernel
theorem d_JU_getChar_34 : decode b_JU_getChar 34 = .ok (.iinc 1 1, 3) := by decide +kernel
theorem d_JU_getChar_37 : decode b_JU_getChar 37 = .ok (.baload, 1) := by decide +kernel
theorem d_JU_getChar_38 : decode b_JU_getChar 38 = .ok (.sipush 255, 3) := by decide +kernel
theorem d_JU_getChar_41 : decode b_JU_getChar 41 = .ok (.iand, 1) := by decide +kernel
theorem d_JU_getChar_42 : decode b_JU_getChar 42 = .ok (.getstatic 59, 3) := by decide +kernel
theorem d_JU_getChar_45 : decode b_JU_getChar 45 = .ok (.ishl, 1) := by decide +kernel
theorem d_JU_getChar_46 : decode b_JU_getChar 46 = .ok (.aload_n 0, 1) := by decide +kernel
theorem d_JU_getChar_47 : decode b_JU_getChar 47 = .ok (.iload_n 1, 1) := by decide +kernel
theorem d_JU_getChar_48 : decode b_JU_getChar 48 = .ok (.baload, 1) := by decide +kernel
theorem d_JU_getChar_49 : decode b_JU_getChar 49 = .ok (.sipush 255, 3) := by decide +kernel
theorem d_JU_getChar_52 : decode b_JU_getChar 52 = .ok (.iand, 1) := by decide +kernel
theorem d_JU_getChar_53 : decode b_JU_getChar 53 = .ok (.getstatic 63, 3) := by decide +kernel
theorem d_JU_getChar_56 : decode b_JU_getChar 56 = .ok (.ishl, 1) := by decide +kernel
theorem d_JU_getChar_57 : decode b_JU_getChar 57 = .ok (.ior, 1) := by decide +kernel
theorem d_JU_getChar_58 : decode b_JU_getChar 58 = .ok (.i2c, 1) := by decide +kernel
theorem d_JU_getChar_59 : decode b_JU_getChar 59 = .ok (.ireturn, 1) := by decide +kernel
theorem d_JU_newBytesLength_0 : decode b_JU_newBytesLength 0 = .ok (.iload_n 0, 1) := by decide +kernel
theorem d_JU_newBytesLength_1 : decode b_JU_newBytesLength 1 = .ok (.ifCond .ge 11, 3) := by decide +kernel
theorem d_JU_newBytesLength_4 : decode b_JU_newBytesLength 4 = .ok (.new 17, 3) := by decide +kernel
theorem d_JU_newBytesLength_7 : decode b_JU_newBytesLength 7 = .ok (.dup, 1) := by decide +kernel
theorem d_JU_newBytesLength_8 : decode b_JU_newBytesLength 8 = .ok (.invokespecial 19, 3) := by decide +kernel
theorem d_JU_newBytesLength_11 : decode b_JU_newBytesLength 11 = .ok (.athrow, 1) := by decide +kernel
theorem d_JU_newBytesLength_12 : decode b_JU_newBytesLength 12 = .ok (.iload_n 0, 1) := by decide +kernel
theorem d_JU_newBytesLength_13 : decode b_JU_newBytesLength 13 = .ok (.ldc 20, 2) := by decide +kernel
theorem d_JU_newBytesLength_15 : decode b_JU_newBytesLength 15 = .ok (.if_icmp .lt 40, 3) := by decide +kernel
theorem d_JU_newBytesLength_18 : decode b_JU_newBytesLength 18 = .ok (.new 21, 3) := by decide +kernel
theorem d_JU_newBytesLength_21 : decode b_JU_newBytesLength 21 = .ok (.dup, 1) := by decide +kernel
theorem d_JU_newBytesLength_22 : decode b_JU_newBytesLength 22 = .ok (.new 23, 3) := by decide +kernel
theorem d_JU_newBytesLength_25 : decode b_JU_newBytesLength 25 = .ok (.dup, 1) := by decide +kernel
theorem d_JU_newBytesLength_26 : decode b_JU_newBytesLength 26 = .ok (.invokespecial 25, 3) := by decide +kernel
theorem d_JU_newBytesLength_29 : decode b_JU_newBytesLength 29 = .ok (.ldc 26, 2) := by decide +kernel
theorem d_JU_newBytesLength_31 : decode b_JU_newBytesLength 31 = .ok (.invokevirtual 28, 3) := by decide +kernel
theorem d_JU_newBytesLength_34 : decode b_JU_newBytesLength 34 = .ok (.iload_n 0, 1) := by decide +kernel
theorem d_JU_newBytesLength_35 : decode b_JU_newBytesLength 35 = .ok (.invokevirtual 32, 3) := by decide +kernel
theorem d_JU_newBytesLength_38 : decode b_JU_newBytesLength 38 = .ok (.ldc 35, 2) := by decide +kernel
theorem d_JU_newBytesLength_40 : decode b_JU_newBytesLength 40 = .ok (.invokevirtual 28, 3) := by decide +kernel
theorem d_JU_newBytesLength_43 : decode b_JU_newBytesLength 43 = .ok (.ldc 20, 2) := by decide +kernel
theorem d_JU_newBytesLength_45 : decode b_JU_newBytesLength 45 = .ok (.invokevirtual 32, 3) := by decide +kernel
theorem d_JU_newBytesLength_48 : decode b_JU_newBytesLength 48 = .ok (.invokevirtual 37, 3) := by decide +kernel
theorem d_JU_newBytesLength_51 : decode b_JU_newBytesLength 51 = .ok (.invokespecial 41, 3) := by decide +kernel
theorem d_JU_newBytesLength_54 : decode b_JU_newBytesLength 54 = .ok (.athrow, 1) := by decide +kernel
theorem d_JU_newBytesLength_55 : decode b_JU_newBytesLength 55 = .ok (.iload_n 0, 1) := by decide +kernel
theorem d_JU_newBytesLength_56 : decode b_JU_newBytesLength 56 = .ok (.iconst 1, 1) := by decide +kernel
theorem d_JU_newBytesLength_57 : decode b_JU_newBytesLength 57 = .ok (.ishl, 1) := by decide +kernel
theorem d_JU_newBytesLength_58 : decode b_JU_newBytesLength 58 = .ok (.ireturn, 1) := by decide +kernel
theorem d_JU_coderFromArrayLen_0 : decode b_JU_coderFromArrayLen 0 = .ok (.iload_n 1, 1) := by decide +kernel
theorem d_JU_coderFromArrayLen_1 : decode b_JU_coderFromArrayLen 1 = .ok (.aload_n 0, 1) := by decide +kernel
theorem d_JU_coderFromArrayLen_2 : decode b_JU_coderFromArrayLen 2 = .ok (.arraylength, 1) := by decide +kernel
theorem d_JU_coderFromArrayLen_3 : decode b_JU_coderFromArrayLen 3 = .ok (.isub, 1) := by decide +kernel
theorem d_JU_coderFromArrayLen_4 : decode b_JU_coderFromArrayLen 4 = .ok (.bipush 31, 2) := by decide +kernel
theorem d_JU_coderFromArrayLen_6 : decode b_JU_coderFromArrayLen 6 = .ok (.iushr, 1) := by decide +kernel
theorem d_JU_coderFromArrayLen_7 : decode b_JU_coderFromArrayLen 7 = .ok (.i2b, 1) := by decide +kernel
theorem d_JU_coderFromArrayLen_8 : decode b_JU_coderFromArrayLen 8 = .ok (.ireturn, 1) := by decide +kernel
theorem d_G_field_0 : decode b_G_field 0 = .ok (.aload_n 0, 1) := by decide +kernel
theorem d_G_field_1 : decode b_G_field 1 = .ok (.iload_n 1, 1) := by decide +kernel
theorem d_G_field_2 : decode b_G_field 2 = .ok (.invokevirtual 48, 3) := by decide +kernel
theorem d_G_field_5 : decode b_G_field 5 = .ok (.ifCond .eq 23, 3) := by decide +kernel
theorem d_G_field_8 : decode b_G_field 8 = .ok (.iload_n 2, 1) := by decide +kernel
theorem d_G_field_9 : decode b_G_field 9 = .ok (.ifCond .lt 19, 3) := by decide +kernel
theorem d_G_field_12 : decode b_G_field 12 = .ok (.iload_n 2, 1) := by decide +kernel
theorem d_G_field_13 : decode b_G_field 13 = .ok (.bipush 26, 2) := by decide +kernel
theorem d_G_field_15 : decode b_G_field 15 = .ok (.if_icmp .ge 13, 3) := by decide +kernel
theorem d_G_field_18 : decode b_G_field 18 = .ok (.iload_n 3, 1) := by decide +kernel
theorem d_G_field_19 : decode b_G_field 19 = .ok (.ifCond .lt 9, 3) := by decide +kernel
theorem d_G_field_22 : decode b_G_field 22 = .ok (.iload_n 3, 1) := by decide +kernel
theorem d_G_field_23 : decode b_G_field 23 = .ok (.bipush 7, 2) := by decide +kernel
theorem d_G_field_25 : decode b_G_field 25 = .ok (.if_icmp .le 5, 3) := by decide +kernel
theorem d_G_field_28 : decode b_G_field 28 = .ok (.iconst (-1), 1) := by decide +kernel
theorem d_G_field_29 : decode b_G_field 29 = .ok (.ireturn, 1) := by decide +kernel
theorem d_G_field_30 : decode b_G_field 30 = .ok (.aload_n 0, 1) := by decide +kernel
theorem d_G_field_31 : decode b_G_field 31 = .ok (.getfield 11, 3) := by decide +kernel
theorem d_G_field_34 : decode b_G_field 34 = .ok (.iload_n 1, 1) := by decide +kernel
theorem d_G_field_35 : decode b_G_field 35 = .ok (.aaload, 1) := by decide +kernel
theorem d_G_field_36 : decode b_G_field 36 = .ok (.astore 5, 2) := by decide +kernel
theorem d_G_field_38 : decode b_G_field 38 = .ok (.aload 5, 2) := by decide +kernel
theorem d_G_field_40 : decode b_G_field 40 = .ok (.getfield 52, 3) := by decide +kernel
theorem d_G_field_43 : decode b_G_field 43 = .ok (.iconst 3, 1) := by decide +kernel
theorem d_G_field_44 : decode b_G_field 44 = .ok (.if_icmp .eq 11, 3) := by decide +kernel
theorem d_G_field_47 : decode b_G_field 47 = .ok (.aload 5, 2) := by decide +kernel
theorem d_G_field_49 : decode b_G_field 49 = .ok (.getfield 56, 3) := by decide +kernel
theorem d_G_field_52 : decode b_G_field 52 = .ok (.ifCond .eq 5, 3) := by decide +kernel
theorem d_G_field_55 : decode b_G_field 55 = .ok (.iconst (-1), 1) := by decide +kernel
theorem d_G_field_56 : decode b_G_field 56 = .ok (.ireturn, 1) := by decide +kernel
theorem d_G_field_57 : decode b_G_field 57 = .ok (.aload 5, 2) := by decide +kernel
theorem d_G_field_59 : decode b_G_field 59 = .ok (.getfield 60, 3) := by decide +kernel
theorem d_G_field_62 : decode b_G_field 62 = .ok (.iconst 4, 1) := by decide +kernel
theorem d_G_field_63 : decode b_G_field 63 = .ok (.if_icmp .ge 12, 3) := by decide +kernel
theorem d_G_field_66 : decode b_G_field 66 = .ok (.aload 5, 2) := by decide +kernel
theorem d_G_field_68 : decode b_G_field 68 = .ok (.iload_n 2, 1) := by decide +kernel
theorem d_G_field_69 : decode b_G_field 69 = .ok (.invokevirtual 63, 3) := by decide +kernel
theorem d_G_field_72 : decode b_G_field 72 = .ok (.ifCond .eq 5, 3) := by decide +kernel
theorem d_G_field_75 : decode b_G_field 75 = .ok (.iconst (-1), 1) := by decide +kernel
theorem d_G_field_76 : decode b_G_field 76 = .ok (.ireturn, 1) := by decide +kernel
theorem d_G_field_77 : decode b_G_field 77 = .ok (.aload 5, 2) := by decide +kernel
theorem d_G_field_79 : decode b_G_field 79 = .ok (.iload_n 2, 1) := by decide +kernel
theorem d_G_field_80 : decode b_G_field 80 = .ok (.iload_n 3, 1) := by decide +kernel
theorem d_G_field_81 : decode b_G_field 81 = .ok (.iload 4, 2) := by decide +kernel
theorem d_G_field_83 : decode b_G_field 83 = .ok (.invokevirtual 66, 3) := by decide +kernel
theorem d_G_field_86 : decode b_G_field 86 = .ok (.aload 5, 2) := by decide +kernel
theorem d_G_field_88 : decode b_G_field 88 = .ok (.getfield 60, 3) := by decide +kernel
theorem d_G_field_91 : decode b_G_field 91 = .ok (.ireturn, 1) := by decide +kernel
theorem d_D_hasField_0 : decode b_D_hasField 0 = .ok (.iconst 0, 1) := by decide +kernel
theorem d_D_hasField_1 : decode b_D_hasField 1 = .ok (.istore_n 2, 1) := by decide +kernel
theorem d_D_hasField_2 : decode b_D_hasField 2 = .ok (.iload_n 2, 1) := by decide +kernel
theorem d_D_hasField_3 : decode b_D_hasField 3 = .ok (.aload_n 0, 1) := by decide +kernel
theorem d_D_hasField_4 : decode b_D_hasField 4 = .ok (.getfield 47, 3) := by decide +kernel
theorem d_D_hasField_7 : decode b_D_hasField 7 = .ok (.if_icmp .ge 21, 3) := by decide +kernel
theorem d_D_hasField_10 : decode b_D_hasField 10 = .ok (.aload_n 0, 1) := by decide +kernel
theorem d_D_hasField_11 : decode b_D_hasField 11 = .ok (.getfield 9, 3) := by decide +kernel
theorem d_D_hasField_14 : decode b_D_hasField 14 = .ok (.iload_n 2, 1) := by decide +kernel
theorem d_D_hasField_15 : decode b_D_hasField 15 = .ok (.iaload, 1) := by decide +kernel
theorem d_D_hasField_16 : decode b_D_hasField 16 = .ok (.iload_n 1, 1) := by decide +kernel
theorem d_D_hasField_17 : decode b_D_hasField 17 = .ok (.if_icmp .ne 5, 3) := by decide +kernel
theorem d_D_hasField_20 : decode b_D_hasField 20 = .ok (.iconst 1, 1) := by decide +kernel
theorem d_D_hasField_21 : decode b_D_hasField 21 = .ok (.ireturn, 1) := by decide +kernel
theorem d_D_hasField_22 : decode b_D_hasField 22 = .ok (.iinc 2 1, 3) := by decide +kernel
theorem d_D_hasField_25 : decode b_D_hasField 25 = .ok (.goto (-23), 3) := by decide +kernel
theorem d_D_hasField_28 : decode b_D_hasField 28 = .ok (.iconst 0, 1) := by decide +kernel
theorem d_D_hasField_29 : decode b_D_hasField 29 = .ok (.ireturn, 1) := by decide +kernel
theorem d_D_addField_0 : decode b_D_addField 0 = .ok (.aload_n 0, 1) := by decide +kernel
theorem d_D_addField_1 : decode b_D_addField 1 = .ok (.getfield 9, 3) := by decide +kernel
theorem d_D_addField_4 : decode b_D_addField 4 = .ok (.aload_n 0, 1) := by decide +kernel
theorem d_D_addField_5 : decode b_D_addField 5 = .ok (.getfield 47, 3) := by decide +kernel
theorem d_D_addField_8 : decode b_D_addField 8 = .ok (.iload_n 1, 1) := by decide +kernel
theorem d_D_addField_9 : decode b_D_addField 9 = .ok (.iastore, 1) := by decide +kernel
theorem d_D_addField_10 : decode b_D_addField 10 = .ok (.aload_n 0, 1) := by decide +kernel
theorem d_D_addField_11 : decode b_D_addField 11 = .ok (.getfield 15, 3) := by decide +kernel
theorem d_D_addField_14 : decode b_D_addField 14 = .ok (.aload_n 0, 1) := by decide +kernel
theorem d_D_addField_15 : decode b_D_addField 15 = .ok (.getfield 47, 3) := by decide +kernel
theorem d_D_addField_18 : decode b_D_addField 18 = .ok (.iload_n 2, 1) := by decide +kernel
theorem d_D_addField_19 : decode b_D_addField 19 = .ok (.iastore, 1) := by decide +kernel
theorem d_D_addField_20 : decode b_D_addField 20 = .ok (.iload_n 3, 1) := by decide +kernel
theorem d_D_addField_21 : decode b_D_addField 21 = .ok (.ifCond .ne 11, 3) := by decide +kernel
theorem d_D_addField_24 : decode b_D_addField 24 = .ok (.aload_n 0, 1) := by decide +kernel
theorem d_D_addField_25 : decode b_D_addField 25 = .ok (.aload_n 0, 1) := by decide +kernel
theorem d_D_addField_26 : decode b_D_addField 26 = .ok (.getfield 47, 3) := by decide +kernel
theorem d_D_addField_29 : decode b_D_addField 29 = .ok (.invokevirtual 50, 3) := by decide +kernel
theorem d_D_addField_32 : decode b_D_addField 32 = .ok (.aload_n 0, 1) := by decide +kernel
theorem d_D_addField_33 : decode b_D_addField 33 = .ok (.dup, 1) := by decide +kernel
theorem d_D_addField_34 : decode b_D_addField 34 = .ok (.getfield 47, 3) := by decide +kernel
theorem d_D_addField_37 : decode b_D_addField 37 = .ok (.iconst 1, 1) := by decide +kernel
theorem d_D_addField_38 : decode b_D_addField 38 = .ok (.iadd, 1) := by decide +kernel
theorem d_D_addField_39 : decode b_D_addField 39 = .ok (.putfield 47, 3) := by decide +kernel
theorem d_D_addField_42 : decode b_D_addField 42 = .ok (.return_, 1) := by decide +kernel
theorem d_D_putInOrder_0 : decode b_D_putInOrder 0 = .ok (.aload_n 0, 1) := by decide +kernel
theorem d_D_putInOrder_1 : decode b_D_putInOrder 1 = .ok (.getfield 54, 3) := by decide +kernel
theorem d_D_putInOrder_4 : decode b_D_putInOrder 4 = .ok (.istore_n 2, 1) := by decide +kernel
theorem d_D_putInOrder_5 : decode b_D_putInOrder 5 = .ok (.iload_n 2, 1) := by decide +kernel
theorem d_D_putInOrder_6 : decode b_D_putInOrder 6 = .ok (.ifCond .le 43, 3) := by decide +kernel
theorem d_D_putInOrder_9 : decode b_D_putInOrder 9 = .ok (.aload_n 0, 1) := by decide +kernel
theorem d_D_putInOrder_10 : decode b_D_putInOrder 10 = .ok (.aload_n 0, 1) := by decide +kernel
theorem d_D_putInOrder_11 : decode b_D_putInOrder 11 = .ok (.getfield 18, 3) := by decide +kernel
theorem d_D_putInOrder_14 : decode b_D_putInOrder 14 = .ok (.iload_n 2, 1) := by decide +kernel
theorem d_D_putInOrder_15 : decode b_D_putInOrder 15 = .ok (.iconst 1, 1) := by decide +kernel
theorem d_D_putInOrder_16 : decode b_D_putInOrder 16 = .ok (.isub, 1) := by decide +kernel
theorem d_D_putInOrder_17 : decode b_D_putInOrder 17 = .ok (.iaload, 1) := by decide +kernel
theorem d_D_putInOrder_18 : decode b_D_putInOrder 18 = .ok (.invokevirtual 57, 3) := by decide +kernel
theorem d_D_putInOrder_21 : decode b_D_putInOrder 21 = .ok (.aload_n 0, 1) := by decide +kernel
theorem d_D_putInOrder_22 : decode b_D_putInOrder 22 = .ok (.iload_n 1, 1) := by decide +kernel
theorem d_D_putInOrder_23 : decode b_D_putInOrder 23 = .ok (.invokevirtual 57, 3) := by decide +kernel
theorem d_D_putInOrder_26 : decode b_D_putInOrder 26 = .ok (.if_icmp .le 23, 3) := by decide +kernel
theorem d_D_putInOrder_29 : decode b_D_putInOrder 29 = .ok (.aload_n 0, 1) := by decide +kernel
theorem d_D_putInOrder_30 : decode b_D_putInOrder 30 = .ok (.getfield 18, 3) := by decide +kernel
theorem d_D_putInOrder_33 : decode b_D_putInOrder 33 = .ok (.iload_n 2, 1) := by decide +kernel
theorem d_D_putInOrder_34 : decode b_D_putInOrder 34 = .ok (.aload_n 0, 1) := by decide +kernel
theorem d_D_putInOrder_35 : decode b_D_putInOrder 35 = .ok (.getfield 18, 3) := by decide +kernel
theorem d_D_putInOrder_38 : decode b_D_putInOrder 38 = .ok (.iload_n 2, 1) := by decide +kernel
theorem d_D_putInOrder_39 : decode b_D_putInOrder 39 = .ok (.iconst 1, 1) := by decide +kernel
theorem d_D_putInOrder_40 : decode b_D_putInOrder 40 = .ok (.isub, 1) := by decide +kernel
theorem d_D_putInOrder_41 : decode b_D_putInOrder 41 = .ok (.iaload, 1) := by decide +kernel
theorem d_D_putInOrder_42 : decode b_D_putInOrder 42 = .ok (.iastore, 1) := by decide +kernel
theorem d_D_putInOrder_43 : decode b_D_putInOrder 43 = .ok (.iinc 2 (-1), 3) := by decide +kernel
theorem d_D_putInOrder_46 : decode b_D_putInOrder 46 = .ok (.goto (-41), 3) := by decide +kernel
theorem d_D_putInOrder_49 : decode b_D_putInOrder 49 = .ok (.aload_n 0, 1) := by decide +kernel
theorem d_D_putInOrder_50 : decode b_D_putInOrder 50 = .ok (.getfield 18, 3) := by decide +kernel
theorem d_D_putInOrder_53 : decode b_D_putInOrder 53 = .ok (.iload_n 2, 1) := by decide +kernel
theorem d_D_putInOrder_54 : decode b_D_putInOrder 54 = .ok (.iload_n 1, 1) := by decide +kernel
theorem d_D_putInOrder_55 : decode b_D_putInOrder 55 = .ok (.iastore, 1) := by decide +kernel
theorem d_D_putInOrder_56 : decode b_D_putInOrder 56 = .ok (.aload_n 0, 1) := by decide +kernel
theorem d_D_putInOrder_57 : decode b_D_putInOrder 57 = .ok (.dup, 1) := by decide +kernel
theorem d_D_putInOrder_58 : decode b_D_putInOrder 58 = .ok (.getfield 54, 3) := by decide +kernel
theorem d_D_putInOrder_61 : decode b_D_putInOrder 61 = .ok (.iconst 1, 1) := by decide +kernel
theorem d_D_putInOrder_62 : decode b_D_putInOrder 62 = .ok (.iadd, 1) := by decide +kernel
theorem d_D_putInOrder_63 : decode b_D_putInOrder 63 = .ok (.putfield 54, 3) := by decide +kernel
theorem d_D_putInOrder_66 : decode b_D_putInOrder 66 = .ok (.return_, 1) := by decide +kernel
theorem d_D_rank_0 : decode b_D_rank 0 = .ok (.aload_n 0, 1) := by decide +kernel
theorem d_D_rank_1 : decode b_D_rank 1 = .ok (.getfield 15, 3) := by decide +kernel
theorem d_D_rank_4 : decode b_D_rank 4 = .ok (.iload_n 1, 1) := by decide +kernel
theorem d_D_rank_5 : decode b_D_rank 5 = .ok (.iaload, 1) := by decide +kernel
theorem d_D_rank_6 : decode b_D_rank 6 = .ok (.bipush 6, 2) := by decide +kernel
theorem d_D_rank_8 : decode b_D_rank 8 = .ok (.if_icmp .ge 12, 3) := by decide +kernel
theorem d_D_rank_11 : decode b_D_rank 11 = .ok (.aload_n 0, 1) := by decide +kernel
theorem d_D_rank_12 : decode b_D_rank 12 = .ok (.getfield 9, 3) := by decide +kernel
theorem d_D_rank_15 : decode b_D_rank 15 = .ok (.iload_n 1, 1) := by decide +kernel
theorem d_D_rank_16 : decode b_D_rank 16 = .ok (.iaload, 1) := by decide +kernel
theorem d_D_rank_17 : decode b_D_rank 17 = .ok (.goto 12, 3) := by decide +kernel
theorem d_D_rank_20 : decode b_D_rank 20 = .ok (.bipush 26, 2) := by decide +kernel
theorem d_D_rank_22 : decode b_D_rank 22 = .ok (.aload_n 0, 1) := by decide +kernel
theorem d_D_rank_23 : decode b_D_rank 23 = .ok (.getfield 9, 3) := by decide +kernel
theorem d_D_rank_26 : decode b_D_rank 26 = .ok (.iload_n 1, 1) := by decide +kernel
theorem d_D_rank_27 : decode b_D_rank 27 = .ok (.iaload, 1) := by decide +kernel
theorem d_D_rank_28 : decode b_D_rank 28 = .ok (.iadd, 1) := by decide +kernel
theorem d_D_rank_29 : decode b_D_rank 29 = .ok (.ireturn, 1) := by decide +kernel
theorem d_G_instance_0 : decode b_G_instance 0 = .ok (.aload_n 0, 1) := by decide +kernel
theorem d_G_instance_1 : decode b_G_instance 1 = .ok (.iload_n 1, 1) := by decide +kernel
theorem d_G_instance_2 : decode b_G_instance 2 = .ok (.invokevirtual 48, 3) := by decide +kernel
theorem d_G_instance_5 : decode b_G_instance 5 = .ok (.ifCond .eq 16, 3) := by decide +kernel
theorem d_G_instance_8 : decode b_G_instance 8 = .ok (.aload_n 0, 1) := by decide +kernel
theorem d_G_instance_9 : decode b_G_instance 9 = .ok (.getfield 11, 3) := by decide +kernel
theorem d_G_instance_12 : decode b_G_instance 12 = .ok (.iload_n 1, 1) := by decide +kernel
theorem d_G_instance_13 : decode b_G_instance 13 = .ok (.aaload, 1) := by decide +kernel
theorem d_G_instance_14 : decode b_G_instance 14 = .ok (.getfield 52, 3) := by decide +kernel
theorem d_G_instance_17 : decode b_G_instance 17 = .ok (.iconst 3, 1) := by decide +kernel
theorem d_G_instance_18 : decode b_G_instance 18 = .ok (.if_icmp .ne 5, 3) := by decide +kernel
theorem d_G_instance_21 : decode b_G_instance 21 = .ok (.iconst (-1), 1) := by decide +kernel
theorem d_G_instance_22 : decode b_G_instance 22 = .ok (.ireturn, 1) := by decide +kernel
theorem d_G_instance_23 : decode b_G_instance 23 = .ok (.aload_n 0, 1) := by decide +kernel
theorem d_G_instance_24 : decode b_G_instance 24 = .ok (.getfield 70, 3) := by decide +kernel
theorem d_G_instance_27 : decode b_G_instance 27 = .ok (.bipush 12, 2) := by decide +kernel
theorem d_G_instance_29 : decode b_G_instance 29 = .ok (.if_icmp .lt 6, 3) := by decide +kernel
theorem d_G_instance_32 : decode b_G_instance 32 = .ok (.bipush (-2), 2) := by decide +kernel
theorem d_G_instance_34 : decode b_G_instance 34 = .ok (.ireturn, 1) := by decide +kernel
theorem d_G_instance_35 : decode b_G_instance 35 = .ok (.aload_n 0, 1) := by decide +kernel
theorem d_G_instance_36 : decode b_G_instance 36 = .ok (.getfield 11, 3) := by decide +kernel
theorem d_G_instance_39 : decode b_G_instance 39 = .ok (.iload_n 1, 1) := by decide +kernel
theorem d_G_instance_40 : decode b_G_instance 40 = .ok (.aaload, 1) := by decide +kernel
theorem d_G_instance_41 : decode b_G_instance 41 = .ok (.getfield 73, 3) := by decide +kernel
theorem d_G_instance_44 : decode b_G_instance 44 = .ok (.astore_n 2, 1) := by decide +kernel
theorem d_G_instance_45 : decode b_G_instance 45 = .ok (.iconst 0, 1) := by decide +kernel
theorem d_G_instance_46 : decode b_G_instance 46 = .ok (.istore_n 3, 1) := by decide +kernel
theorem d_G_instance_47 : decode b_G_instance 47 = .ok (.iload_n 3, 1) := by decide +kernel
theorem d_G_instance_48 : decode b_G_instance 48 = .ok (.aload_n 2, 1) := by decide +kernel
theorem d_G_instance_49 : decode b_G_instance 49 = .ok (.arraylength, 1) := by decide +kernel
theorem d_G_instance_50 : decode b_G_instance 50 = .ok (.if_icmp .ge 21, 3) := by decide +kernel
theorem d_G_instance_53 : decode b_G_instance 53 = .ok (.aload_n 0, 1) := by decide +kernel
theorem d_G_instance_54 : decode b_G_instance 54 = .ok (.getfield 11, 3) := by decide +kernel
theorem d_G_instance_57 : decode b_G_instance 57 = .ok (.aload_n 2, 1) := by decide +kernel
theorem d_G_instance_58 : decode b_G_instance 58 = .ok (.iload_n 3, 1) := by decide +kernel
theorem d_G_instance_59 : decode b_G_instance 59 = .ok (.iaload, 1) := by decide +kernel
theorem d_G_instance_60 : decode b_G_instance 60 = .ok (.aaload, 1) := by decide +kernel
theorem d_G_instance_61 : decode b_G_instance 61 = .ok (.iconst 1, 1) := by decide +kernel
theorem d_G_instance_62 : decode b_G_instance 62 = .ok (.putfield 56, 3) := by decide +kernel
theorem d_G_instance_65 : decode b_G_instance 65 = .ok (.iinc 3 1, 3) := by decide +kernel
theorem d_G_instance_68 : decode b_G_instance 68 = .ok (.goto (-21), 3) := by decide +kernel
theorem d_G_instance_71 : decode b_G_instance 71 = .ok (.aload_n 0, 1) := by decide +kernel
theorem d_G_instance_72 : decode b_G_instance 72 = .ok (.new 15, 3) := by decide +kernel
theorem d_G_instance_75 : decode b_G_instance 75 = .ok (.dup, 1) := by decide +kernel
theorem d_G_instance_76 : decode b_G_instance 76 = .ok (.iconst 0, 1) := by decide +kernel
theorem d_G_instance_77 : decode b_G_instance 77 = .ok (.iload_n 1, 1) := by decide +kernel
theorem d_G_instance_78 : decode b_G_instance 78 = .ok (.aload_n 0, 1) := by decide +kernel
theorem d_G_instance_79 : decode b_G_instance 79 = .ok (.aload_n 2, 1) := by decide +kernel
theorem d_G_instance_80 : decode b_G_instance 80 = .ok (.invokevirtual 77, 3) := by decide +kernel
theorem d_G_instance_83 : decode b_G_instance 83 = .ok (.ldc 81, 2) := by decide +kernel
theorem d_G_instance_85 : decode b_G_instance 85 = .ok (.invokespecial 83, 3) := by decide +kernel
theorem d_G_instance_88 : decode b_G_instance 88 = .ok (.invokevirtual 86, 3) := by decide +kernel
theorem d_G_instance_91 : decode b_G_instance 91 = .ok (.ireturn, 1) := by decide +kernel
theorem d_G_slotTypes_0 : decode b_G_slotTypes 0 = .ok (.iconst 0, 1) := by decide +kernel
theorem d_G_slotTypes_1 : decode b_G_slotTypes 1 = .ok (.istore_n 2, 1) := by decide +kernel
theorem d_G_slotTypes_2 : decode b_G_slotTypes 2 = .ok (.iconst 0, 1) := by decide +kernel
theorem d_G_slotTypes_3 : decode b_G_slotTypes 3 = .ok (.istore_n 3, 1) := by decide +kernel
theorem d_G_slotTypes_4 : decode b_G_slotTypes 4 = .ok (.iload_n 3, 1) := by decide +kernel
theorem d_G_slotTypes_5 : decode b_G_slotTypes 5 = .ok (.aload_n 1, 1) := by decide +kernel
theorem d_G_slotTypes_6 : decode b_G_slotTypes 6 = .ok (.arraylength, 1) := by decide +kernel
theorem d_G_slotTypes_7 : decode b_G_slotTypes 7 = .ok (.if_icmp .ge 23, 3) := by decide +kernel
theorem d_G_slotTypes_10 : decode b_G_slotTypes 10 = .ok (.iload_n 2, 1) := by decide +kernel
theorem d_G_slotTypes_11 : decode b_G_slotTypes 11 = .ok (.aload_n 0, 1) := by decide +kernel
theorem d_G_slotTypes_12 : decode b_G_slotTypes 12 = .ok (.getfield 11, 3) := by decide +kernel
theorem d_G_slotTypes_15 : decode b_G_slotTypes 15 = .ok (.aload_n 1, 1) := by decide +kernel
theorem d_G_slotTypes_16 : decode b_G_slotTypes 16 = .ok (.iload_n 3, 1) := by decide +kernel
theorem d_G_slotTypes_17 : decode b_G_slotTypes 17 = .ok (.iaload, 1) := by decide +kernel
theorem d_G_slotTypes_18 : decode b_G_slotTypes 18 = .ok (.aaload, 1) := by decide +kernel
theorem d_G_slotTypes_19 : decode b_G_slotTypes 19 = .ok (.getfield 60, 3) := by decide +kernel
theorem d_G_slotTypes_22 : decode b_G_slotTypes 22 = .ok (.iadd, 1) := by decide +kernel
theorem d_G_slotTypes_23 : decode b_G_slotTypes 23 = .ok (.istore_n 2, 1) := by decide +kernel
theorem d_G_slotTypes_24 : decode b_G_slotTypes 24 = .ok (.iinc 3 1, 3) := by decide +kernel
theorem d_G_slotTypes_27 : decode b_G_slotTypes 27 = .ok (.goto (-23), 3) := by decide +kernel
theorem d_G_slotTypes_30 : decode b_G_slotTypes 30 = .ok (.iload_n 2, 1) := by decide +kernel
theorem d_G_slotTypes_31 : decode b_G_slotTypes 31 = .ok (.newarray .int, 2) := by decide +kernel
theorem d_G_slotTypes_33 : decode b_G_slotTypes 33 = .ok (.astore_n 3, 1) := by decide +kernel
theorem d_G_slotTypes_34 : decode b_G_slotTypes 34 = .ok (.iconst 0, 1) := by decide +kernel
theorem d_G_slotTypes_35 : decode b_G_slotTypes 35 = .ok (.istore 4, 2) := by decide +kernel
theorem d_G_slotTypes_37 : decode b_G_slotTypes 37 = .ok (.iconst 0, 1) := by decide +kernel
theorem d_G_slotTypes_38 : decode b_G_slotTypes 38 = .ok (.istore 5, 2) := by decide +kernel
theorem d_G_slotTypes_40 : decode b_G_slotTypes 40 = .ok (.iload 5, 2) := by decide +kernel
theorem d_G_slotTypes_42 : decode b_G_slotTypes 42 = .ok (.aload_n 1, 1) := by decide +kernel
theorem d_G_slotTypes_43 : decode b_G_slotTypes 43 = .ok (.arraylength, 1) := by decide +kernel
theorem d_G_slotTypes_44 : decode b_G_slotTypes 44 = .ok (.if_icmp .ge 47, 3) := by decide +kernel
theorem d_G_slotTypes_47 : decode b_G_slotTypes 47 = .ok (.aload_n 0, 1) := by decide +kernel
theorem d_G_slotTypes_48 : decode b_G_slotTypes 48 = .ok (.getfield 11, 3) := by decide +kernel
theorem d_G_slotTypes_51 : decode b_G_slotTypes 51 = .ok (.aload_n 1, 1) := by decide +kernel
theorem d_G_slotTypes_52 : decode b_G_slotTypes 52 = .ok (.iload 5, 2) := by decide +kernel
theorem d_G_slotTypes_54 : decode b_G_slotTypes 54 = .ok (.iaload, 1) := by decide +kernel
theorem d_G_slotTypes_55 : decode b_G_slotTypes 55 = .ok (.aaload, 1) := by decide +kernel
theorem d_G_slotTypes_56 : decode b_G_slotTypes 56 = .ok (.astore 6, 2) := by decide +kernel
theorem d_G_slotTypes_58 : decode b_G_slotTypes 58 = .ok (.aload 6, 2) := by decide +kernel
theorem d_G_slotTypes_60 : decode b_G_slotTypes 60 = .ok (.getfield 190, 3) := by decide +kernel
theorem d_G_slotTypes_63 : decode b_G_slotTypes 63 = .ok (.iconst 0, 1) := by decide +kernel
theorem d_G_slotTypes_64 : decode b_G_slotTypes 64 = .ok (.aload_n 3, 1) := by decide +kernel
theorem d_G_slotTypes_65 : decode b_G_slotTypes 65 = .ok (.iload 4, 2) := by decide +kernel
theorem d_G_slotTypes_67 : decode b_G_slotTypes 67 = .ok (.aload 6, 2) := by decide +kernel
theorem d_G_slotTypes_69 : decode b_G_slotTypes 69 = .ok (.getfield 60, 3) := by decide +kernel
theorem d_G_slotTypes_72 : decode b_G_slotTypes 72 = .ok (.invokestatic 191, 3) := by decide +kernel
theorem d_G_slotTypes_75 : decode b_G_slotTypes 75 = .ok (.iload 4, 2) := by decide +kernel
theorem d_G_slotTypes_77 : decode b_G_slotTypes 77 = .ok (.aload 6, 2) := by decide +kernel
theorem d_G_slotTypes_79 : decode b_G_slotTypes 79 = .ok (.getfield 60, 3) := by decide +kernel
theorem d_G_slotTypes_82 : decode b_G_slotTypes 82 = .ok (.iadd, 1) := by decide +kernel
theorem d_G_slotTypes_83 : decode b_G_slotTypes 83 = .ok (.istore 4, 2) := by decide +kernel
theorem d_G_slotTypes_85 : decode b_G_slotTypes 85 = .ok (.iinc 5 1, 3) := by decide +kernel
theorem d_G_slotTypes_88 : decode b_G_slotTypes 88 = .ok (.goto (-48), 3) := by decide +kernel
theorem d_G_slotTypes_91 : decode b_G_slotTypes 91 = .ok (.aload_n 3, 1) := by decide +kernel
theorem d_G_slotTypes_92 : decode b_G_slotTypes 92 = .ok (.areturn, 1) := by decide +kernel
theorem d_T_init_0 : decode b_T_init 0 = .ok (.aload_n 0, 1) := by decide +kernel
theorem d_T_init_1 : decode b_T_init 1 = .ok (.invokespecial 3, 3) := by decide +kernel
theorem d_T_init_4 : decode b_T_init 4 = .ok (.aload_n 0, 1) := by decide +kernel
theorem d_T_init_5 : decode b_T_init 5 = .ok (.iconst (-1), 1) := by decide +kernel
theorem d_T_init_6 : decode b_T_init 6 = .ok (.putfield 9, 3) := by decide +kernel
theorem d_T_init_9 : decode b_T_init 9 = .ok (.aload_n 0, 1) := by decide +kernel
theorem d_T_init_10 : decode b_T_init 10 = .ok (.iload_n 1, 1) := by decide +kernel
theorem d_T_init_11 : decode b_T_init 11 = .ok (.putfield 15, 3) := by decide +kernel
theorem d_T_init_14 : decode b_T_init 14 = .ok (.aload_n 0, 1) := by decide +kernel
theorem d_T_init_15 : decode b_T_init 15 = .ok (.iload_n 2, 1) := by decide +kernel
theorem d_T_init_16 : decode b_T_init 16 = .ok (.putfield 18, 3) := by decide +kernel
theorem d_T_init_19 : decode b_T_init 19 = .ok (.aload_n 0, 1) := by decide +kernel
theorem d_T_init_20 : decode b_T_init 20 = .ok (.aload_n 3, 1) := by decide +kernel
theorem d_T_init_21 : decode b_T_init 21 = .ok (.putfield 21, 3) := by decide +kernel
theorem d_T_init_24 : decode b_T_init 24 = .ok (.aload_n 0, 1) := by decide +kernel
theorem d_T_init_25 : decode b_T_init 25 = .ok (.aload 4, 2) := by decide +kernel
theorem d_T_init_27 : decode b_T_init 27 = .ok (.putfield 25, 3) := by decide +kernel
theorem d_T_init_30 : decode b_T_init 30 = .ok (.aload_n 0, 1) := by decide +kernel
theorem d_T_init_31 : decode b_T_init 31 = .ok (.aload_n 3, 1) := by decide +kernel
theorem d_T_init_32 : decode b_T_init 32 = .ok (.arraylength, 1) := by decide +kernel
theorem d_T_init_33 : decode b_T_init 33 = .ok (.newarray .long, 2) := by decide +kernel
theorem d_T_init_35 : decode b_T_init 35 = .ok (.putfield 29, 3) := by decide +kernel
theorem d_T_init_38 : decode b_T_init 38 = .ok (.iconst 0, 1) := by decide +kernel
theorem d_T_init_39 : decode b_T_init 39 = .ok (.istore 5, 2) := by decide +kernel
theorem d_T_init_41 : decode b_T_init 41 = .ok (.iload 5, 2) := by decide +kernel
theorem d_T_init_43 : decode b_T_init 43 = .ok (.aload_n 3, 1) := by decide +kernel
theorem d_T_init_44 : decode b_T_init 44 = .ok (.arraylength, 1) := by decide +kernel
theorem d_T_init_45 : decode b_T_init 45 = .ok (.if_icmp .ge 28, 3) := by decide +kernel
theorem d_T_init_48 : decode b_T_init 48 = .ok (.aload_n 3, 1) := by decide +kernel
theorem d_T_init_49 : decode b_T_init 49 = .ok (.iload 5, 2) := by decide +kernel
theorem d_T_init_51 : decode b_T_init 51 = .ok (.iaload, 1) := by decide +kernel
theorem d_T_init_52 : decode b_T_init 52 = .ok (.bipush 6, 2) := by decide +kernel
theorem d_T_init_54 : decode b_T_init 54 = .ok (.if_icmp .lt 13, 3) := by decide +kernel
theorem d_T_init_57 : decode b_T_init 57 = .ok (.aload_n 0, 1) := by decide +kernel
theorem d_T_init_58 : decode b_T_init 58 = .ok (.getfield 29, 3) := by decide +kernel
theorem d_T_init_61 : decode b_T_init 61 = .ok (.iload 5, 2) := by decide +kernel
theorem d_T_init_63 : decode b_T_init 63 = .ok (.ldc2_w 33, 3) := by decide +kernel
theorem d_T_init_66 : decode b_T_init 66 = .ok (.lastore, 1) := by decide +kernel
theorem d_T_init_67 : decode b_T_init 67 = .ok (.iinc 5 1, 3) := by decide +kernel
theorem d_T_init_70 : decode b_T_init 70 = .ok (.goto (-29), 3) := by decide +kernel
theorem d_T_init_73 : decode b_T_init 73 = .ok (.return_, 1) := by decide +kernel
theorem d_G_keep_0 : decode b_G_keep 0 = .ok (.aload_n 0, 1) := by decide +kernel
theorem d_G_keep_1 : decode b_G_keep 1 = .ok (.getfield 17, 3) := by decide +kernel
theorem d_G_keep_4 : decode b_G_keep 4 = .ok (.aload_n 0, 1) := by decide +kernel
theorem d_G_keep_5 : decode b_G_keep 5 = .ok (.getfield 70, 3) := by decide +kernel
theorem d_G_keep_8 : decode b_G_keep 8 = .ok (.aload_n 1, 1) := by decide +kernel
theorem d_G_keep_9 : decode b_G_keep 9 = .ok (.aastore, 1) := by decide +kernel
theorem d_G_keep_10 : decode b_G_keep 10 = .ok (.aload_n 0, 1) := by decide +kernel
theorem d_G_keep_11 : decode b_G_keep 11 = .ok (.dup, 1) := by decide +kernel
theorem d_G_keep_12 : decode b_G_keep 12 = .ok (.getfield 70, 3) := by decide +kernel
theorem d_G_keep_15 : decode b_G_keep 15 = .ok (.iconst 1, 1) := by decide +kernel
theorem d_G_keep_16 : decode b_G_keep 16 = .ok (.iadd, 1) := by decide +kernel
theorem d_G_keep_17 : decode b_G_keep 17 = .ok (.putfield 70, 3) := by decide +kernel
theorem d_G_keep_20 : decode b_G_keep 20 = .ok (.aload_n 0, 1) := by decide +kernel
theorem d_G_keep_21 : decode b_G_keep 21 = .ok (.getfield 70, 3) := by decide +kernel
theorem d_G_keep_24 : decode b_G_keep 24 = .ok (.iconst 1, 1) := by decide +kernel
theorem d_G_keep_25 : decode b_G_keep 25 = .ok (.isub, 1) := by decide +kernel
theorem d_G_keep_26 : decode b_G_keep 26 = .ok (.ireturn, 1) := by decide +kernel
theorem d_G_text_0 : decode b_G_text 0 = .ok (.lload_n 1, 1) := by decide +kernel
theorem d_G_text_1 : decode b_G_text 1 = .ok (.ldc2_w 90, 3) := by decide +kernel
theorem d_G_text_4 : decode b_G_text 4 = .ok (.land, 1) := by decide +kernel
theorem d_G_text_5 : decode b_G_text 5 = .ok (.lconst 0, 1) := by decide +kernel
theorem d_G_text_6 : decode b_G_text 6 = .ok (.lcmp, 1) := by decide +kernel
theorem d_G_text_7 : decode b_G_text 7 = .ok (.ifCond .eq 5, 3) := by decide +kernel
theorem d_G_text_10 : decode b_G_text 10 = .ok (.iconst (-1), 1) := by decide +kernel
theorem d_G_text_11 : decode b_G_text 11 = .ok (.ireturn, 1) := by decide +kernel
theorem d_G_text_12 : decode b_G_text 12 = .ok (.aload_n 0, 1) := by decide +kernel
theorem d_G_text_13 : decode b_G_text 13 = .ok (.getfield 70, 3) := by decide +kernel
theorem d_G_text_16 : decode b_G_text 16 = .ok (.bipush 12, 2) := by decide +kernel
theorem d_G_text_18 : decode b_G_text 18 = .ok (.if_icmp .lt 6, 3) := by decide +kernel
theorem d_G_text_21 : decode b_G_text 21 = .ok (.bipush (-2), 2) := by decide +kernel
theorem d_G_text_23 : decode b_G_text 23 = .ok (.ireturn, 1) := by decide +kernel
theorem d_G_text_24 : decode b_G_text 24 = .ok (.aload_n 0, 1) := by decide +kernel
theorem d_G_text_25 : decode b_G_text 25 = .ok (.new 15, 3) := by decide +kernel
theorem d_G_text_28 : decode b_G_text 28 = .ok (.dup, 1) := by decide +kernel
theorem d_G_text_29 : decode b_G_text 29 = .ok (.iconst 1, 1) := by decide +kernel
theorem d_G_text_30 : decode b_G_text 30 = .ok (.iconst (-1), 1) := by decide +kernel
theorem d_G_text_31 : decode b_G_text 31 = .ok (.iconst 0, 1) := by decide +kernel
theorem d_G_text_32 : decode b_G_text 32 = .ok (.newarray .int, 2) := by decide +kernel
theorem d_G_text_34 : decode b_G_text 34 = .ok (.lload_n 1, 1) := by decide +kernel
theorem d_G_text_35 : decode b_G_text 35 = .ok (.invokestatic 92, 3) := by decide +kernel
theorem d_G_text_38 : decode b_G_text 38 = .ok (.invokespecial 83, 3) := by decide +kernel
theorem d_G_text_41 : decode b_G_text 41 = .ok (.invokevirtual 86, 3) := by decide +kernel
theorem d_G_text_44 : decode b_G_text 44 = .ok (.ireturn, 1) := by decide +kernel
theorem d_G_signsOf_0 : decode b_G_signsOf 0 = .ok (.new 197, 3) := by decide +kernel
theorem d_G_signsOf_3 : decode b_G_signsOf 3 = .ok (.dup, 1) := by decide +kernel
theorem d_G_signsOf_4 : decode b_G_signsOf 4 = .ok (.invokespecial 199, 3) := by decide +kernel
theorem d_G_signsOf_7 : decode b_G_signsOf 7 = .ok (.astore_n 2, 1) := by decide +kernel
theorem d_G_signsOf_8 : decode b_G_signsOf 8 = .ok (.bipush 56, 2) := by decide +kernel
theorem d_G_signsOf_10 : decode b_G_signsOf 10 = .ok (.istore_n 3, 1) := by decide +kernel
theorem d_G_signsOf_11 : decode b_G_signsOf 11 = .ok (.iload_n 3, 1) := by decide +kernel
theorem d_G_signsOf_12 : decode b_G_signsOf 12 = .ok (.ifCond .lt 32, 3) := by decide +kernel
theorem d_G_signsOf_15 : decode b_G_signsOf 15 = .ok (.lload_n 0, 1) := by decide +kernel
theorem d_G_signsOf_16 : decode b_G_signsOf 16 = .ok (.iload_n 3, 1) := by decide +kernel
theorem d_G_signsOf_17 : decode b_G_signsOf 17 = .ok (.lushr, 1) := by decide +kernel
theorem d_G_signsOf_18 : decode b_G_signsOf 18 = .ok (.ldc2_w 200, 3) := by decide +kernel
theorem d_G_signsOf_21 : decode b_G_signsOf 21 = .ok (.land, 1) := by decide +kernel
theorem d_G_signsOf_22 : decode b_G_signsOf 22 = .ok (.l2i, 1) := by decide +kernel
theorem d_G_signsOf_23 : decode b_G_signsOf 23 = .ok (.i2c, 1) := by decide +kernel
theorem d_G_signsOf_24 : decode b_G_signsOf 24 = .ok (.istore 4, 2) := by decide +kernel
theorem d_G_signsOf_26 : decode b_G_signsOf 26 = .ok (.iload 4, 2) := by decide +kernel
theorem d_G_signsOf_28 : decode b_G_signsOf 28 = .ok (.ifCond .eq 10, 3) := by decide +kernel
theorem d_G_signsOf_31 : decode b_G_signsOf 31 = .ok (.aload_n 2, 1) := by decide +kernel
theorem d_G_signsOf_32 : decode b_G_signsOf 32 = .ok (.iload 4, 2) := by decide +kernel
theorem d_G_signsOf_34 : decode b_G_signsOf 34 = .ok (.invokevirtual 202, 3) := by decide +kernel
theorem d_G_signsOf_37 : decode b_G_signsOf 37 = .ok (.pop, 1) := by decide +kernel
theorem d_G_signsOf_38 : decode b_G_signsOf 38 = .ok (.iinc 3 (-8), 3) := by decide +kernel
theorem d_G_signsOf_41 : decode b_G_signsOf 41 = .ok (.goto (-30), 3) := by decide +kernel
theorem d_G_signsOf_44 : decode b_G_signsOf 44 = .ok (.aload_n 2, 1) := by decide +kernel
theorem d_G_signsOf_45 : decode b_G_signsOf 45 = .ok (.invokevirtual 206, 3) := by decide +kernel
theorem d_G_signsOf_48 : decode b_G_signsOf 48 = .ok (.areturn, 1) := by decide +kernel
theorem d_JB_init_0 : decode b_JB_init 0 = .ok (.aload_n 0, 1) := by decide +kernel
theorem d_JB_init_1 : decode b_JB_init 1 = .ok (.bipush 16, 2) := by decide +kernel
theorem d_JB_init_3 : decode b_JB_init 3 = .ok (.invokespecial 1, 3) := by decide +kernel
theorem d_JB_init_6 : decode b_JB_init 6 = .ok (.return_, 1) := by decide +kernel
theorem d_JA_init_0 : decode b_JA_init 0 = .ok (.aload_n 0, 1) := by decide +kernel
theorem d_JA_init_1 : decode b_JA_init 1 = .ok (.invokespecial 3, 3) := by decide +kernel
theorem d_JA_init_4 : decode b_JA_init 4 = .ok (.getstatic 18, 3) := by decide +kernel
theorem d_JA_init_7 : decode b_JA_init 7 = .ok (.ifCond .eq 18, 3) := by decide +kernel
theorem d_JA_init_10 : decode b_JA_init 10 = .ok (.aload_n 0, 1) := by decide +kernel
theorem d_JA_init_11 : decode b_JA_init 11 = .ok (.iload_n 1, 1) := by decide +kernel
theorem d_JA_init_12 : decode b_JA_init 12 = .ok (.newarray .byte, 2) := by decide +kernel
theorem d_JA_init_14 : decode b_JA_init 14 = .ok (.putfield 15, 3) := by decide +kernel
theorem d_JA_init_17 : decode b_JA_init 17 = .ok (.aload_n 0, 1) := by decide +kernel
theorem d_JA_init_18 : decode b_JA_init 18 = .ok (.iconst 0, 1) := by decide +kernel
theorem d_JA_init_19 : decode b_JA_init 19 = .ok (.putfield 22, 3) := by decide +kernel
theorem d_JA_init_22 : decode b_JA_init 22 = .ok (.goto 16, 3) := by decide +kernel
theorem d_JA_init_25 : decode b_JA_init 25 = .ok (.aload_n 0, 1) := by decide +kernel
theorem d_JA_init_26 : decode b_JA_init 26 = .ok (.iload_n 1, 1) := by decide +kernel
theorem d_JA_init_27 : decode b_JA_init 27 = .ok (.invokestatic 26, 3) := by decide +kernel
theorem d_JA_init_30 : decode b_JA_init 30 = .ok (.putfield 15, 3) := by decide +kernel
theorem d_JA_init_33 : decode b_JA_init 33 = .ok (.aload_n 0, 1) := by decide +kernel
theorem d_JA_init_34 : decode b_JA_init 34 = .ok (.iconst 1, 1) := by decide +kernel
theorem d_JA_init_35 : decode b_JA_init 35 = .ok (.putfield 22, 3) := by decide +kernel
theorem d_JA_init_38 : decode b_JA_init 38 = .ok (.return_, 1) := by decide +kernel
theorem d_JU_newBytesFor_0 : decode b_JU_newBytesFor 0 = .ok (.iload_n 0, 1) := by decide +kernel
theorem d_JU_newBytesFor_1 : decode b_JU_newBytesFor 1 = .ok (.invokestatic 11, 3) := by decide +kernel
theorem d_JU_newBytesFor_4 : decode b_JU_newBytesFor 4 = .ok (.newarray .byte, 2) := by decide +kernel
theorem d_JU_newBytesFor_6 : decode b_JU_newBytesFor 6 = .ok (.areturn, 1) := by decide +kernel
theorem d_JB_append_0 : decode b_JB_append 0 = .ok (.aload_n 0, 1) := by decide +kernel
theorem d_JB_append_1 : decode b_JB_append 1 = .ok (.iload_n 1, 1) := by decide +kernel
theorem d_JB_append_2 : decode b_JB_append 2 = .ok (.invokespecial 50, 3) := by decide +kernel
theorem d_JB_append_5 : decode b_JB_append 5 = .ok (.pop, 1) := by decide +kernel
theorem d_JB_append_6 : decode b_JB_append 6 = .ok (.aload_n 0, 1) := by decide +kernel
theorem d_JB_append_7 : decode b_JB_append 7 = .ok (.areturn, 1) := by decide +kernel
theorem d_JA_append_0 : decode b_JA_append 0 = .ok (.aload_n 0, 1) := by decide +kernel
theorem d_JA_append_1 : decode b_JA_append 1 = .ok (.aload_n 0, 1) := by decide +kernel
theorem d_JA_append_2 : decode b_JA_append 2 = .ok (.getfield 79, 3) := by decide +kernel
theorem d_JA_append_5 : decode b_JA_append 5 = .ok (.iconst 1, 1) := by decide +kernel
theorem d_JA_append_6 : decode b_JA_append 6 = .ok (.iadd, 1) := by decide +kernel
theorem d_JA_append_7 : decode b_JA_append 7 = .ok (.invokevirtual 100, 3) := by decide +kernel
theorem d_JA_append_10 : decode b_JA_append 10 = .ok (.aload_n 0, 1) := by decide +kernel
theorem d_JA_append_11 : decode b_JA_append 11 = .ok (.invokevirtual 83, 3) := by decide +kernel
theorem d_JA_append_14 : decode b_JA_append 14 = .ok (.ifCond .eq 31, 3) := by decide +kernel
theorem d_JA_append_17 : decode b_JA_append 17 = .ok (.iload_n 1, 1) := by decide +kernel
theorem d_JA_append_18 : decode b_JA_append 18 = .ok (.invokestatic 191, 3) := by decide +kernel
theorem d_JA_append_21 : decode b_JA_append 21 = .ok (.ifCond .eq 24, 3) := by decide +kernel
theorem d_JA_append_24 : decode b_JA_append 24 = .ok (.aload_n 0, 1) := by decide +kernel
theorem d_JA_append_25 : decode b_JA_append 25 = .ok (.getfield 15, 3) := by decide +kernel
theorem d_JA_append_28 : decode b_JA_append 28 = .ok (.aload_n 0, 1) := by decide +kernel
theorem d_JA_append_29 : decode b_JA_append 29 = .ok (.dup, 1) := by decide +kernel
theorem d_JA_append_30 : decode b_JA_append 30 = .ok (.getfield 79, 3) := by decide +kernel
theorem d_JA_append_33 : decode b_JA_append 33 = .ok (.dup_x1, 1) := by decide +kernel
theorem d_JA_append_34 : decode b_JA_append 34 = .ok (.iconst 1, 1) := by decide +kernel
theorem d_JA_append_35 : decode b_JA_append 35 = .ok (.iadd, 1) := by decide +kernel
theorem d_JA_append_36 : decode b_JA_append 36 = .ok (.putfield 79, 3) := by decide +kernel
theorem d_JA_append_39 : decode b_JA_append 39 = .ok (.iload_n 1, 1) := by decide +kernel
theorem d_JA_append_40 : decode b_JA_append 40 = .ok (.i2b, 1) := by decide +kernel
end
section
theorem d_JA_append_41 : decode b_JA_append 41 = .ok (.bastore, 1) := by decide +kernel
theorem d_JA_append_42 : decode b_JA_append 42 = .ok (.goto 33, 3) := by decide +kernel
theorem d_JA_append_45 : decode b_JA_append 45 = .ok (.aload_n 0, 1) := by decide +kernel
theorem d_JA_append_46 : decode b_JA_append 46 = .ok (.invokevirtual 83, 3) := by decide +kernel
theorem d_JA_append_49 : decode b_JA_append 49 = .ok (.ifCond .eq 7, 3) := by decide +kernel
theorem d_JA_append_52 : decode b_JA_append 52 = .ok (.aload_n 0, 1) := by decide +kernel
theorem d_JA_append_53 : decode b_JA_append 53 = .ok (.invokevirtual 195, 3) := by decide +kernel
theorem d_JA_append_56 : decode b_JA_append 56 = .ok (.aload_n 0, 1) := by decide +kernel
theorem d_JA_append_57 : decode b_JA_append 57 = .ok (.getfield 15, 3) := by decide +kernel
theorem d_JA_append_60 : decode b_JA_append 60 = .ok (.aload_n 0, 1) := by decide +kernel
theorem d_JA_append_61 : decode b_JA_append 61 = .ok (.dup, 1) := by decide +kernel
theorem d_JA_append_62 : decode b_JA_append 62 = .ok (.getfield 79, 3) := by decide +kernel
theorem d_JA_append_65 : decode b_JA_append 65 = .ok (.dup_x1, 1) := by decide +kernel
theorem d_JA_append_66 : decode b_JA_append 66 = .ok (.iconst 1, 1) := by decide +kernel
theorem d_JA_append_67 : decode b_JA_append 67 = .ok (.iadd, 1) := by decide +kernel
theorem d_JA_append_68 : decode b_JA_append 68 = .ok (.putfield 79, 3) := by decide +kernel
theorem d_JA_append_71 : decode b_JA_append 71 = .ok (.iload_n 1, 1) := by decide +kernel
theorem d_JA_append_72 : decode b_JA_append 72 = .ok (.invokestatic 197, 3) := by decide +kernel
theorem d_JA_append_75 : decode b_JA_append 75 = .ok (.aload_n 0, 1) := by decide +kernel
theorem d_JA_append_76 : decode b_JA_append 76 = .ok (.areturn, 1) := by decide +kernel
theorem d_JA_ensureCapacityInternal_0 : decode b_JA_ensureCapacityInternal 0 = .ok (.aload_n 0, 1) := by decide +kernel
theorem d_JA_ensureCapacityInternal_1 : decode b_JA_ensureCapacityInternal 1 = .ok (.getfield 15, 3) := by decide +kernel
theorem d_JA_ensureCapacityInternal_4 : decode b_JA_ensureCapacityInternal 4 = .ok (.arraylength, 1) := by decide +kernel
theorem d_JA_ensureCapacityInternal_5 : decode b_JA_ensureCapacityInternal 5 = .ok (.aload_n 0, 1) := by decide +kernel
theorem d_JA_ensureCapacityInternal_6 : decode b_JA_ensureCapacityInternal 6 = .ok (.getfield 22, 3) := by decide +kernel
theorem d_JA_ensureCapacityInternal_9 : decode b_JA_ensureCapacityInternal 9 = .ok (.ishr, 1) := by decide +kernel
theorem d_JA_ensureCapacityInternal_10 : decode b_JA_ensureCapacityInternal 10 = .ok (.istore_n 2, 1) := by decide +kernel
theorem d_JA_ensureCapacityInternal_11 : decode b_JA_ensureCapacityInternal 11 = .ok (.iload_n 1, 1) := by decide +kernel
theorem d_JA_ensureCapacityInternal_12 : decode b_JA_ensureCapacityInternal 12 = .ok (.iload_n 2, 1) := by decide +kernel
theorem d_JA_ensureCapacityInternal_13 : decode b_JA_ensureCapacityInternal 13 = .ok (.isub, 1) := by decide +kernel
theorem d_JA_ensureCapacityInternal_14 : decode b_JA_ensureCapacityInternal 14 = .ok (.ifCond .le 24, 3) := by decide +kernel
theorem d_JA_ensureCapacityInternal_17 : decode b_JA_ensureCapacityInternal 17 = .ok (.aload_n 0, 1) := by decide +kernel
theorem d_JA_ensureCapacityInternal_18 : decode b_JA_ensureCapacityInternal 18 = .ok (.aload_n 0, 1) := by decide +kernel
theorem d_JA_ensureCapacityInternal_19 : decode b_JA_ensureCapacityInternal 19 = .ok (.getfield 15, 3) := by decide +kernel
theorem d_JA_ensureCapacityInternal_22 : decode b_JA_ensureCapacityInternal 22 = .ok (.aload_n 0, 1) := by decide +kernel
theorem d_JA_ensureCapacityInternal_23 : decode b_JA_ensureCapacityInternal 23 = .ok (.iload_n 1, 1) := by decide +kernel
theorem d_JA_ensureCapacityInternal_24 : decode b_JA_ensureCapacityInternal 24 = .ok (.invokevirtual 104, 3) := by decide +kernel
theorem d_JA_ensureCapacityInternal_27 : decode b_JA_ensureCapacityInternal 27 = .ok (.aload_n 0, 1) := by decide +kernel
theorem d_JA_ensureCapacityInternal_28 : decode b_JA_ensureCapacityInternal 28 = .ok (.getfield 22, 3) := by decide +kernel
theorem d_JA_ensureCapacityInternal_31 : decode b_JA_ensureCapacityInternal 31 = .ok (.ishl, 1) := by decide +kernel
theorem d_JA_ensureCapacityInternal_32 : decode b_JA_ensureCapacityInternal 32 = .ok (.invokestatic 108, 3) := by decide +kernel
theorem d_JA_ensureCapacityInternal_35 : decode b_JA_ensureCapacityInternal 35 = .ok (.putfield 15, 3) := by decide +kernel
theorem d_JA_ensureCapacityInternal_38 : decode b_JA_ensureCapacityInternal 38 = .ok (.return_, 1) := by decide +kernel
theorem d_JA_newCapacity_0 : decode b_JA_newCapacity 0 = .ok (.aload_n 0, 1) := by decide +kernel
theorem d_JA_newCapacity_1 : decode b_JA_newCapacity 1 = .ok (.getfield 15, 3) := by decide +kernel
theorem d_JA_newCapacity_4 : decode b_JA_newCapacity 4 = .ok (.arraylength, 1) := by decide +kernel
theorem d_JA_newCapacity_5 : decode b_JA_newCapacity 5 = .ok (.istore_n 2, 1) := by decide +kernel
theorem d_JA_newCapacity_6 : decode b_JA_newCapacity 6 = .ok (.iload_n 1, 1) := by decide +kernel
theorem d_JA_newCapacity_7 : decode b_JA_newCapacity 7 = .ok (.aload_n 0, 1) := by decide +kernel
theorem d_JA_newCapacity_8 : decode b_JA_newCapacity 8 = .ok (.getfield 22, 3) := by decide +kernel
theorem d_JA_newCapacity_11 : decode b_JA_newCapacity 11 = .ok (.ishl, 1) := by decide +kernel
theorem d_JA_newCapacity_12 : decode b_JA_newCapacity 12 = .ok (.istore_n 3, 1) := by decide +kernel
theorem d_JA_newCapacity_13 : decode b_JA_newCapacity 13 = .ok (.iload_n 3, 1) := by decide +kernel
theorem d_JA_newCapacity_14 : decode b_JA_newCapacity 14 = .ok (.iload_n 2, 1) := by decide +kernel
theorem d_JA_newCapacity_15 : decode b_JA_newCapacity 15 = .ok (.isub, 1) := by decide +kernel
theorem d_JA_newCapacity_16 : decode b_JA_newCapacity 16 = .ok (.istore 4, 2) := by decide +kernel
theorem d_JA_newCapacity_18 : decode b_JA_newCapacity 18 = .ok (.iload_n 2, 1) := by decide +kernel
theorem d_JA_newCapacity_19 : decode b_JA_newCapacity 19 = .ok (.iload 4, 2) := by decide +kernel
theorem d_JA_newCapacity_21 : decode b_JA_newCapacity 21 = .ok (.iload_n 2, 1) := by decide +kernel
theorem d_JA_newCapacity_22 : decode b_JA_newCapacity 22 = .ok (.iconst 2, 1) := by decide +kernel
theorem d_JA_newCapacity_23 : decode b_JA_newCapacity 23 = .ok (.aload_n 0, 1) := by decide +kernel
theorem d_JA_newCapacity_24 : decode b_JA_newCapacity 24 = .ok (.getfield 22, 3) := by decide +kernel
theorem d_JA_newCapacity_27 : decode b_JA_newCapacity 27 = .ok (.ishl, 1) := by decide +kernel
theorem d_JA_newCapacity_28 : decode b_JA_newCapacity 28 = .ok (.iadd, 1) := by decide +kernel
theorem d_JA_newCapacity_29 : decode b_JA_newCapacity 29 = .ok (.invokestatic 114, 3) := by decide +kernel
theorem d_JA_newCapacity_32 : decode b_JA_newCapacity 32 = .ok (.istore 5, 2) := by decide +kernel
theorem d_JA_newCapacity_34 : decode b_JA_newCapacity 34 = .ok (.iload 5, 2) := by decide +kernel
theorem d_JA_newCapacity_36 : decode b_JA_newCapacity 36 = .ok (.ldc 39, 2) := by decide +kernel
theorem d_JA_newCapacity_38 : decode b_JA_newCapacity 38 = .ok (.if_icmp .ne 13, 3) := by decide +kernel
theorem d_JA_newCapacity_41 : decode b_JA_newCapacity 41 = .ok (.new 120, 3) := by decide +kernel
theorem d_JA_newCapacity_44 : decode b_JA_newCapacity 44 = .ok (.dup, 1) := by decide +kernel
theorem d_JA_newCapacity_45 : decode b_JA_newCapacity 45 = .ok (.ldc 122, 2) := by decide +kernel
theorem d_JA_newCapacity_47 : decode b_JA_newCapacity 47 = .ok (.invokespecial 124, 3) := by decide +kernel
theorem d_JA_newCapacity_50 : decode b_JA_newCapacity 50 = .ok (.athrow, 1) := by decide +kernel
theorem d_JA_newCapacity_51 : decode b_JA_newCapacity 51 = .ok (.iload 5, 2) := by decide +kernel
theorem d_JA_newCapacity_53 : decode b_JA_newCapacity 53 = .ok (.aload_n 0, 1) := by decide +kernel
theorem d_JA_newCapacity_54 : decode b_JA_newCapacity 54 = .ok (.getfield 22, 3) := by decide +kernel
theorem d_JA_newCapacity_57 : decode b_JA_newCapacity 57 = .ok (.ishr, 1) := by decide +kernel
theorem d_JA_newCapacity_58 : decode b_JA_newCapacity 58 = .ok (.ireturn, 1) := by decide +kernel
theorem d_JP_newLength_0 : decode b_JP_newLength 0 = .ok (.iload_n 0, 1) := by decide +kernel
theorem d_JP_newLength_1 : decode b_JP_newLength 1 = .ok (.iload_n 1, 1) := by decide +kernel
theorem d_JP_newLength_2 : decode b_JP_newLength 2 = .ok (.iload_n 2, 1) := by decide +kernel
theorem d_JP_newLength_3 : decode b_JP_newLength 3 = .ok (.invokestatic 194, 3) := by decide +kernel
theorem d_JP_newLength_6 : decode b_JP_newLength 6 = .ok (.iadd, 1) := by decide +kernel
theorem d_JP_newLength_7 : decode b_JP_newLength 7 = .ok (.istore_n 3, 1) := by decide +kernel
theorem d_JP_newLength_8 : decode b_JP_newLength 8 = .ok (.iconst 0, 1) := by decide +kernel
theorem d_JP_newLength_9 : decode b_JP_newLength 9 = .ok (.iload_n 3, 1) := by decide +kernel
theorem d_JP_newLength_10 : decode b_JP_newLength 10 = .ok (.if_icmp .ge 11, 3) := by decide +kernel
theorem d_JP_newLength_13 : decode b_JP_newLength 13 = .ok (.iload_n 3, 1) := by decide +kernel
theorem d_JP_newLength_14 : decode b_JP_newLength 14 = .ok (.ldc 200, 2) := by decide +kernel
theorem d_JP_newLength_16 : decode b_JP_newLength 16 = .ok (.if_icmp .gt 5, 3) := by decide +kernel
theorem d_JP_newLength_19 : decode b_JP_newLength 19 = .ok (.iload_n 3, 1) := by decide +kernel
theorem d_JP_newLength_20 : decode b_JP_newLength 20 = .ok (.ireturn, 1) := by decide +kernel
theorem d_JP_newLength_21 : decode b_JP_newLength 21 = .ok (.iload_n 0, 1) := by decide +kernel
theorem d_JP_newLength_22 : decode b_JP_newLength 22 = .ok (.iload_n 1, 1) := by decide +kernel
theorem d_JP_newLength_23 : decode b_JP_newLength 23 = .ok (.invokestatic 201, 3) := by decide +kernel
theorem d_JP_newLength_26 : decode b_JP_newLength 26 = .ok (.ireturn, 1) := by decide +kernel
theorem d_JM_max_0 : decode b_JM_max 0 = .ok (.iload_n 0, 1) := by decide +kernel
theorem d_JM_max_1 : decode b_JM_max 1 = .ok (.iload_n 1, 1) := by decide +kernel
theorem d_JM_max_2 : decode b_JM_max 2 = .ok (.if_icmp .lt 7, 3) := by decide +kernel
theorem d_JM_max_5 : decode b_JM_max 5 = .ok (.iload_n 0, 1) := by decide +kernel
theorem d_JM_max_6 : decode b_JM_max 6 = .ok (.goto 4, 3) := by decide +kernel
theorem d_JM_max_9 : decode b_JM_max 9 = .ok (.iload_n 1, 1) := by decide +kernel
theorem d_JM_max_10 : decode b_JM_max 10 = .ok (.ireturn, 1) := by decide +kernel
theorem d_JP_hugeLength_0 : decode b_JP_hugeLength 0 = .ok (.iload_n 0, 1) := by decide +kernel
theorem d_JP_hugeLength_1 : decode b_JP_hugeLength 1 = .ok (.iload_n 1, 1) := by decide +kernel
theorem d_JP_hugeLength_2 : decode b_JP_hugeLength 2 = .ok (.iadd, 1) := by decide +kernel
theorem d_JP_hugeLength_3 : decode b_JP_hugeLength 3 = .ok (.istore_n 2, 1) := by decide +kernel
theorem d_JP_hugeLength_4 : decode b_JP_hugeLength 4 = .ok (.iload_n 2, 1) := by decide +kernel
theorem d_JP_hugeLength_5 : decode b_JP_hugeLength 5 = .ok (.ifCond .ge 44, 3) := by decide +kernel
theorem d_JP_hugeLength_8 : decode b_JP_hugeLength 8 = .ok (.new 204, 3) := by decide +kernel
theorem d_JP_hugeLength_11 : decode b_JP_hugeLength 11 = .ok (.dup, 1) := by decide +kernel
theorem d_JP_hugeLength_12 : decode b_JP_hugeLength 12 = .ok (.new 89, 3) := by decide +kernel
theorem d_JP_hugeLength_15 : decode b_JP_hugeLength 15 = .ok (.dup, 1) := by decide +kernel
theorem d_JP_hugeLength_16 : decode b_JP_hugeLength 16 = .ok (.invokespecial 91, 3) := by decide +kernel
theorem d_JP_hugeLength_19 : decode b_JP_hugeLength 19 = .ok (.ldc 206, 2) := by decide +kernel
theorem d_JP_hugeLength_21 : decode b_JP_hugeLength 21 = .ok (.invokevirtual 94, 3) := by decide +kernel
theorem d_JP_hugeLength_24 : decode b_JP_hugeLength 24 = .ok (.iload_n 0, 1) := by decide +kernel
theorem d_JP_hugeLength_25 : decode b_JP_hugeLength 25 = .ok (.invokevirtual 98, 3) := by decide +kernel
theorem d_JP_hugeLength_28 : decode b_JP_hugeLength 28 = .ok (.ldc 208, 2) := by decide +kernel
theorem d_JP_hugeLength_30 : decode b_JP_hugeLength 30 = .ok (.invokevirtual 94, 3) := by decide +kernel
theorem d_JP_hugeLength_33 : decode b_JP_hugeLength 33 = .ok (.iload_n 1, 1) := by decide +kernel
theorem d_JP_hugeLength_34 : decode b_JP_hugeLength 34 = .ok (.invokevirtual 98, 3) := by decide +kernel
theorem d_JP_hugeLength_37 : decode b_JP_hugeLength 37 = .ok (.ldc 210, 2) := by decide +kernel
theorem d_JP_hugeLength_39 : decode b_JP_hugeLength 39 = .ok (.invokevirtual 94, 3) := by decide +kernel
theorem d_JP_hugeLength_42 : decode b_JP_hugeLength 42 = .ok (.invokevirtual 101, 3) := by decide +kernel
theorem d_JP_hugeLength_45 : decode b_JP_hugeLength 45 = .ok (.invokespecial 212, 3) := by decide +kernel
theorem d_JP_hugeLength_48 : decode b_JP_hugeLength 48 = .ok (.athrow, 1) := by decide +kernel
theorem d_JP_hugeLength_49 : decode b_JP_hugeLength 49 = .ok (.iload_n 2, 1) := by decide +kernel
theorem d_JP_hugeLength_50 : decode b_JP_hugeLength 50 = .ok (.ldc 200, 2) := by decide +kernel
theorem d_JP_hugeLength_52 : decode b_JP_hugeLength 52 = .ok (.if_icmp .gt 6, 3) := by decide +kernel
theorem d_JP_hugeLength_55 : decode b_JP_hugeLength 55 = .ok (.ldc 200, 2) := by decide +kernel
theorem d_JP_hugeLength_57 : decode b_JP_hugeLength 57 = .ok (.ireturn, 1) := by decide +kernel
theorem d_JP_hugeLength_58 : decode b_JP_hugeLength 58 = .ok (.iload_n 2, 1) := by decide +kernel
theorem d_JP_hugeLength_59 : decode b_JP_hugeLength 59 = .ok (.ireturn, 1) := by decide +kernel
theorem d_JR_copyOf2_0 : decode b_JR_copyOf2 0 = .ok (.iload_n 1, 1) := by decide +kernel
theorem d_JR_copyOf2_1 : decode b_JR_copyOf2 1 = .ok (.aload_n 0, 1) := by decide +kernel
theorem d_JR_copyOf2_2 : decode b_JR_copyOf2 2 = .ok (.arraylength, 1) := by decide +kernel
theorem d_JR_copyOf2_3 : decode b_JR_copyOf2 3 = .ok (.if_icmp .ne 11, 3) := by decide +kernel
theorem d_JR_copyOf2_6 : decode b_JR_copyOf2 6 = .ok (.aload_n 0, 1) := by decide +kernel
theorem d_JR_copyOf2_7 : decode b_JR_copyOf2 7 = .ok (.invokevirtual 310, 3) := by decide +kernel
theorem d_JR_copyOf2_10 : decode b_JR_copyOf2 10 = .ok (.checkcast 311, 3) := by decide +kernel
theorem d_JR_copyOf2_13 : decode b_JR_copyOf2 13 = .ok (.areturn, 1) := by decide +kernel
theorem d_JR_copyOf2_14 : decode b_JR_copyOf2 14 = .ok (.iload_n 1, 1) := by decide +kernel
theorem d_JR_copyOf2_15 : decode b_JR_copyOf2 15 = .ok (.newarray .byte, 2) := by decide +kernel
theorem d_JR_copyOf2_17 : decode b_JR_copyOf2 17 = .ok (.astore_n 2, 1) := by decide +kernel
theorem d_JR_copyOf2_18 : decode b_JR_copyOf2 18 = .ok (.aload_n 0, 1) := by decide +kernel
theorem d_JR_copyOf2_19 : decode b_JR_copyOf2 19 = .ok (.iconst 0, 1) := by decide +kernel
theorem d_JR_copyOf2_20 : decode b_JR_copyOf2 20 = .ok (.aload_n 2, 1) := by decide +kernel
theorem d_JR_copyOf2_21 : decode b_JR_copyOf2 21 = .ok (.iconst 0, 1) := by decide +kernel
theorem d_JR_copyOf2_22 : decode b_JR_copyOf2 22 = .ok (.aload_n 0, 1) := by decide +kernel
theorem d_JR_copyOf2_23 : decode b_JR_copyOf2 23 = .ok (.arraylength, 1) := by decide +kernel
theorem d_JR_copyOf2_24 : decode b_JR_copyOf2 24 = .ok (.iload_n 1, 1) := by decide +kernel
theorem d_JR_copyOf2_25 : decode b_JR_copyOf2 25 = .ok (.invokestatic 304, 3) := by decide +kernel
theorem d_JR_copyOf2_28 : decode b_JR_copyOf2 28 = .ok (.invokestatic 150, 3) := by decide +kernel
theorem d_JR_copyOf2_31 : decode b_JR_copyOf2 31 = .ok (.aload_n 2, 1) := by decide +kernel
theorem d_JR_copyOf2_32 : decode b_JR_copyOf2 32 = .ok (.areturn, 1) := by decide +kernel
theorem d_JA_isLatin1_0 : decode b_JA_isLatin1 0 = .ok (.getstatic 18, 3) := by decide +kernel
theorem d_JA_isLatin1_3 : decode b_JA_isLatin1 3 = .ok (.ifCond .eq 14, 3) := by decide +kernel
theorem d_JA_isLatin1_6 : decode b_JA_isLatin1 6 = .ok (.aload_n 0, 1) := by decide +kernel
theorem d_JA_isLatin1_7 : decode b_JA_isLatin1 7 = .ok (.getfield 22, 3) := by decide +kernel
theorem d_JA_isLatin1_10 : decode b_JA_isLatin1 10 = .ok (.ifCond .ne 7, 3) := by decide +kernel
theorem d_JA_isLatin1_13 : decode b_JA_isLatin1 13 = .ok (.iconst 1, 1) := by decide +kernel
theorem d_JA_isLatin1_14 : decode b_JA_isLatin1 14 = .ok (.goto 4, 3) := by decide +kernel
theorem d_JA_isLatin1_17 : decode b_JA_isLatin1 17 = .ok (.iconst 0, 1) := by decide +kernel
theorem d_JA_isLatin1_18 : decode b_JA_isLatin1 18 = .ok (.ireturn, 1) := by decide +kernel
theorem d_JL_canEncode_0 : decode b_JL_canEncode 0 = .ok (.iload_n 0, 1) := by decide +kernel
theorem d_JL_canEncode_1 : decode b_JL_canEncode 1 = .ok (.sipush 255, 3) := by decide +kernel
theorem d_JL_canEncode_4 : decode b_JL_canEncode 4 = .ok (.if_icmp .gt 7, 3) := by decide +kernel
theorem d_JL_canEncode_7 : decode b_JL_canEncode 7 = .ok (.iconst 1, 1) := by decide +kernel
theorem d_JL_canEncode_8 : decode b_JL_canEncode 8 = .ok (.goto 4, 3) := by decide +kernel
theorem d_JL_canEncode_11 : decode b_JL_canEncode 11 = .ok (.iconst 0, 1) := by decide +kernel
theorem d_JL_canEncode_12 : decode b_JL_canEncode 12 = .ok (.ireturn, 1) := by decide +kernel
theorem d_JA_inflate_0 : decode b_JA_inflate 0 = .ok (.aload_n 0, 1) := by decide +kernel
theorem d_JA_inflate_1 : decode b_JA_inflate 1 = .ok (.invokevirtual 83, 3) := by decide +kernel
theorem d_JA_inflate_4 : decode b_JA_inflate 4 = .ok (.ifCond .ne 4, 3) := by decide +kernel
theorem d_JA_inflate_7 : decode b_JA_inflate 7 = .ok (.return_, 1) := by decide +kernel
theorem d_JA_inflate_8 : decode b_JA_inflate 8 = .ok (.aload_n 0, 1) := by decide +kernel
theorem d_JA_inflate_9 : decode b_JA_inflate 9 = .ok (.getfield 15, 3) := by decide +kernel
theorem d_JA_inflate_12 : decode b_JA_inflate 12 = .ok (.arraylength, 1) := by decide +kernel
theorem d_JA_inflate_13 : decode b_JA_inflate 13 = .ok (.invokestatic 26, 3) := by decide +kernel
theorem d_JA_inflate_16 : decode b_JA_inflate 16 = .ok (.astore_n 1, 1) := by decide +kernel
theorem d_JA_inflate_17 : decode b_JA_inflate 17 = .ok (.aload_n 0, 1) := by decide +kernel
theorem d_JA_inflate_18 : decode b_JA_inflate 18 = .ok (.getfield 15, 3) := by decide +kernel
theorem d_JA_inflate_21 : decode b_JA_inflate 21 = .ok (.iconst 0, 1) := by decide +kernel
theorem d_JA_inflate_22 : decode b_JA_inflate 22 = .ok (.aload_n 1, 1) := by decide +kernel
theorem d_JA_inflate_23 : decode b_JA_inflate 23 = .ok (.iconst 0, 1) := by decide +kernel
theorem d_JA_inflate_24 : decode b_JA_inflate 24 = .ok (.aload_n 0, 1) := by decide +kernel
theorem d_JA_inflate_25 : decode b_JA_inflate 25 = .ok (.getfield 79, 3) := by decide +kernel
theorem d_JA_inflate_28 : decode b_JA_inflate 28 = .ok (.invokestatic 125, 3) := by decide +kernel
theorem d_JA_inflate_31 : decode b_JA_inflate 31 = .ok (.aload_n 0, 1) := by decide +kernel
theorem d_JA_inflate_32 : decode b_JA_inflate 32 = .ok (.aload_n 1, 1) := by decide +kernel
theorem d_JA_inflate_33 : decode b_JA_inflate 33 = .ok (.putfield 15, 3) := by decide +kernel
theorem d_JA_inflate_36 : decode b_JA_inflate 36 = .ok (.aload_n 0, 1) := by decide +kernel
theorem d_JA_inflate_37 : decode b_JA_inflate 37 = .ok (.iconst 1, 1) := by decide +kernel
theorem d_JA_inflate_38 : decode b_JA_inflate 38 = .ok (.putfield 22, 3) := by decide +kernel
theorem d_JA_inflate_41 : decode b_JA_inflate 41 = .ok (.return_, 1) := by decide +kernel
theorem d_JL_inflate_0 : decode b_JL_inflate 0 = .ok (.aload_n 0, 1) := by decide +kernel
theorem d_JL_inflate_1 : decode b_JL_inflate 1 = .ok (.iload_n 1, 1) := by decide +kernel
theorem d_JL_inflate_2 : decode b_JL_inflate 2 = .ok (.aload_n 2, 1) := by decide +kernel
theorem d_JL_inflate_3 : decode b_JL_inflate 3 = .ok (.iload_n 3, 1) := by decide +kernel
theorem d_JL_inflate_4 : decode b_JL_inflate 4 = .ok (.iload 4, 2) := by decide +kernel
theorem d_JL_inflate_6 : decode b_JL_inflate 6 = .ok (.invokestatic 240, 3) := by decide +kernel
theorem d_JL_inflate_9 : decode b_JL_inflate 9 = .ok (.return_, 1) := by decide +kernel
theorem d_JU_inflate_0 : decode b_JU_inflate 0 = .ok (.iload_n 3, 1) := by decide +kernel
theorem d_JU_inflate_1 : decode b_JU_inflate 1 = .ok (.iload 4, 2) := by decide +kernel
theorem d_JU_inflate_3 : decode b_JU_inflate 3 = .ok (.aload_n 2, 1) := by decide +kernel
theorem d_JU_inflate_4 : decode b_JU_inflate 4 = .ok (.invokestatic 173, 3) := by decide +kernel
theorem d_JU_inflate_7 : decode b_JU_inflate 7 = .ok (.iconst 0, 1) := by decide +kernel
theorem d_JU_inflate_8 : decode b_JU_inflate 8 = .ok (.istore 5, 2) := by decide +kernel
theorem d_JU_inflate_10 : decode b_JU_inflate 10 = .ok (.iload 5, 2) := by decide +kernel
theorem d_JU_inflate_12 : decode b_JU_inflate 12 = .ok (.iload 4, 2) := by decide +kernel
theorem d_JU_inflate_14 : decode b_JU_inflate 14 = .ok (.if_icmp .ge 27, 3) := by decide +kernel
theorem d_JU_inflate_17 : decode b_JU_inflate 17 = .ok (.aload_n 2, 1) := by decide +kernel
theorem d_JU_inflate_18 : decode b_JU_inflate 18 = .ok (.iload_n 3, 1) := by decide +kernel
theorem d_JU_inflate_19 : decode b_JU_inflate 19 = .ok (.iinc 3 1, 3) := by decide +kernel
theorem d_JU_inflate_22 : decode b_JU_inflate 22 = .ok (.aload_n 0, 1) := by decide +kernel
theorem d_JU_inflate_23 : decode b_JU_inflate 23 = .ok (.iload_n 1, 1) := by decide +kernel
theorem d_JU_inflate_24 : decode b_JU_inflate 24 = .ok (.iinc 1 1, 3) := by decide +kernel
theorem d_JU_inflate_27 : decode b_JU_inflate 27 = .ok (.baload, 1) := by decide +kernel
theorem d_JU_inflate_28 : decode b_JU_inflate 28 = .ok (.sipush 255, 3) := by decide +kernel
theorem d_JU_inflate_31 : decode b_JU_inflate 31 = .ok (.iand, 1) := by decide +kernel
theorem d_JU_inflate_32 : decode b_JU_inflate 32 = .ok (.invokestatic 111, 3) := by decide +kernel
theorem d_JU_inflate_35 : decode b_JU_inflate 35 = .ok (.iinc 5 1, 3) := by decide +kernel
theorem d_JU_inflate_38 : decode b_JU_inflate 38 = .ok (.goto (-28), 3) := by decide +kernel
theorem d_JU_inflate_41 : decode b_JU_inflate 41 = .ok (.return_, 1) := by decide +kernel
theorem d_JU_putChar_0 : decode b_JU_putChar 0 = .ok (.getstatic 44, 3) := by decide +kernel
theorem d_JU_putChar_3 : decode b_JU_putChar 3 = .ok (.ifCond .ne 25, 3) := by decide +kernel
theorem d_JU_putChar_6 : decode b_JU_putChar 6 = .ok (.iload_n 1, 1) := by decide +kernel
theorem d_JU_putChar_7 : decode b_JU_putChar 7 = .ok (.ifCond .lt 11, 3) := by decide +kernel
theorem d_JU_putChar_10 : decode b_JU_putChar 10 = .ok (.iload_n 1, 1) := by decide +kernel
theorem d_JU_putChar_11 : decode b_JU_putChar 11 = .ok (.aload_n 0, 1) := by decide +kernel
theorem d_JU_putChar_12 : decode b_JU_putChar 12 = .ok (.invokestatic 48, 3) := by decide +kernel
theorem d_JU_putChar_15 : decode b_JU_putChar 15 = .ok (.if_icmp .lt 13, 3) := by decide +kernel
theorem d_JU_putChar_18 : decode b_JU_putChar 18 = .ok (.new 52, 3) := by decide +kernel
theorem d_JU_putChar_21 : decode b_JU_putChar 21 = .ok (.dup, 1) := by decide +kernel
theorem d_JU_putChar_22 : decode b_JU_putChar 22 = .ok (.ldc 54, 2) := by decide +kernel
theorem d_JU_putChar_24 : decode b_JU_putChar 24 = .ok (.invokespecial 56, 3) := by decide +kernel
theorem d_JU_putChar_27 : decode b_JU_putChar 27 = .ok (.athrow, 1) := by decide +kernel
theorem d_JU_putChar_28 : decode b_JU_putChar 28 = .ok (.iload_n 1, 1) := by decide +kernel
theorem d_JU_putChar_29 : decode b_JU_putChar 29 = .ok (.iconst 1, 1) := by decide +kernel
theorem d_JU_putChar_30 : decode b_JU_putChar 30 = .ok (.ishl, 1) := by decide +kernel
theorem d_JU_putChar_31 : decode b_JU_putChar 31 = .ok (.istore_n 1, 1) := by decide +kernel
theorem d_JU_putChar_32 : decode b_JU_putChar 32 = .ok (.aload_n 0, 1) := by decide +kernel
theorem d_JU_putChar_33 : decode b_JU_putChar 33 = .ok (.iload_n 1, 1) := by decide +kernel
theorem d_JU_putChar_34 : decode b_JU_putChar 34 = .ok (.iinc 1 1, 3) := by decide +kernel
theorem d_JU_putChar_37 : decode b_JU_putChar 37 = .ok (.iload_n 2, 1) := by decide +kernel
theorem d_JU_putChar_38 : decode b_JU_putChar 38 = .ok (.getstatic 59, 3) := by decide +kernel
theorem d_JU_putChar_41 : decode b_JU_putChar 41 = .ok (.ishr, 1) := by decide +kernel
theorem d_JU_putChar_42 : decode b_JU_putChar 42 = .ok (.i2b, 1) := by decide +kernel
theorem d_JU_putChar_43 : decode b_JU_putChar 43 = .ok (.bastore, 1) := by decide +kernel
theorem d_JU_putChar_44 : decode b_JU_putChar 44 = .ok (.aload_n 0, 1) := by decide +kernel
theorem d_JU_putChar_45 : decode b_JU_putChar 45 = .ok (.iload_n 1, 1) := by decide +kernel
theorem d_JU_putChar_46 : decode b_JU_putChar 46 = .ok (.iload_n 2, 1) := by decide +kernel
theorem d_JU_putChar_47 : decode b_JU_putChar 47 = .ok (.getstatic 63, 3) := by decide +kernel
theorem d_JU_putChar_50 : decode b_JU_putChar 50 = .ok (.ishr, 1) := by decide +kernel
theorem d_JU_putChar_51 : decode b_JU_putChar 51 = .ok (.i2b, 1) := by decide +kernel
theorem d_JU_putChar_52 : decode b_JU_putChar 52 = .ok (.bastore, 1) := by decide +kernel
theorem d_JU_putChar_53 : decode b_JU_putChar 53 = .ok (.return_, 1) := by decide +kernel
theorem d_JU_putCharSB_0 : decode b_JU_putCharSB 0 = .ok (.iload_n 1, 1) := by decide +kernel
theorem d_JU_putCharSB_1 : decode b_JU_putCharSB 1 = .ok (.aload_n 0, 1) := by decide +kernel
theorem d_JU_putCharSB_2 : decode b_JU_putCharSB 2 = .ok (.invokestatic 67, 3) := by decide +kernel
theorem d_JU_putCharSB_5 : decode b_JU_putCharSB 5 = .ok (.aload_n 0, 1) := by decide +kernel
theorem d_JU_putCharSB_6 : decode b_JU_putCharSB 6 = .ok (.iload_n 1, 1) := by decide +kernel
theorem d_JU_putCharSB_7 : decode b_JU_putCharSB 7 = .ok (.iload_n 2, 1) := by decide +kernel
theorem d_JU_putCharSB_8 : decode b_JU_putCharSB 8 = .ok (.invokestatic 111, 3) := by decide +kernel
theorem d_JU_putCharSB_11 : decode b_JU_putCharSB 11 = .ok (.return_, 1) := by decide +kernel
theorem d_JU_checkIndex_0 : decode b_JU_checkIndex 0 = .ok (.iload_n 0, 1) := by decide +kernel
theorem d_JU_checkIndex_1 : decode b_JU_checkIndex 1 = .ok (.aload_n 1, 1) := by decide +kernel
theorem d_JU_checkIndex_2 : decode b_JU_checkIndex 2 = .ok (.invokestatic 48, 3) := by decide +kernel
theorem d_JU_checkIndex_5 : decode b_JU_checkIndex 5 = .ok (.invokestatic 414, 3) := by decide +kernel
theorem d_JU_checkIndex_8 : decode b_JU_checkIndex 8 = .ok (.return_, 1) := by decide +kernel
theorem d_JS_checkIndex_0 : decode b_JS_checkIndex 0 = .ok (.iload_n 0, 1) := by decide +kernel
theorem d_JS_checkIndex_1 : decode b_JS_checkIndex 1 = .ok (.iload_n 1, 1) := by decide +kernel
theorem d_JS_checkIndex_2 : decode b_JS_checkIndex 2 = .ok (.getstatic 1053, 3) := by decide +kernel
theorem d_JS_checkIndex_5 : decode b_JS_checkIndex 5 = .ok (.invokestatic 1059, 3) := by decide +kernel
theorem d_JS_checkIndex_8 : decode b_JS_checkIndex 8 = .ok (.pop, 1) := by decide +kernel
theorem d_JS_checkIndex_9 : decode b_JS_checkIndex 9 = .ok (.return_, 1) := by decide +kernel
theorem d_JC_checkIndex_0 : decode b_JC_checkIndex 0 = .ok (.iload_n 0, 1) := by decide +kernel
theorem d_JC_checkIndex_1 : decode b_JC_checkIndex 1 = .ok (.ifCond .lt 8, 3) := by decide +kernel
theorem d_JC_checkIndex_4 : decode b_JC_checkIndex 4 = .ok (.iload_n 0, 1) := by decide +kernel
theorem d_JC_checkIndex_5 : decode b_JC_checkIndex 5 = .ok (.iload_n 1, 1) := by decide +kernel
theorem d_JC_checkIndex_6 : decode b_JC_checkIndex 6 = .ok (.if_icmp .lt 10, 3) := by decide +kernel
theorem d_JC_checkIndex_9 : decode b_JC_checkIndex 9 = .ok (.aload_n 2, 1) := by decide +kernel
theorem d_JC_checkIndex_10 : decode b_JC_checkIndex 10 = .ok (.iload_n 0, 1) := by decide +kernel
theorem d_JC_checkIndex_11 : decode b_JC_checkIndex 11 = .ok (.iload_n 1, 1) := by decide +kernel
theorem d_JC_checkIndex_12 : decode b_JC_checkIndex 12 = .ok (.invokestatic 95, 3) := by decide +kernel
theorem d_JC_checkIndex_15 : decode b_JC_checkIndex 15 = .ok (.athrow, 1) := by decide +kernel
theorem d_JC_checkIndex_16 : decode b_JC_checkIndex 16 = .ok (.iload_n 0, 1) := by decide +kernel
theorem d_JC_checkIndex_17 : decode b_JC_checkIndex 17 = .ok (.ireturn, 1) := by decide +kernel
theorem d_JB_toString_0 : decode b_JB_toString 0 = .ok (.new 18, 3) := by decide +kernel
theorem d_JB_toString_3 : decode b_JB_toString 3 = .ok (.dup, 1) := by decide +kernel
theorem d_JB_toString_4 : decode b_JB_toString 4 = .ok (.aload_n 0, 1) := by decide +kernel
theorem d_JB_toString_5 : decode b_JB_toString 5 = .ok (.invokespecial 137, 3) := by decide +kernel
theorem d_JB_toString_8 : decode b_JB_toString 8 = .ok (.areturn, 1) := by decide +kernel
theorem d_JS_init2_0 : decode b_JS_init2 0 = .ok (.aload_n 0, 1) := by decide +kernel
theorem d_JS_init2_1 : decode b_JS_init2 1 = .ok (.aload_n 1, 1) := by decide +kernel
theorem d_JS_init2_2 : decode b_JS_init2 2 = .ok (.aconst_null, 1) := by decide +kernel
theorem d_JS_init2_3 : decode b_JS_init2 3 = .ok (.invokespecial 489, 3) := by decide +kernel
theorem d_JS_init2_6 : decode b_JS_init2 6 = .ok (.return_, 1) := by decide +kernel
theorem d_JS_init3_0 : decode b_JS_init3 0 = .ok (.aload_n 0, 1) := by decide +kernel
theorem d_JS_init3_1 : decode b_JS_init3 1 = .ok (.invokespecial 1, 3) := by decide +kernel
theorem d_JS_init3_4 : decode b_JS_init3 4 = .ok (.aload_n 1, 1) := by decide +kernel
theorem d_JS_init3_5 : decode b_JS_init3 5 = .ok (.invokevirtual 552, 3) := by decide +kernel
theorem d_JS_init3_8 : decode b_JS_init3 8 = .ok (.astore_n 3, 1) := by decide +kernel
theorem d_JS_init3_9 : decode b_JS_init3 9 = .ok (.aload_n 1, 1) := by decide +kernel
theorem d_JS_init3_10 : decode b_JS_init3 10 = .ok (.invokevirtual 549, 3) := by decide +kernel
theorem d_JS_init3_13 : decode b_JS_init3 13 = .ok (.istore 4, 2) := by decide +kernel
theorem d_JS_init3_15 : decode b_JS_init3 15 = .ok (.aload_n 1, 1) := by decide +kernel
theorem d_JS_init3_16 : decode b_JS_init3 16 = .ok (.invokevirtual 1047, 3) := by decide +kernel
theorem d_JS_init3_19 : decode b_JS_init3 19 = .ok (.ifCond .eq 22, 3) := by decide +kernel
theorem d_JS_init3_22 : decode b_JS_init3 22 = .ok (.aload_n 0, 1) := by decide +kernel
theorem d_JS_init3_23 : decode b_JS_init3 23 = .ok (.iconst 0, 1) := by decide +kernel
theorem d_JS_init3_24 : decode b_JS_init3 24 = .ok (.putfield 15, 3) := by decide +kernel
theorem d_JS_init3_27 : decode b_JS_init3 27 = .ok (.aload_n 0, 1) := by decide +kernel
theorem d_JS_init3_28 : decode b_JS_init3 28 = .ok (.aload_n 3, 1) := by decide +kernel
theorem d_JS_init3_29 : decode b_JS_init3 29 = .ok (.iconst 0, 1) := by decide +kernel
theorem d_JS_init3_30 : decode b_JS_init3 30 = .ok (.iload 4, 2) := by decide +kernel
theorem d_JS_init3_32 : decode b_JS_init3 32 = .ok (.invokestatic 54, 3) := by decide +kernel
theorem d_JS_init3_35 : decode b_JS_init3 35 = .ok (.putfield 9, 3) := by decide +kernel
theorem d_JS_init3_38 : decode b_JS_init3 38 = .ok (.goto 59, 3) := by decide +kernel
theorem d_JS_init3_41 : decode b_JS_init3 41 = .ok (.getstatic 38, 3) := by decide +kernel
theorem d_JS_init3_44 : decode b_JS_init3 44 = .ok (.ifCond .eq 35, 3) := by decide +kernel
theorem d_JS_init3_47 : decode b_JS_init3 47 = .ok (.aload_n 1, 1) := by decide +kernel
theorem d_JS_init3_48 : decode b_JS_init3 48 = .ok (.getfield 1048, 3) := by decide +kernel
theorem d_JS_init3_51 : decode b_JS_init3 51 = .ok (.ifCond .eq 28, 3) := by decide +kernel
theorem d_JS_init3_54 : decode b_JS_init3 54 = .ok (.aload_n 0, 1) := by decide +kernel
theorem d_JS_init3_55 : decode b_JS_init3 55 = .ok (.aload_n 3, 1) := by decide +kernel
theorem d_JS_init3_56 : decode b_JS_init3 56 = .ok (.iconst 0, 1) := by decide +kernel
theorem d_JS_init3_57 : decode b_JS_init3 57 = .ok (.iload 4, 2) := by decide +kernel
theorem d_JS_init3_59 : decode b_JS_init3 59 = .ok (.invokestatic 1051, 3) := by decide +kernel
theorem d_JS_init3_62 : decode b_JS_init3 62 = .ok (.putfield 9, 3) := by decide +kernel
theorem d_JS_init3_65 : decode b_JS_init3 65 = .ok (.aload_n 0, 1) := by decide +kernel
theorem d_JS_init3_66 : decode b_JS_init3 66 = .ok (.aload_n 0, 1) := by decide +kernel
theorem d_JS_init3_67 : decode b_JS_init3 67 = .ok (.getfield 9, 3) := by decide +kernel
theorem d_JS_init3_70 : decode b_JS_init3 70 = .ok (.iload 4, 2) := by decide +kernel
theorem d_JS_init3_72 : decode b_JS_init3 72 = .ok (.invokestatic 47, 3) := by decide +kernel
theorem d_JS_init3_75 : decode b_JS_init3 75 = .ok (.putfield 15, 3) := by decide +kernel
theorem d_JS_init3_78 : decode b_JS_init3 78 = .ok (.return_, 1) := by decide +kernel
theorem d_JS_init3_79 : decode b_JS_init3 79 = .ok (.aload_n 0, 1) := by decide +kernel
theorem d_JS_init3_80 : decode b_JS_init3 80 = .ok (.iconst 1, 1) := by decide +kernel
theorem d_JS_init3_81 : decode b_JS_init3 81 = .ok (.putfield 15, 3) := by decide +kernel
theorem d_JS_init3_84 : decode b_JS_init3 84 = .ok (.aload_n 0, 1) := by decide +kernel
theorem d_JS_init3_85 : decode b_JS_init3 85 = .ok (.aload_n 3, 1) := by decide +kernel
theorem d_JS_init3_86 : decode b_JS_init3 86 = .ok (.iconst 0, 1) := by decide +kernel
theorem d_JS_init3_87 : decode b_JS_init3 87 = .ok (.iload 4, 2) := by decide +kernel
theorem d_JS_init3_89 : decode b_JS_init3 89 = .ok (.iconst 1, 1) := by decide +kernel
theorem d_JS_init3_90 : decode b_JS_init3 90 = .ok (.ishl, 1) := by decide +kernel
theorem d_JS_init3_91 : decode b_JS_init3 91 = .ok (.invokestatic 54, 3) := by decide +kernel
theorem d_JS_init3_94 : decode b_JS_init3 94 = .ok (.putfield 9, 3) := by decide +kernel
theorem d_JS_init3_97 : decode b_JS_init3 97 = .ok (.return_, 1) := by decide +kernel
theorem d_JA_getValue_0 : decode b_JA_getValue 0 = .ok (.aload_n 0, 1) := by decide +kernel
theorem d_JA_getValue_1 : decode b_JA_getValue 1 = .ok (.getfield 15, 3) := by decide +kernel
theorem d_JA_getValue_4 : decode b_JA_getValue 4 = .ok (.areturn, 1) := by decide +kernel
theorem d_JB_length_0 : decode b_JB_length 0 = .ok (.aload_n 0, 1) := by decide +kernel
theorem d_JB_length_1 : decode b_JB_length 1 = .ok (.invokespecial 343, 3) := by decide +kernel
theorem d_JB_length_4 : decode b_JB_length 4 = .ok (.ireturn, 1) := by decide +kernel
theorem d_JA_length_0 : decode b_JA_length 0 = .ok (.aload_n 0, 1) := by decide +kernel
theorem d_JA_length_1 : decode b_JA_length 1 = .ok (.getfield 79, 3) := by decide +kernel
theorem d_JA_length_4 : decode b_JA_length 4 = .ok (.ireturn, 1) := by decide +kernel
theorem d_G_array_0 : decode b_G_array 0 = .ok (.iload_n 2, 1) := by decide +kernel
theorem d_G_array_1 : decode b_G_array 1 = .ok (.ifCond .lt 17, 3) := by decide +kernel
theorem d_G_array_4 : decode b_G_array 4 = .ok (.iload_n 2, 1) := by decide +kernel
theorem d_G_array_5 : decode b_G_array 5 = .ok (.iload_n 1, 1) := by decide +kernel
theorem d_G_array_6 : decode b_G_array 6 = .ok (.ifCond .eq 7, 3) := by decide +kernel
theorem d_G_array_9 : decode b_G_array 9 = .ok (.iconst 4, 1) := by decide +kernel
theorem d_G_array_10 : decode b_G_array 10 = .ok (.goto 5, 3) := by decide +kernel
theorem d_G_array_13 : decode b_G_array 13 = .ok (.bipush 6, 2) := by decide +kernel
theorem d_G_array_15 : decode b_G_array 15 = .ok (.if_icmp .le 5, 3) := by decide +kernel
theorem d_G_array_18 : decode b_G_array 18 = .ok (.iconst (-1), 1) := by decide +kernel
theorem d_G_array_19 : decode b_G_array 19 = .ok (.ireturn, 1) := by decide +kernel
theorem d_G_array_20 : decode b_G_array 20 = .ok (.aload_n 0, 1) := by decide +kernel
theorem d_G_array_21 : decode b_G_array 21 = .ok (.getfield 70, 3) := by decide +kernel
theorem d_G_array_24 : decode b_G_array 24 = .ok (.bipush 12, 2) := by decide +kernel
theorem d_G_array_26 : decode b_G_array 26 = .ok (.if_icmp .lt 6, 3) := by decide +kernel
theorem d_G_array_29 : decode b_G_array 29 = .ok (.bipush (-2), 2) := by decide +kernel
theorem d_G_array_31 : decode b_G_array 31 = .ok (.ireturn, 1) := by decide +kernel
theorem d_G_array_32 : decode b_G_array 32 = .ok (.iload_n 2, 1) := by decide +kernel
theorem d_G_array_33 : decode b_G_array 33 = .ok (.newarray .int, 2) := by decide +kernel
theorem d_G_array_35 : decode b_G_array 35 = .ok (.astore_n 3, 1) := by decide +kernel
theorem d_G_array_36 : decode b_G_array 36 = .ok (.aload_n 3, 1) := by decide +kernel
theorem d_G_array_37 : decode b_G_array 37 = .ok (.iload_n 1, 1) := by decide +kernel
theorem d_G_array_38 : decode b_G_array 38 = .ok (.ifCond .eq 8, 3) := by decide +kernel
theorem d_G_array_41 : decode b_G_array 41 = .ok (.bipush 7, 2) := by decide +kernel
theorem d_G_array_43 : decode b_G_array 43 = .ok (.goto 4, 3) := by decide +kernel
theorem d_G_array_46 : decode b_G_array 46 = .ok (.iconst 2, 1) := by decide +kernel
theorem d_G_array_47 : decode b_G_array 47 = .ok (.invokestatic 96, 3) := by decide +kernel
theorem d_G_array_50 : decode b_G_array 50 = .ok (.aload_n 0, 1) := by decide +kernel
theorem d_G_array_51 : decode b_G_array 51 = .ok (.new 15, 3) := by decide +kernel
theorem d_G_array_54 : decode b_G_array 54 = .ok (.dup, 1) := by decide +kernel
theorem d_G_array_55 : decode b_G_array 55 = .ok (.iload_n 1, 1) := by decide +kernel
theorem d_G_array_56 : decode b_G_array 56 = .ok (.ifCond .eq 7, 3) := by decide +kernel
theorem d_G_array_59 : decode b_G_array 59 = .ok (.iconst 3, 1) := by decide +kernel
theorem d_G_array_60 : decode b_G_array 60 = .ok (.goto 4, 3) := by decide +kernel
theorem d_G_array_63 : decode b_G_array 63 = .ok (.iconst 2, 1) := by decide +kernel
theorem d_G_array_64 : decode b_G_array 64 = .ok (.iconst (-1), 1) := by decide +kernel
theorem d_G_array_65 : decode b_G_array 65 = .ok (.aload_n 3, 1) := by decide +kernel
theorem d_G_array_66 : decode b_G_array 66 = .ok (.ldc 81, 2) := by decide +kernel
theorem d_G_array_68 : decode b_G_array 68 = .ok (.invokespecial 83, 3) := by decide +kernel
theorem d_G_array_71 : decode b_G_array 71 = .ok (.invokevirtual 86, 3) := by decide +kernel
theorem d_G_array_74 : decode b_G_array 74 = .ok (.ireturn, 1) := by decide +kernel
theorem d_G_constant_0 : decode b_G_constant 0 = .ok (.aload_n 0, 1) := by decide +kernel
theorem d_G_constant_1 : decode b_G_constant 1 = .ok (.iload_n 1, 1) := by decide +kernel
theorem d_G_constant_2 : decode b_G_constant 2 = .ok (.invokevirtual 48, 3) := by decide +kernel
theorem d_G_constant_5 : decode b_G_constant 5 = .ok (.ifCond .eq 13, 3) := by decide +kernel
theorem d_G_constant_8 : decode b_G_constant 8 = .ok (.iload_n 2, 1) := by decide +kernel
theorem d_G_constant_9 : decode b_G_constant 9 = .ok (.ifCond .lt 9, 3) := by decide +kernel
theorem d_G_constant_12 : decode b_G_constant 12 = .ok (.iload_n 2, 1) := by decide +kernel
theorem d_G_constant_13 : decode b_G_constant 13 = .ok (.bipush 26, 2) := by decide +kernel
theorem d_G_constant_15 : decode b_G_constant 15 = .ok (.if_icmp .lt 5, 3) := by decide +kernel
theorem d_G_constant_18 : decode b_G_constant 18 = .ok (.iconst (-1), 1) := by decide +kernel
theorem d_G_constant_19 : decode b_G_constant 19 = .ok (.ireturn, 1) := by decide +kernel
theorem d_G_constant_20 : decode b_G_constant 20 = .ok (.aload_n 0, 1) := by decide +kernel
theorem d_G_constant_21 : decode b_G_constant 21 = .ok (.getfield 11, 3) := by decide +kernel
theorem d_G_constant_24 : decode b_G_constant 24 = .ok (.iload_n 1, 1) := by decide +kernel
theorem d_G_constant_25 : decode b_G_constant 25 = .ok (.aaload, 1) := by decide +kernel
theorem d_G_constant_26 : decode b_G_constant 26 = .ok (.getfield 52, 3) := by decide +kernel
theorem d_G_constant_29 : decode b_G_constant 29 = .ok (.iconst 3, 1) := by decide +kernel
theorem d_G_constant_30 : decode b_G_constant 30 = .ok (.if_icmp .eq 5, 3) := by decide +kernel
theorem d_G_constant_33 : decode b_G_constant 33 = .ok (.iconst (-1), 1) := by decide +kernel
theorem d_G_constant_34 : decode b_G_constant 34 = .ok (.ireturn, 1) := by decide +kernel
theorem d_G_constant_35 : decode b_G_constant 35 = .ok (.aload_n 0, 1) := by decide +kernel
theorem d_G_constant_36 : decode b_G_constant 36 = .ok (.getfield 70, 3) := by decide +kernel
theorem d_G_constant_39 : decode b_G_constant 39 = .ok (.bipush 12, 2) := by decide +kernel
theorem d_G_constant_41 : decode b_G_constant 41 = .ok (.if_icmp .lt 6, 3) := by decide +kernel
theorem d_G_constant_44 : decode b_G_constant 44 = .ok (.bipush (-2), 2) := by decide +kernel
theorem d_G_constant_46 : decode b_G_constant 46 = .ok (.ireturn, 1) := by decide +kernel
theorem d_G_constant_47 : decode b_G_constant 47 = .ok (.ldc 102, 2) := by decide +kernel
theorem d_G_constant_49 : decode b_G_constant 49 = .ok (.iload_n 2, 1) := by decide +kernel
theorem d_G_constant_50 : decode b_G_constant 50 = .ok (.iload_n 2, 1) := by decide +kernel
theorem d_G_constant_51 : decode b_G_constant 51 = .ok (.iconst 1, 1) := by decide +kernel
theorem d_G_constant_52 : decode b_G_constant 52 = .ok (.iadd, 1) := by decide +kernel
theorem d_G_constant_53 : decode b_G_constant 53 = .ok (.invokevirtual 104, 3) := by decide +kernel
theorem d_G_constant_56 : decode b_G_constant 56 = .ok (.astore_n 3, 1) := by decide +kernel
theorem d_G_constant_57 : decode b_G_constant 57 = .ok (.aload_n 0, 1) := by decide +kernel
theorem d_G_constant_58 : decode b_G_constant 58 = .ok (.new 15, 3) := by decide +kernel
theorem d_G_constant_61 : decode b_G_constant 61 = .ok (.dup, 1) := by decide +kernel
theorem d_G_constant_62 : decode b_G_constant 62 = .ok (.iconst 4, 1) := by decide +kernel
theorem d_G_constant_63 : decode b_G_constant 63 = .ok (.iload_n 1, 1) := by decide +kernel
theorem d_G_constant_64 : decode b_G_constant 64 = .ok (.iconst 0, 1) := by decide +kernel
theorem d_G_constant_65 : decode b_G_constant 65 = .ok (.newarray .int, 2) := by decide +kernel
theorem d_G_constant_67 : decode b_G_constant 67 = .ok (.aload_n 3, 1) := by decide +kernel
theorem d_G_constant_68 : decode b_G_constant 68 = .ok (.invokespecial 83, 3) := by decide +kernel
theorem d_G_constant_71 : decode b_G_constant 71 = .ok (.invokevirtual 86, 3) := by decide +kernel
theorem d_G_constant_74 : decode b_G_constant 74 = .ok (.ireturn, 1) := by decide +kernel
theorem d_G_set_0 : decode b_G_set 0 = .ok (.aload_n 0, 1) := by decide +kernel
theorem d_G_set_1 : decode b_G_set 1 = .ok (.iload_n 1, 1) := by decide +kernel
theorem d_G_set_2 : decode b_G_set 2 = .ok (.invokevirtual 110, 3) := by decide +kernel
theorem d_G_set_5 : decode b_G_set 5 = .ok (.ifCond .ne 5, 3) := by decide +kernel
theorem d_G_set_8 : decode b_G_set 8 = .ok (.iconst (-1), 1) := by decide +kernel
theorem d_G_set_9 : decode b_G_set 9 = .ok (.ireturn, 1) := by decide +kernel
theorem d_G_set_10 : decode b_G_set 10 = .ok (.aload_n 0, 1) := by decide +kernel
theorem d_G_set_11 : decode b_G_set 11 = .ok (.getfield 17, 3) := by decide +kernel
theorem d_G_set_14 : decode b_G_set 14 = .ok (.iload_n 1, 1) := by decide +kernel
theorem d_G_set_15 : decode b_G_set 15 = .ok (.aaload, 1) := by decide +kernel
theorem d_G_set_16 : decode b_G_set 16 = .ok (.astore 5, 2) := by decide +kernel
theorem d_G_set_18 : decode b_G_set 18 = .ok (.iload_n 2, 1) := by decide +kernel
theorem d_G_set_19 : decode b_G_set 19 = .ok (.ifCond .lt 13, 3) := by decide +kernel
theorem d_G_set_22 : decode b_G_set 22 = .ok (.iload_n 2, 1) := by decide +kernel
theorem d_G_set_23 : decode b_G_set 23 = .ok (.aload 5, 2) := by decide +kernel
theorem d_G_set_25 : decode b_G_set 25 = .ok (.getfield 113, 3) := by decide +kernel
theorem d_G_set_28 : decode b_G_set 28 = .ok (.arraylength, 1) := by decide +kernel
theorem d_G_set_29 : decode b_G_set 29 = .ok (.if_icmp .lt 5, 3) := by decide +kernel
theorem d_G_set_32 : decode b_G_set 32 = .ok (.iconst (-1), 1) := by decide +kernel
theorem d_G_set_33 : decode b_G_set 33 = .ok (.ireturn, 1) := by decide +kernel
theorem d_G_set_34 : decode b_G_set 34 = .ok (.aload 5, 2) := by decide +kernel
theorem d_G_set_36 : decode b_G_set 36 = .ok (.getfield 113, 3) := by decide +kernel
theorem d_G_set_39 : decode b_G_set 39 = .ok (.iload_n 2, 1) := by decide +kernel
theorem d_G_set_40 : decode b_G_set 40 = .ok (.iaload, 1) := by decide +kernel
theorem d_G_set_41 : decode b_G_set 41 = .ok (.bipush 6, 2) := by decide +kernel
theorem d_G_set_43 : decode b_G_set 43 = .ok (.if_icmp .lt 20, 3) := by decide +kernel
theorem d_G_set_46 : decode b_G_set 46 = .ok (.aload_n 0, 1) := by decide +kernel
theorem d_G_set_47 : decode b_G_set 47 = .ok (.lload_n 3, 1) := by decide +kernel
theorem d_G_set_48 : decode b_G_set 48 = .ok (.aload 5, 2) := by decide +kernel
theorem d_G_set_50 : decode b_G_set 50 = .ok (.getfield 113, 3) := by decide +kernel
theorem d_G_set_53 : decode b_G_set 53 = .ok (.iload_n 2, 1) := by decide +kernel
theorem d_G_set_54 : decode b_G_set 54 = .ok (.iaload, 1) := by decide +kernel
theorem d_G_set_55 : decode b_G_set 55 = .ok (.invokevirtual 116, 3) := by decide +kernel
theorem d_G_set_58 : decode b_G_set 58 = .ok (.ifCond .ne 5, 3) := by decide +kernel
theorem d_G_set_61 : decode b_G_set 61 = .ok (.iconst (-1), 1) := by decide +kernel
theorem d_G_set_62 : decode b_G_set 62 = .ok (.ireturn, 1) := by decide +kernel
theorem d_G_set_63 : decode b_G_set 63 = .ok (.aload 5, 2) := by decide +kernel
theorem d_G_set_65 : decode b_G_set 65 = .ok (.getfield 120, 3) := by decide +kernel
theorem d_G_set_68 : decode b_G_set 68 = .ok (.iload_n 2, 1) := by decide +kernel
theorem d_G_set_69 : decode b_G_set 69 = .ok (.lload_n 3, 1) := by decide +kernel
theorem d_G_set_70 : decode b_G_set 70 = .ok (.lastore, 1) := by decide +kernel
theorem d_G_set_71 : decode b_G_set 71 = .ok (.iconst 0, 1) := by decide +kernel
theorem d_G_set_72 : decode b_G_set 72 = .ok (.ireturn, 1) := by decide +kernel
theorem d_G_isMade_0 : decode b_G_isMade 0 = .ok (.iload_n 1, 1) := by decide +kernel
theorem d_G_isMade_1 : decode b_G_isMade 1 = .ok (.ifCond .lt 15, 3) := by decide +kernel
theorem d_G_isMade_4 : decode b_G_isMade 4 = .ok (.iload_n 1, 1) := by decide +kernel
theorem d_G_isMade_5 : decode b_G_isMade 5 = .ok (.aload_n 0, 1) := by decide +kernel
theorem d_G_isMade_6 : decode b_G_isMade 6 = .ok (.getfield 70, 3) := by decide +kernel
theorem d_G_isMade_9 : decode b_G_isMade 9 = .ok (.if_icmp .ge 7, 3) := by decide +kernel
theorem d_G_isMade_12 : decode b_G_isMade 12 = .ok (.iconst 1, 1) := by decide +kernel
theorem d_G_isMade_13 : decode b_G_isMade 13 = .ok (.goto 4, 3) := by decide +kernel
theorem d_G_isMade_16 : decode b_G_isMade 16 = .ok (.iconst 0, 1) := by decide +kernel
theorem d_G_isMade_17 : decode b_G_isMade 17 = .ok (.ireturn, 1) := by decide +kernel
theorem d_G_mayBeHeld_0 : decode b_G_mayBeHeld 0 = .ok (.lload_n 1, 1) := by decide +kernel
theorem d_G_mayBeHeld_1 : decode b_G_mayBeHeld 1 = .ok (.ldc2_w 210, 3) := by decide +kernel
theorem d_G_mayBeHeld_4 : decode b_G_mayBeHeld 4 = .ok (.lcmp, 1) := by decide +kernel
theorem d_G_mayBeHeld_5 : decode b_G_mayBeHeld 5 = .ok (.ifCond .ne 5, 3) := by decide +kernel
theorem d_G_mayBeHeld_8 : decode b_G_mayBeHeld 8 = .ok (.iconst 1, 1) := by decide +kernel
theorem d_G_mayBeHeld_9 : decode b_G_mayBeHeld 9 = .ok (.ireturn, 1) := by decide +kernel
theorem d_G_mayBeHeld_10 : decode b_G_mayBeHeld 10 = .ok (.lload_n 1, 1) := by decide +kernel
theorem d_G_mayBeHeld_11 : decode b_G_mayBeHeld 11 = .ok (.lconst 0, 1) := by decide +kernel
theorem d_G_mayBeHeld_12 : decode b_G_mayBeHeld 12 = .ok (.lcmp, 1) := by decide +kernel
theorem d_G_mayBeHeld_13 : decode b_G_mayBeHeld 13 = .ok (.ifCond .lt 13, 3) := by decide +kernel
theorem d_G_mayBeHeld_16 : decode b_G_mayBeHeld 16 = .ok (.lload_n 1, 1) := by decide +kernel
theorem d_G_mayBeHeld_17 : decode b_G_mayBeHeld 17 = .ok (.aload_n 0, 1) := by decide +kernel
theorem d_G_mayBeHeld_18 : decode b_G_mayBeHeld 18 = .ok (.getfield 70, 3) := by decide +kernel
theorem d_G_mayBeHeld_21 : decode b_G_mayBeHeld 21 = .ok (.i2l, 1) := by decide +kernel
theorem d_G_mayBeHeld_22 : decode b_G_mayBeHeld 22 = .ok (.lcmp, 1) := by decide +kernel
theorem d_G_mayBeHeld_23 : decode b_G_mayBeHeld 23 = .ok (.ifCond .lt 5, 3) := by decide +kernel
theorem d_G_mayBeHeld_26 : decode b_G_mayBeHeld 26 = .ok (.iconst 0, 1) := by decide +kernel
theorem d_G_mayBeHeld_27 : decode b_G_mayBeHeld 27 = .ok (.ireturn, 1) := by decide +kernel
theorem d_G_mayBeHeld_28 : decode b_G_mayBeHeld 28 = .ok (.iload_n 3, 1) := by decide +kernel
theorem d_G_mayBeHeld_29 : decode b_G_mayBeHeld 29 = .ok (.bipush 7, 2) := by decide +kernel
theorem d_G_mayBeHeld_31 : decode b_G_mayBeHeld 31 = .ok (.if_icmp .eq 17, 3) := by decide +kernel
theorem d_G_mayBeHeld_34 : decode b_G_mayBeHeld 34 = .ok (.aload_n 0, 1) := by decide +kernel
theorem d_G_mayBeHeld_35 : decode b_G_mayBeHeld 35 = .ok (.getfield 17, 3) := by decide +kernel
theorem d_G_mayBeHeld_38 : decode b_G_mayBeHeld 38 = .ok (.lload_n 1, 1) := by decide +kernel
theorem d_G_mayBeHeld_39 : decode b_G_mayBeHeld 39 = .ok (.l2i, 1) := by decide +kernel
theorem d_G_mayBeHeld_40 : decode b_G_mayBeHeld 40 = .ok (.aaload, 1) := by decide +kernel
theorem d_G_mayBeHeld_41 : decode b_G_mayBeHeld 41 = .ok (.getfield 174, 3) := by decide +kernel
theorem d_G_mayBeHeld_44 : decode b_G_mayBeHeld 44 = .ok (.iconst 2, 1) := by decide +kernel
theorem d_G_mayBeHeld_45 : decode b_G_mayBeHeld 45 = .ok (.if_icmp .ne 7, 3) := by decide +kernel
theorem d_G_mayBeHeld_48 : decode b_G_mayBeHeld 48 = .ok (.iconst 1, 1) := by decide +kernel
theorem d_G_mayBeHeld_49 : decode b_G_mayBeHeld 49 = .ok (.goto 4, 3) := by decide +kernel
theorem d_G_mayBeHeld_52 : decode b_G_mayBeHeld 52 = .ok (.iconst 0, 1) := by decide +kernel
theorem d_G_mayBeHeld_53 : decode b_G_mayBeHeld 53 = .ok (.ireturn, 1) := by decide +kernel
theorem d_G_replace_0 : decode b_G_replace 0 = .ok (.aload_n 0, 1) := by decide +kernel
theorem d_G_replace_1 : decode b_G_replace 1 = .ok (.iload_n 1, 1) := by decide +kernel
theorem d_G_replace_2 : decode b_G_replace 2 = .ok (.invokevirtual 124, 3) := by decide +kernel
theorem d_G_replace_5 : decode b_G_replace 5 = .ok (.ifCond .eq 8, 3) := by decide +kernel
theorem d_G_replace_8 : decode b_G_replace 8 = .ok (.iload_n 2, 1) := by decide +kernel
theorem d_G_replace_9 : decode b_G_replace 9 = .ok (.iload_n 1, 1) := by decide +kernel
theorem d_G_replace_10 : decode b_G_replace 10 = .ok (.if_icmp .ne 5, 3) := by decide +kernel
theorem d_G_replace_13 : decode b_G_replace 13 = .ok (.iconst (-1), 1) := by decide +kernel
theorem d_G_replace_14 : decode b_G_replace 14 = .ok (.ireturn, 1) := by decide +kernel
theorem d_G_replace_15 : decode b_G_replace 15 = .ok (.iload_n 2, 1) := by decide +kernel
theorem d_G_replace_16 : decode b_G_replace 16 = .ok (.iconst (-1), 1) := by decide +kernel
theorem d_G_replace_17 : decode b_G_replace 17 = .ok (.if_icmp .eq 13, 3) := by decide +kernel
theorem d_G_replace_20 : decode b_G_replace 20 = .ok (.aload_n 0, 1) := by decide +kernel
theorem d_G_replace_21 : decode b_G_replace 21 = .ok (.iload_n 2, 1) := by decide +kernel
theorem d_G_replace_22 : decode b_G_replace 22 = .ok (.invokevirtual 110, 3) := by decide +kernel
theorem d_G_replace_25 : decode b_G_replace 25 = .ok (.ifCond .ne 5, 3) := by decide +kernel
theorem d_G_replace_28 : decode b_G_replace 28 = .ok (.iconst (-1), 1) := by decide +kernel
theorem d_G_replace_29 : decode b_G_replace 29 = .ok (.ireturn, 1) := by decide +kernel
theorem d_G_replace_30 : decode b_G_replace 30 = .ok (.aload_n 0, 1) := by decide +kernel
theorem d_G_replace_31 : decode b_G_replace 31 = .ok (.getfield 17, 3) := by decide +kernel
theorem d_G_replace_34 : decode b_G_replace 34 = .ok (.iload_n 1, 1) := by decide +kernel
theorem d_G_replace_35 : decode b_G_replace 35 = .ok (.aaload, 1) := by decide +kernel
theorem d_G_replace_36 : decode b_G_replace 36 = .ok (.iload_n 2, 1) := by decide +kernel
theorem d_G_replace_37 : decode b_G_replace 37 = .ok (.putfield 127, 3) := by decide +kernel
theorem d_G_replace_40 : decode b_G_replace 40 = .ok (.iconst 0, 1) := by decide +kernel
theorem d_G_replace_41 : decode b_G_replace 41 = .ok (.ireturn, 1) := by decide +kernel
theorem d_G_isInstance_0 : decode b_G_isInstance 0 = .ok (.aload_n 0, 1) := by decide +kernel
theorem d_G_isInstance_1 : decode b_G_isInstance 1 = .ok (.iload_n 1, 1) := by decide +kernel
theorem d_G_isInstance_2 : decode b_G_isInstance 2 = .ok (.invokevirtual 110, 3) := by decide +kernel
theorem d_G_isInstance_5 : decode b_G_isInstance 5 = .ok (.ifCond .eq 19, 3) := by decide +kernel
theorem d_G_isInstance_8 : decode b_G_isInstance 8 = .ok (.aload_n 0, 1) := by decide +kernel
theorem d_G_isInstance_9 : decode b_G_isInstance 9 = .ok (.getfield 17, 3) := by decide +kernel
theorem d_G_isInstance_12 : decode b_G_isInstance 12 = .ok (.iload_n 1, 1) := by decide +kernel
theorem d_G_isInstance_13 : decode b_G_isInstance 13 = .ok (.aaload, 1) := by decide +kernel
theorem d_G_isInstance_14 : decode b_G_isInstance 14 = .ok (.getfield 174, 3) := by decide +kernel
theorem d_G_isInstance_17 : decode b_G_isInstance 17 = .ok (.ifCond .ne 7, 3) := by decide +kernel
theorem d_G_isInstance_20 : decode b_G_isInstance 20 = .ok (.iconst 1, 1) := by decide +kernel
theorem d_G_isInstance_21 : decode b_G_isInstance 21 = .ok (.goto 4, 3) := by decide +kernel
theorem d_G_isInstance_24 : decode b_G_isInstance 24 = .ok (.iconst 0, 1) := by decide +kernel
theorem d_G_isInstance_25 : decode b_G_isInstance 25 = .ok (.ireturn, 1) := by decide +kernel
theorem d_G_extra_0 : decode b_G_extra 0 = .ok (.aload_n 0, 1) := by decide +kernel
theorem d_G_extra_1 : decode b_G_extra 1 = .ok (.iload_n 1, 1) := by decide +kernel
theorem d_G_extra_2 : decode b_G_extra 2 = .ok (.invokevirtual 124, 3) := by decide +kernel
theorem d_G_extra_5 : decode b_G_extra 5 = .ok (.ifCond .ne 5, 3) := by decide +kernel
theorem d_G_extra_8 : decode b_G_extra 8 = .ok (.iconst (-1), 1) := by decide +kernel
theorem d_G_extra_9 : decode b_G_extra 9 = .ok (.ireturn, 1) := by decide +kernel
theorem d_G_extra_10 : decode b_G_extra 10 = .ok (.aload_n 0, 1) := by decide +kernel
theorem d_G_extra_11 : decode b_G_extra 11 = .ok (.getfield 17, 3) := by decide +kernel
theorem d_G_extra_14 : decode b_G_extra 14 = .ok (.iload_n 1, 1) := by decide +kernel
theorem d_G_extra_15 : decode b_G_extra 15 = .ok (.aaload, 1) := by decide +kernel
theorem d_G_extra_16 : decode b_G_extra 16 = .ok (.iload_n 2, 1) := by decide +kernel
theorem d_G_extra_17 : decode b_G_extra 17 = .ok (.putfield 130, 3) := by decide +kernel
theorem d_G_extra_20 : decode b_G_extra 20 = .ok (.iconst 0, 1) := by decide +kernel
theorem d_G_extra_21 : decode b_G_extra 21 = .ok (.ireturn, 1) := by decide +kernel
theorem d_G_data_0 : decode b_G_data 0 = .ok (.iload_n 3, 1) := by decide +kernel
theorem d_G_data_1 : decode b_G_data 1 = .ok (.iconst 1, 1) := by decide +kernel
theorem d_G_data_2 : decode b_G_data 2 = .ok (.if_icmp .lt 9, 3) := by decide +kernel
theorem d_G_data_5 : decode b_G_data 5 = .ok (.iload_n 3, 1) := by decide +kernel
theorem d_G_data_6 : decode b_G_data 6 = .ok (.bipush 8, 2) := by decide +kernel
theorem d_G_data_8 : decode b_G_data 8 = .ok (.if_icmp .le 5, 3) := by decide +kernel
theorem d_G_data_11 : decode b_G_data 11 = .ok (.iconst (-1), 1) := by decide +kernel
theorem d_G_data_12 : decode b_G_data 12 = .ok (.ireturn, 1) := by decide +kernel
theorem d_G_data_13 : decode b_G_data 13 = .ok (.aload_n 0, 1) := by decide +kernel
theorem d_G_data_14 : decode b_G_data 14 = .ok (.getfield 24, 3) := by decide +kernel
theorem d_G_data_17 : decode b_G_data 17 = .ok (.iload_n 3, 1) := by decide +kernel
theorem d_G_data_18 : decode b_G_data 18 = .ok (.invokevirtual 133, 3) := by decide +kernel
theorem d_G_data_21 : decode b_G_data 21 = .ok (.ifCond .ne 6, 3) := by decide +kernel
theorem d_G_data_24 : decode b_G_data 24 = .ok (.bipush (-2), 2) := by decide +kernel
theorem d_G_data_26 : decode b_G_data 26 = .ok (.ireturn, 1) := by decide +kernel
theorem d_G_data_27 : decode b_G_data 27 = .ok (.aload_n 0, 1) := by decide +kernel
theorem d_G_data_28 : decode b_G_data 28 = .ok (.getfield 24, 3) := by decide +kernel
theorem d_G_data_31 : decode b_G_data 31 = .ok (.lload_n 1, 1) := by decide +kernel
theorem d_G_data_32 : decode b_G_data 32 = .ok (.iload_n 3, 1) := by decide +kernel
theorem d_G_data_33 : decode b_G_data 33 = .ok (.invokevirtual 136, 3) := by decide +kernel
theorem d_G_data_36 : decode b_G_data 36 = .ok (.aload_n 0, 1) := by decide +kernel
theorem d_G_data_37 : decode b_G_data 37 = .ok (.getfield 24, 3) := by decide +kernel
theorem d_G_data_40 : decode b_G_data 40 = .ok (.getfield 139, 3) := by decide +kernel
theorem d_G_data_43 : decode b_G_data 43 = .ok (.ireturn, 1) := by decide +kernel
theorem d_O_hasRoomToWait_0 : decode b_O_hasRoomToWait 0 = .ok (.aload_n 0, 1) := by decide +kernel
theorem d_O_hasRoomToWait_1 : decode b_O_hasRoomToWait 1 = .ok (.getfield 41, 3) := by decide +kernel
theorem d_O_hasRoomToWait_4 : decode b_O_hasRoomToWait 4 = .ok (.iload_n 1, 1) := by decide +kernel
theorem d_O_hasRoomToWait_5 : decode b_O_hasRoomToWait 5 = .ok (.iadd, 1) := by decide +kernel
theorem d_O_hasRoomToWait_6 : decode b_O_hasRoomToWait 6 = .ok (.sipush 255, 3) := by decide +kernel
theorem d_O_hasRoomToWait_9 : decode b_O_hasRoomToWait 9 = .ok (.if_icmp .lt 7, 3) := by decide +kernel
theorem d_O_hasRoomToWait_12 : decode b_O_hasRoomToWait 12 = .ok (.iconst 2, 1) := by decide +kernel
theorem d_O_hasRoomToWait_13 : decode b_O_hasRoomToWait 13 = .ok (.goto 4, 3) := by decide +kernel
theorem d_O_hasRoomToWait_16 : decode b_O_hasRoomToWait 16 = .ok (.iconst 0, 1) := by decide +kernel
theorem d_O_hasRoomToWait_17 : decode b_O_hasRoomToWait 17 = .ok (.istore_n 2, 1) := by decide +kernel
theorem d_O_hasRoomToWait_18 : decode b_O_hasRoomToWait 18 = .ok (.aload_n 0, 1) := by decide +kernel
theorem d_O_hasRoomToWait_19 : decode b_O_hasRoomToWait 19 = .ok (.getfield 35, 3) := by decide +kernel
theorem d_O_hasRoomToWait_22 : decode b_O_hasRoomToWait 22 = .ok (.aload_n 0, 1) := by decide +kernel
theorem d_O_hasRoomToWait_23 : decode b_O_hasRoomToWait 23 = .ok (.getfield 41, 3) := by decide +kernel
theorem d_O_hasRoomToWait_26 : decode b_O_hasRoomToWait 26 = .ok (.iadd, 1) := by decide +kernel
theorem d_O_hasRoomToWait_27 : decode b_O_hasRoomToWait 27 = .ok (.iload_n 1, 1) := by decide +kernel
theorem d_O_hasRoomToWait_28 : decode b_O_hasRoomToWait 28 = .ok (.iadd, 1) := by decide +kernel
theorem d_O_hasRoomToWait_29 : decode b_O_hasRoomToWait 29 = .ok (.iload_n 2, 1) := by decide +kernel
theorem d_O_hasRoomToWait_30 : decode b_O_hasRoomToWait 30 = .ok (.iadd, 1) := by decide +kernel
theorem d_O_hasRoomToWait_31 : decode b_O_hasRoomToWait 31 = .ok (.sipush 1400, 3) := by decide +kernel
theorem d_O_hasRoomToWait_34 : decode b_O_hasRoomToWait 34 = .ok (.if_icmp .gt 7, 3) := by decide +kernel
theorem d_O_hasRoomToWait_37 : decode b_O_hasRoomToWait 37 = .ok (.iconst 1, 1) := by decide +kernel
theorem d_O_hasRoomToWait_38 : decode b_O_hasRoomToWait 38 = .ok (.goto 4, 3) := by decide +kernel
theorem d_O_hasRoomToWait_41 : decode b_O_hasRoomToWait 41 = .ok (.iconst 0, 1) := by decide +kernel
theorem d_O_hasRoomToWait_42 : decode b_O_hasRoomToWait 42 = .ok (.ireturn, 1) := by decide +kernel
theorem d_O_letWait_0 : decode b_O_letWait 0 = .ok (.bipush 8, 2) := by decide +kernel
theorem d_O_letWait_2 : decode b_O_letWait 2 = .ok (.iload_n 3, 1) := by decide +kernel
theorem d_O_letWait_3 : decode b_O_letWait 3 = .ok (.imul, 1) := by decide +kernel
theorem d_O_letWait_4 : decode b_O_letWait 4 = .ok (.bipush 8, 2) := by decide +kernel
theorem d_O_letWait_6 : decode b_O_letWait 6 = .ok (.isub, 1) := by decide +kernel
theorem d_O_letWait_7 : decode b_O_letWait 7 = .ok (.istore 4, 2) := by decide +kernel
theorem d_O_letWait_9 : decode b_O_letWait 9 = .ok (.iload 4, 2) := by decide +kernel
theorem d_O_letWait_11 : decode b_O_letWait 11 = .ok (.ifCond .lt 48, 3) := by decide +kernel
theorem d_O_letWait_14 : decode b_O_letWait 14 = .ok (.aload_n 0, 1) := by decide +kernel
theorem d_O_letWait_15 : decode b_O_letWait 15 = .ok (.getfield 15, 3) := by decide +kernel
theorem d_O_letWait_18 : decode b_O_letWait 18 = .ok (.aload_n 0, 1) := by decide +kernel
theorem d_O_letWait_19 : decode b_O_letWait 19 = .ok (.getfield 41, 3) := by decide +kernel
theorem d_O_letWait_22 : decode b_O_letWait 22 = .ok (.lload_n 1, 1) := by decide +kernel
theorem d_O_letWait_23 : decode b_O_letWait 23 = .ok (.iload 4, 2) := by decide +kernel
theorem d_O_letWait_25 : decode b_O_letWait 25 = .ok (.lushr, 1) := by decide +kernel
theorem d_O_letWait_26 : decode b_O_letWait 26 = .ok (.l2i, 1) := by decide +kernel
theorem d_O_letWait_27 : decode b_O_letWait 27 = .ok (.i2b, 1) := by decide +kernel
theorem d_O_letWait_28 : decode b_O_letWait 28 = .ok (.bastore, 1) := by decide +kernel
theorem d_O_letWait_29 : decode b_O_letWait 29 = .ok (.aload_n 0, 1) := by decide +kernel
theorem d_O_letWait_30 : decode b_O_letWait 30 = .ok (.dup, 1) := by decide +kernel
theorem d_O_letWait_31 : decode b_O_letWait 31 = .ok (.getfield 41, 3) := by decide +kernel
theorem d_O_letWait_34 : decode b_O_letWait 34 = .ok (.iconst 1, 1) := by decide +kernel
theorem d_O_letWait_35 : decode b_O_letWait 35 = .ok (.iadd, 1) := by decide +kernel
theorem d_O_letWait_36 : decode b_O_letWait 36 = .ok (.putfield 41, 3) := by decide +kernel
theorem d_O_letWait_39 : decode b_O_letWait 39 = .ok (.aload_n 0, 1) := by decide +kernel
theorem d_O_letWait_40 : decode b_O_letWait 40 = .ok (.getfield 41, 3) := by decide +kernel
theorem d_O_letWait_43 : decode b_O_letWait 43 = .ok (.sipush 255, 3) := by decide +kernel
theorem d_O_letWait_46 : decode b_O_letWait 46 = .ok (.if_icmp .ne 7, 3) := by decide +kernel
theorem d_O_letWait_49 : decode b_O_letWait 49 = .ok (.aload_n 0, 1) := by decide +kernel
theorem d_O_letWait_50 : decode b_O_letWait 50 = .ok (.invokevirtual 105, 3) := by decide +kernel
theorem d_O_letWait_53 : decode b_O_letWait 53 = .ok (.iinc 4 (-8), 3) := by decide +kernel
theorem d_O_letWait_56 : decode b_O_letWait 56 = .ok (.goto (-47), 3) := by decide +kernel
theorem d_O_letWait_59 : decode b_O_letWait 59 = .ok (.return_, 1) := by decide +kernel
theorem d_O_flush_0 : decode b_O_flush 0 = .ok (.aload_n 0, 1) := by decide +kernel
theorem d_O_flush_1 : decode b_O_flush 1 = .ok (.getfield 41, 3) := by decide +kernel
theorem d_O_flush_4 : decode b_O_flush 4 = .ok (.ifCond .ne 4, 3) := by decide +kernel
theorem d_O_flush_7 : decode b_O_flush 7 = .ok (.return_, 1) := by decide +kernel
theorem d_O_flush_8 : decode b_O_flush 8 = .ok (.aload_n 0, 1) := by decide +kernel
theorem d_O_flush_9 : decode b_O_flush 9 = .ok (.ldc2_w 108, 3) := by decide +kernel
theorem d_O_flush_12 : decode b_O_flush 12 = .ok (.iconst 1, 1) := by decide +kernel
theorem d_O_flush_13 : decode b_O_flush 13 = .ok (.invokevirtual 64, 3) := by decide +kernel
theorem d_O_flush_16 : decode b_O_flush 16 = .ok (.aload_n 0, 1) := by decide +kernel
theorem d_O_flush_17 : decode b_O_flush 17 = .ok (.aload_n 0, 1) := by decide +kernel
theorem d_O_flush_18 : decode b_O_flush 18 = .ok (.getfield 41, 3) := by decide +kernel
theorem d_O_flush_21 : decode b_O_flush 21 = .ok (.i2l, 1) := by decide +kernel
theorem d_O_flush_22 : decode b_O_flush 22 = .ok (.iconst 1, 1) := by decide +kernel
theorem d_O_flush_23 : decode b_O_flush 23 = .ok (.invokevirtual 64, 3) := by decide +kernel
theorem d_O_flush_26 : decode b_O_flush 26 = .ok (.iconst 0, 1) := by decide +kernel
theorem d_O_flush_27 : decode b_O_flush 27 = .ok (.istore_n 1, 1) := by decide +kernel
theorem d_O_flush_28 : decode b_O_flush 28 = .ok (.iload_n 1, 1) := by decide +kernel
theorem d_O_flush_29 : decode b_O_flush 29 = .ok (.aload_n 0, 1) := by decide +kernel
theorem d_O_flush_30 : decode b_O_flush 30 = .ok (.getfield 41, 3) := by decide +kernel
theorem d_O_flush_33 : decode b_O_flush 33 = .ok (.if_icmp .ge 21, 3) := by decide +kernel
theorem d_O_flush_36 : decode b_O_flush 36 = .ok (.aload_n 0, 1) := by decide +kernel
theorem d_O_flush_37 : decode b_O_flush 37 = .ok (.aload_n 0, 1) := by decide +kernel
theorem d_O_flush_38 : decode b_O_flush 38 = .ok (.getfield 15, 3) := by decide +kernel
theorem d_O_flush_41 : decode b_O_flush 41 = .ok (.iload_n 1, 1) := by decide +kernel
theorem d_O_flush_42 : decode b_O_flush 42 = .ok (.baload, 1) := by decide +kernel
theorem d_O_flush_43 : decode b_O_flush 43 = .ok (.i2l, 1) := by decide +kernel
theorem d_O_flush_44 : decode b_O_flush 44 = .ok (.iconst 1, 1) := by decide +kernel
theorem d_O_flush_45 : decode b_O_flush 45 = .ok (.invokevirtual 64, 3) := by decide +kernel
theorem d_O_flush_48 : decode b_O_flush 48 = .ok (.iinc 1 1, 3) := by decide +kernel
theorem d_O_flush_51 : decode b_O_flush 51 = .ok (.goto (-23), 3) := by decide +kernel
theorem d_O_flush_54 : decode b_O_flush 54 = .ok (.aload_n 0, 1) := by decide +kernel
theorem d_O_flush_55 : decode b_O_flush 55 = .ok (.iconst 0, 1) := by decide +kernel
theorem d_O_flush_56 : decode b_O_flush 56 = .ok (.putfield 41, 3) := by decide +kernel
theorem d_O_flush_59 : decode b_O_flush 59 = .ok (.return_, 1) := by decide +kernel
theorem d_G_write_0 : decode b_G_write 0 = .ok (.iload_n 1, 1) := by decide +kernel
theorem d_G_write_1 : decode b_G_write 1 = .ok (.iconst (-1), 1) := by decide +kernel
theorem d_G_write_2 : decode b_G_write 2 = .ok (.if_icmp .eq 13, 3) := by decide +kernel
theorem d_G_write_5 : decode b_G_write 5 = .ok (.aload_n 0, 1) := by decide +kernel
theorem d_G_write_6 : decode b_G_write 6 = .ok (.iload_n 1, 1) := by decide +kernel
theorem d_G_write_7 : decode b_G_write 7 = .ok (.invokevirtual 110, 3) := by decide +kernel
theorem d_G_write_10 : decode b_G_write 10 = .ok (.ifCond .ne 5, 3) := by decide +kernel
theorem d_G_write_13 : decode b_G_write 13 = .ok (.iconst (-1), 1) := by decide +kernel
theorem d_G_write_14 : decode b_G_write 14 = .ok (.ireturn, 1) := by decide +kernel
theorem d_G_write_15 : decode b_G_write 15 = .ok (.aload_n 0, 1) := by decide +kernel
theorem d_G_write_16 : decode b_G_write 16 = .ok (.getfield 24, 3) := by decide +kernel
theorem d_G_write_19 : decode b_G_write 19 = .ok (.invokevirtual 142, 3) := by decide +kernel
theorem d_G_write_22 : decode b_G_write 22 = .ok (.aload_n 0, 1) := by decide +kernel
theorem d_G_write_23 : decode b_G_write 23 = .ok (.getfield 24, 3) := by decide +kernel
theorem d_G_write_26 : decode b_G_write 26 = .ok (.invokevirtual 145, 3) := by decide +kernel
theorem d_G_write_29 : decode b_G_write 29 = .ok (.aload_n 0, 1) := by decide +kernel
theorem d_G_write_30 : decode b_G_write 30 = .ok (.iload_n 1, 1) := by decide +kernel
theorem d_G_write_31 : decode b_G_write 31 = .ok (.iload_n 2, 1) := by decide +kernel
theorem d_G_write_32 : decode b_G_write 32 = .ok (.iconst 0, 1) := by decide +kernel
theorem d_G_write_33 : decode b_G_write 33 = .ok (.invokevirtual 148, 3) := by decide +kernel
theorem d_G_write_36 : decode b_G_write 36 = .ok (.aload_n 0, 1) := by decide +kernel
theorem d_G_write_37 : decode b_G_write 37 = .ok (.getfield 24, 3) := by decide +kernel
theorem d_G_write_40 : decode b_G_write 40 = .ok (.invokevirtual 152, 3) := by decide +kernel
theorem d_G_write_43 : decode b_G_write 43 = .ok (.ireturn, 1) := by decide +kernel
theorem d_O_begin_0 : decode b_O_begin 0 = .ok (.aload_n 0, 1) := by decide +kernel
theorem d_O_begin_1 : decode b_O_begin 1 = .ok (.getfield 18, 3) := by decide +kernel
theorem d_O_begin_4 : decode b_O_begin 4 = .ok (.iconst 0, 1) := by decide +kernel
theorem d_O_begin_5 : decode b_O_begin 5 = .ok (.aload_n 0, 1) := by decide +kernel
theorem d_O_begin_6 : decode b_O_begin 6 = .ok (.getfield 26, 3) := by decide +kernel
theorem d_O_begin_9 : decode b_O_begin 9 = .ok (.iconst 0, 1) := by decide +kernel
theorem d_O_begin_10 : decode b_O_begin 10 = .ok (.bipush 35, 2) := by decide +kernel
theorem d_O_begin_12 : decode b_O_begin 12 = .ok (.invokestatic 29, 3) := by decide +kernel
theorem d_O_begin_15 : decode b_O_begin 15 = .ok (.aload_n 0, 1) := by decide +kernel
theorem d_O_begin_16 : decode b_O_begin 16 = .ok (.aload_n 0, 1) := by decide +kernel
theorem d_O_begin_17 : decode b_O_begin 17 = .ok (.getfield 35, 3) := by decide +kernel
theorem d_O_begin_20 : decode b_O_begin 20 = .ok (.putfield 38, 3) := by decide +kernel
theorem d_O_begin_23 : decode b_O_begin 23 = .ok (.aload_n 0, 1) := by decide +kernel
theorem d_O_begin_24 : decode b_O_begin 24 = .ok (.aload_n 0, 1) := by decide +kernel
theorem d_O_begin_25 : decode b_O_begin 25 = .ok (.getfield 41, 3) := by decide +kernel
theorem d_O_begin_28 : decode b_O_begin 28 = .ok (.putfield 44, 3) := by decide +kernel
theorem d_O_begin_31 : decode b_O_begin 31 = .ok (.aload_n 0, 1) := by decide +kernel
theorem d_O_begin_32 : decode b_O_begin 32 = .ok (.aload_n 0, 1) := by decide +kernel
theorem d_O_begin_33 : decode b_O_begin 33 = .ok (.getfield 47, 3) := by decide +kernel
theorem d_O_begin_36 : decode b_O_begin 36 = .ok (.putfield 50, 3) := by decide +kernel
theorem d_O_begin_39 : decode b_O_begin 39 = .ok (.return_, 1) := by decide +kernel
theorem d_G_writeObject_0 : decode b_G_writeObject 0 = .ok (.aload_n 0, 1) := by decide +kernel
theorem d_G_writeObject_1 : decode b_G_writeObject 1 = .ok (.getfield 24, 3) := by decide +kernel
theorem d_G_writeObject_4 : decode b_G_writeObject 4 = .ok (.getfield 212, 3) := by decide +kernel
theorem d_G_writeObject_7 : decode b_G_writeObject 7 = .ok (.ifCond .eq 4, 3) := by decide +kernel
theorem d_G_writeObject_10 : decode b_G_writeObject 10 = .ok (.return_, 1) := by decide +kernel
theorem d_G_writeObject_11 : decode b_G_writeObject 11 = .ok (.iload_n 1, 1) := by decide +kernel
theorem d_G_writeObject_12 : decode b_G_writeObject 12 = .ok (.iconst (-1), 1) := by decide +kernel
theorem d_G_writeObject_13 : decode b_G_writeObject 13 = .ok (.if_icmp .ne 15, 3) := by decide +kernel
theorem d_G_writeObject_16 : decode b_G_writeObject 16 = .ok (.aload_n 0, 1) := by decide +kernel
theorem d_G_writeObject_17 : decode b_G_writeObject 17 = .ok (.getfield 24, 3) := by decide +kernel
theorem d_G_writeObject_20 : decode b_G_writeObject 20 = .ok (.ldc2_w 215, 3) := by decide +kernel
theorem d_G_writeObject_23 : decode b_G_writeObject 23 = .ok (.iconst 1, 1) := by decide +kernel
theorem d_G_writeObject_24 : decode b_G_writeObject 24 = .ok (.invokevirtual 33, 3) := by decide +kernel
theorem d_G_writeObject_27 : decode b_G_writeObject 27 = .ok (.return_, 1) := by decide +kernel
theorem d_G_writeObject_28 : decode b_G_writeObject 28 = .ok (.iload_n 3, 1) := by decide +kernel
theorem d_G_writeObject_29 : decode b_G_writeObject 29 = .ok (.bipush 12, 2) := by decide +kernel
theorem d_G_writeObject_31 : decode b_G_writeObject 31 = .ok (.if_icmp .le 13, 3) := by decide +kernel
theorem d_G_writeObject_34 : decode b_G_writeObject 34 = .ok (.aload_n 0, 1) := by decide +kernel
theorem d_G_writeObject_35 : decode b_G_writeObject 35 = .ok (.getfield 24, 3) := by decide +kernel
theorem d_G_writeObject_38 : decode b_G_writeObject 38 = .ok (.bipush (-2), 2) := by decide +kernel
theorem d_G_writeObject_40 : decode b_G_writeObject 40 = .ok (.putfield 212, 3) := by decide +kernel
theorem d_G_writeObject_43 : decode b_G_writeObject 43 = .ok (.return_, 1) := by decide +kernel
theorem d_G_writeObject_44 : decode b_G_writeObject 44 = .ok (.aload_n 0, 1) := by decide +kernel
theorem d_G_writeObject_45 : decode b_G_writeObject 45 = .ok (.iload_n 1, 1) := by decide +kernel
theorem d_G_writeObject_46 : decode b_G_writeObject 46 = .ok (.invokevirtual 217, 3) := by decide +kernel
theorem d_G_writeObject_49 : decode b_G_writeObject 49 = .ok (.istore 4, 2) := by decide +kernel
theorem d_G_writeObject_51 : decode b_G_writeObject 51 = .ok (.iload_n 2, 1) := by decide +kernel
theorem d_G_writeObject_52 : decode b_G_writeObject 52 = .ok (.ifCond .ne 16, 3) := by decide +kernel
theorem d_G_writeObject_55 : decode b_G_writeObject 55 = .ok (.aload_n 0, 1) := by decide +kernel
theorem d_G_writeObject_56 : decode b_G_writeObject 56 = .ok (.getfield 24, 3) := by decide +kernel
theorem d_G_writeObject_59 : decode b_G_writeObject 59 = .ok (.iload 4, 2) := by decide +kernel
theorem d_G_writeObject_61 : decode b_G_writeObject 61 = .ok (.invokevirtual 221, 3) := by decide +kernel
theorem d_G_writeObject_64 : decode b_G_writeObject 64 = .ok (.ifCond .eq 4, 3) := by decide +kernel
theorem d_G_writeObject_67 : decode b_G_writeObject 67 = .ok (.return_, 1) := by decide +kernel
theorem d_G_writeObject_68 : decode b_G_writeObject 68 = .ok (.aload_n 0, 1) := by decide +kernel
theorem d_G_writeObject_69 : decode b_G_writeObject 69 = .ok (.getfield 17, 3) := by decide +kernel
theorem d_G_writeObject_72 : decode b_G_writeObject 72 = .ok (.iload 4, 2) := by decide +kernel
theorem d_G_writeObject_74 : decode b_G_writeObject 74 = .ok (.aaload, 1) := by decide +kernel
theorem d_G_writeObject_75 : decode b_G_writeObject 75 = .ok (.getfield 174, 3) := by decide +kernel
theorem d_G_writeObject_78 : decode b_G_writeObject 78 = .ok (.tableswitch 80 1 4 #[30, 52, 61, 71], 30) := by decide +kernel
theorem d_G_writeObject_108 : decode b_G_writeObject 108 = .ok (.aload_n 0, 1) := by decide +kernel
theorem d_G_writeObject_109 : decode b_G_writeObject 109 = .ok (.getfield 24, 3) := by decide +kernel
theorem d_G_writeObject_112 : decode b_G_writeObject 112 = .ok (.iload 4, 2) := by decide +kernel
theorem d_G_writeObject_114 : decode b_G_writeObject 114 = .ok (.aload_n 0, 1) := by decide +kernel
theorem d_G_writeObject_115 : decode b_G_writeObject 115 = .ok (.getfield 17, 3) := by decide +kernel
theorem d_G_writeObject_118 : decode b_G_writeObject 118 = .ok (.iload 4, 2) := by decide +kernel
theorem d_G_writeObject_120 : decode b_G_writeObject 120 = .ok (.aaload, 1) := by decide +kernel
theorem d_G_writeObject_121 : decode b_G_writeObject 121 = .ok (.getfield 180, 3) := by decide +kernel
theorem d_G_writeObject_124 : decode b_G_writeObject 124 = .ok (.invokevirtual 224, 3) := by decide +kernel
theorem d_G_writeObject_127 : decode b_G_writeObject 127 = .ok (.goto 38, 3) := by decide +kernel
theorem d_G_writeObject_130 : decode b_G_writeObject 130 = .ok (.aload_n 0, 1) := by decide +kernel
theorem d_G_writeObject_131 : decode b_G_writeObject 131 = .ok (.iload 4, 2) := by decide +kernel
theorem d_G_writeObject_133 : decode b_G_writeObject 133 = .ok (.invokevirtual 228, 3) := by decide +kernel
theorem d_G_writeObject_136 : decode b_G_writeObject 136 = .ok (.goto 29, 3) := by decide +kernel
theorem d_G_writeObject_139 : decode b_G_writeObject 139 = .ok (.aload_n 0, 1) := by decide +kernel
theorem d_G_writeObject_140 : decode b_G_writeObject 140 = .ok (.iload 4, 2) := by decide +kernel
theorem d_G_writeObject_142 : decode b_G_writeObject 142 = .ok (.iload_n 3, 1) := by decide +kernel
theorem d_G_writeObject_143 : decode b_G_writeObject 143 = .ok (.invokevirtual 232, 3) := by decide +kernel
theorem d_G_writeObject_146 : decode b_G_writeObject 146 = .ok (.goto 19, 3) := by decide +kernel
theorem d_G_writeObject_149 : decode b_G_writeObject 149 = .ok (.aload_n 0, 1) := by decide +kernel
theorem d_G_writeObject_150 : decode b_G_writeObject 150 = .ok (.iload 4, 2) := by decide +kernel
theorem d_G_writeObject_152 : decode b_G_writeObject 152 = .ok (.invokevirtual 236, 3) := by decide +kernel
theorem d_G_writeObject_155 : decode b_G_writeObject 155 = .ok (.goto 10, 3) := by decide +kernel
theorem d_G_writeObject_158 : decode b_G_writeObject 158 = .ok (.aload_n 0, 1) := by decide +kernel
theorem d_G_writeObject_159 : decode b_G_writeObject 159 = .ok (.iload 4, 2) := by decide +kernel
theorem d_G_writeObject_161 : decode b_G_writeObject 161 = .ok (.iload_n 3, 1) := by decide +kernel
theorem d_G_writeObject_162 : decode b_G_writeObject 162 = .ok (.invokevirtual 239, 3) := by decide +kernel
theorem d_G_writeObject_165 : decode b_G_writeObject 165 = .ok (.return_, 1) := by decide +kernel
theorem d_G_replaced_0 : decode b_G_replaced 0 = .ok (.iload_n 1, 1) := by decide +kernel
theorem d_G_replaced_1 : decode b_G_replaced 1 = .ok (.istore_n 2, 1) := by decide +kernel
theorem d_G_replaced_2 : decode b_G_replaced 2 = .ok (.iconst 0, 1) := by decide +kernel
theorem d_G_replaced_3 : decode b_G_replaced 3 = .ok (.istore_n 3, 1) := by decide +kernel
theorem d_G_replaced_4 : decode b_G_replaced 4 = .ok (.iconst 0, 1) := by decide +kernel
theorem d_G_replaced_5 : decode b_G_replaced 5 = .ok (.istore 4, 2) := by decide +kernel
theorem d_G_replaced_7 : decode b_G_replaced 7 = .ok (.iload 4, 2) := by decide +kernel
theorem d_G_replaced_9 : decode b_G_replaced 9 = .ok (.bipush 12, 2) := by decide +kernel
theorem d_G_replaced_11 : decode b_G_replaced 11 = .ok (.if_icmp .ge 47, 3) := by decide +kernel
theorem d_G_replaced_14 : decode b_G_replaced 14 = .ok (.iload_n 3, 1) := by decide +kernel
theorem d_G_replaced_15 : decode b_G_replaced 15 = .ok (.iconst 1, 1) := by decide +kernel
theorem d_G_replaced_16 : decode b_G_replaced 16 = .ok (.iload_n 2, 1) := by decide +kernel
theorem d_G_replaced_17 : decode b_G_replaced 17 = .ok (.ishl, 1) := by decide +kernel
theorem d_G_replaced_18 : decode b_G_replaced 18 = .ok (.ior, 1) := by decide +kernel
theorem d_G_replaced_19 : decode b_G_replaced 19 = .ok (.istore_n 3, 1) := by decide +kernel
theorem d_G_replaced_20 : decode b_G_replaced 20 = .ok (.aload_n 0, 1) := by decide +kernel
theorem d_G_replaced_21 : decode b_G_replaced 21 = .ok (.getfield 17, 3) := by decide +kernel
theorem d_G_replaced_24 : decode b_G_replaced 24 = .ok (.iload_n 2, 1) := by decide +kernel
theorem d_G_replaced_25 : decode b_G_replaced 25 = .ok (.aaload, 1) := by decide +kernel
theorem d_G_replaced_26 : decode b_G_replaced 26 = .ok (.getfield 127, 3) := by decide +kernel
theorem d_G_replaced_29 : decode b_G_replaced 29 = .ok (.istore 5, 2) := by decide +kernel
theorem d_G_replaced_31 : decode b_G_replaced 31 = .ok (.iload 5, 2) := by decide +kernel
theorem d_G_replaced_33 : decode b_G_replaced 33 = .ok (.iconst (-1), 1) := by decide +kernel
theorem d_G_replaced_34 : decode b_G_replaced 34 = .ok (.if_icmp .eq 24, 3) := by decide +kernel
theorem d_G_replaced_37 : decode b_G_replaced 37 = .ok (.iload_n 3, 1) := by decide +kernel
theorem d_G_replaced_38 : decode b_G_replaced 38 = .ok (.iload 5, 2) := by decide +kernel
theorem d_G_replaced_40 : decode b_G_replaced 40 = .ok (.ishr, 1) := by decide +kernel
theorem d_G_replaced_41 : decode b_G_replaced 41 = .ok (.iconst 1, 1) := by decide +kernel
theorem d_G_replaced_42 : decode b_G_replaced 42 = .ok (.iand, 1) := by decide +kernel
theorem d_G_replaced_43 : decode b_G_replaced 43 = .ok (.ifCond .eq 6, 3) := by decide +kernel
theorem d_G_replaced_46 : decode b_G_replaced 46 = .ok (.goto 12, 3) := by decide +kernel
theorem d_G_replaced_49 : decode b_G_replaced 49 = .ok (.iload 5, 2) := by decide +kernel
theorem d_G_replaced_51 : decode b_G_replaced 51 = .ok (.istore_n 2, 1) := by decide +kernel
theorem d_G_replaced_52 : decode b_G_replaced 52 = .ok (.iinc 4 1, 3) := by decide +kernel
theorem d_G_replaced_55 : decode b_G_replaced 55 = .ok (.goto (-48), 3) := by decide +kernel
theorem d_G_replaced_58 : decode b_G_replaced 58 = .ok (.iload_n 2, 1) := by decide +kernel
theorem d_G_replaced_59 : decode b_G_replaced 59 = .ok (.ireturn, 1) := by decide +kernel
theorem d_O_putReference_0 : decode b_O_putReference 0 = .ok (.aload_n 0, 1) := by decide +kernel
theorem d_O_putReference_1 : decode b_O_putReference 1 = .ok (.getfield 18, 3) := by decide +kernel
theorem d_O_putReference_4 : decode b_O_putReference 4 = .ok (.iload_n 1, 1) := by decide +kernel
theorem d_O_putReference_5 : decode b_O_putReference 5 = .ok (.iaload, 1) := by decide +kernel
theorem d_O_putReference_6 : decode b_O_putReference 6 = .ok (.iconst (-1), 1) := by decide +kernel
theorem d_O_putReference_7 : decode b_O_putReference 7 = .ok (.if_icmp .ne 5, 3) := by decide +kernel
theorem d_O_putReference_10 : decode b_O_putReference 10 = .ok (.iconst 0, 1) := by decide +kernel
theorem d_O_putReference_11 : decode b_O_putReference 11 = .ok (.ireturn, 1) := by decide +kernel
theorem d_O_putReference_12 : decode b_O_putReference 12 = .ok (.aload_n 0, 1) := by decide +kernel
theorem d_O_putReference_13 : decode b_O_putReference 13 = .ok (.ldc2_w 78, 3) := by decide +kernel
theorem d_O_putReference_16 : decode b_O_putReference 16 = .ok (.iconst 1, 1) := by decide +kernel
theorem d_O_putReference_17 : decode b_O_putReference 17 = .ok (.invokevirtual 64, 3) := by decide +kernel
theorem d_O_putReference_20 : decode b_O_putReference 20 = .ok (.aload_n 0, 1) := by decide +kernel
theorem d_O_putReference_21 : decode b_O_putReference 21 = .ok (.ldc 80, 2) := by decide +kernel
theorem d_O_putReference_23 : decode b_O_putReference 23 = .ok (.aload_n 0, 1) := by decide +kernel
theorem d_O_putReference_24 : decode b_O_putReference 24 = .ok (.getfield 18, 3) := by decide +kernel
theorem d_O_putReference_27 : decode b_O_putReference 27 = .ok (.iload_n 1, 1) := by decide +kernel
theorem d_O_putReference_28 : decode b_O_putReference 28 = .ok (.iaload, 1) := by decide +kernel
theorem d_O_putReference_29 : decode b_O_putReference 29 = .ok (.iadd, 1) := by decide +kernel
theorem d_O_putReference_30 : decode b_O_putReference 30 = .ok (.i2l, 1) := by decide +kernel
theorem d_O_putReference_31 : decode b_O_putReference 31 = .ok (.iconst 4, 1) := by decide +kernel
theorem d_O_putReference_32 : decode b_O_putReference 32 = .ok (.invokevirtual 64, 3) := by decide +kernel
theorem d_O_putReference_35 : decode b_O_putReference 35 = .ok (.iconst 1, 1) := by decide +kernel
theorem d_O_putReference_36 : decode b_O_putReference 36 = .ok (.ireturn, 1) := by decide +kernel
theorem d_O_putText_0 : decode b_O_putText 0 = .ok (.aload_n 0, 1) := by decide +kernel
theorem d_O_putText_1 : decode b_O_putText 1 = .ok (.ldc2_w 81, 3) := by decide +kernel
theorem d_O_putText_4 : decode b_O_putText 4 = .ok (.iconst 1, 1) := by decide +kernel
theorem d_O_putText_5 : decode b_O_putText 5 = .ok (.invokevirtual 64, 3) := by decide +kernel
theorem d_O_putText_8 : decode b_O_putText 8 = .ok (.aload_n 0, 1) := by decide +kernel
theorem d_O_putText_9 : decode b_O_putText 9 = .ok (.iload_n 1, 1) := by decide +kernel
theorem d_O_putText_10 : decode b_O_putText 10 = .ok (.invokevirtual 83, 3) := by decide +kernel
theorem d_O_putText_13 : decode b_O_putText 13 = .ok (.aload_n 0, 1) := by decide +kernel
theorem d_O_putText_14 : decode b_O_putText 14 = .ok (.aload_n 2, 1) := by decide +kernel
theorem d_O_putText_15 : decode b_O_putText 15 = .ok (.invokevirtual 87, 3) := by decide +kernel
theorem d_O_putText_18 : decode b_O_putText 18 = .ok (.return_, 1) := by decide +kernel
theorem d_O_giveHandle_0 : decode b_O_giveHandle 0 = .ok (.aload_n 0, 1) := by decide +kernel
theorem d_O_giveHandle_1 : decode b_O_giveHandle 1 = .ok (.getfield 18, 3) := by decide +kernel
theorem d_O_giveHandle_4 : decode b_O_giveHandle 4 = .ok (.iload_n 1, 1) := by decide +kernel
theorem d_O_giveHandle_5 : decode b_O_giveHandle 5 = .ok (.aload_n 0, 1) := by decide +kernel
theorem d_O_giveHandle_6 : decode b_O_giveHandle 6 = .ok (.getfield 47, 3) := by decide +kernel
theorem d_O_giveHandle_9 : decode b_O_giveHandle 9 = .ok (.iastore, 1) := by decide +kernel
theorem d_O_giveHandle_10 : decode b_O_giveHandle 10 = .ok (.aload_n 0, 1) := by decide +kernel
theorem d_O_giveHandle_11 : decode b_O_giveHandle 11 = .ok (.dup, 1) := by decide +kernel
theorem d_O_giveHandle_12 : decode b_O_giveHandle 12 = .ok (.getfield 47, 3) := by decide +kernel
theorem d_O_giveHandle_15 : decode b_O_giveHandle 15 = .ok (.iconst 1, 1) := by decide +kernel
theorem d_O_giveHandle_16 : decode b_O_giveHandle 16 = .ok (.iadd, 1) := by decide +kernel
theorem d_O_giveHandle_17 : decode b_O_giveHandle 17 = .ok (.putfield 47, 3) := by decide +kernel
theorem d_O_giveHandle_20 : decode b_O_giveHandle 20 = .ok (.return_, 1) := by decide +kernel
theorem d_O_putUtf_0 : decode b_O_putUtf 0 = .ok (.aload_n 0, 1) := by decide +kernel
theorem d_O_putUtf_1 : decode b_O_putUtf 1 = .ok (.aload_n 1, 1) := by decide +kernel
theorem d_O_putUtf_2 : decode b_O_putUtf 2 = .ok (.invokevirtual 59, 3) := by decide +kernel
theorem d_O_putUtf_5 : decode b_O_putUtf 5 = .ok (.i2l, 1) := by decide +kernel
theorem d_O_putUtf_6 : decode b_O_putUtf 6 = .ok (.iconst 2, 1) := by decide +kernel
theorem d_O_putUtf_7 : decode b_O_putUtf 7 = .ok (.invokevirtual 64, 3) := by decide +kernel
theorem d_O_putUtf_10 : decode b_O_putUtf 10 = .ok (.iconst 0, 1) := by decide +kernel
theorem d_O_putUtf_11 : decode b_O_putUtf 11 = .ok (.istore_n 2, 1) := by decide +kernel
theorem d_O_putUtf_12 : decode b_O_putUtf 12 = .ok (.iload_n 2, 1) := by decide +kernel
theorem d_O_putUtf_13 : decode b_O_putUtf 13 = .ok (.aload_n 1, 1) := by decide +kernel
theorem d_O_putUtf_14 : decode b_O_putUtf 14 = .ok (.invokevirtual 59, 3) := by decide +kernel
theorem d_O_putUtf_17 : decode b_O_putUtf 17 = .ok (.if_icmp .ge 20, 3) := by decide +kernel
theorem d_O_putUtf_20 : decode b_O_putUtf 20 = .ok (.aload_n 0, 1) := by decide +kernel
theorem d_O_putUtf_21 : decode b_O_putUtf 21 = .ok (.aload_n 1, 1) := by decide +kernel
theorem d_O_putUtf_22 : decode b_O_putUtf 22 = .ok (.iload_n 2, 1) := by decide +kernel
theorem d_O_putUtf_23 : decode b_O_putUtf 23 = .ok (.invokevirtual 68, 3) := by decide +kernel
theorem d_O_putUtf_26 : decode b_O_putUtf 26 = .ok (.i2l, 1) := by decide +kernel
theorem d_O_putUtf_27 : decode b_O_putUtf 27 = .ok (.iconst 1, 1) := by decide +kernel
theorem d_O_putUtf_28 : decode b_O_putUtf 28 = .ok (.invokevirtual 64, 3) := by decide +kernel
theorem d_O_putUtf_31 : decode b_O_putUtf 31 = .ok (.iinc 2 1, 3) := by decide +kernel
theorem d_O_putUtf_34 : decode b_O_putUtf 34 = .ok (.goto (-22), 3) := by decide +kernel
theorem d_O_putUtf_37 : decode b_O_putUtf 37 = .ok (.return_, 1) := by decide +kernel
theorem d_JS_charAt_0 : decode b_JS_charAt 0 = .ok (.aload_n 0, 1) := by decide +kernel
theorem d_JS_charAt_1 : decode b_JS_charAt 1 = .ok (.invokevirtual 492, 3) := by decide +kernel
theorem d_JS_charAt_4 : decode b_JS_charAt 4 = .ok (.ifCond .eq 12, 3) := by decide +kernel
theorem d_JS_charAt_7 : decode b_JS_charAt 7 = .ok (.aload_n 0, 1) := by decide +kernel
theorem d_JS_charAt_8 : decode b_JS_charAt 8 = .ok (.getfield 9, 3) := by decide +kernel
theorem d_JS_charAt_11 : decode b_JS_charAt 11 = .ok (.iload_n 1, 1) := by decide +kernel
theorem d_JS_charAt_12 : decode b_JS_charAt 12 = .ok (.invokestatic 495, 3) := by decide +kernel
theorem d_JS_charAt_15 : decode b_JS_charAt 15 = .ok (.ireturn, 1) := by decide +kernel
theorem d_JS_charAt_16 : decode b_JS_charAt 16 = .ok (.aload_n 0, 1) := by decide +kernel
theorem d_JS_charAt_17 : decode b_JS_charAt 17 = .ok (.getfield 9, 3) := by decide +kernel
theorem d_JS_charAt_20 : decode b_JS_charAt 20 = .ok (.iload_n 1, 1) := by decide +kernel
theorem d_JS_charAt_21 : decode b_JS_charAt 21 = .ok (.invokestatic 498, 3) := by decide +kernel
theorem d_JS_charAt_24 : decode b_JS_charAt 24 = .ok (.ireturn, 1) := by decide +kernel
theorem d_JL_charAt_0 : decode b_JL_charAt 0 = .ok (.iload_n 1, 1) := by decide +kernel
theorem d_JL_charAt_1 : decode b_JL_charAt 1 = .ok (.aload_n 0, 1) := by decide +kernel
theorem d_JL_charAt_2 : decode b_JL_charAt 2 = .ok (.arraylength, 1) := by decide +kernel
theorem d_JL_charAt_3 : decode b_JL_charAt 3 = .ok (.invokestatic 9, 3) := by decide +kernel
theorem d_JL_charAt_6 : decode b_JL_charAt 6 = .ok (.aload_n 0, 1) := by decide +kernel
theorem d_JL_charAt_7 : decode b_JL_charAt 7 = .ok (.iload_n 1, 1) := by decide +kernel
theorem d_JL_charAt_8 : decode b_JL_charAt 8 = .ok (.baload, 1) := by decide +kernel
theorem d_JL_charAt_9 : decode b_JL_charAt 9 = .ok (.sipush 255, 3) := by decide +kernel
theorem d_JL_charAt_12 : decode b_JL_charAt 12 = .ok (.iand, 1) := by decide +kernel
theorem d_JL_charAt_13 : decode b_JL_charAt 13 = .ok (.i2c, 1) := by decide +kernel
theorem d_JL_charAt_14 : decode b_JL_charAt 14 = .ok (.ireturn, 1) := by decide +kernel
theorem d_JU_charAt_0 : decode b_JU_charAt 0 = .ok (.iload_n 1, 1) := by decide +kernel
theorem d_JU_charAt_1 : decode b_JU_charAt 1 = .ok (.aload_n 0, 1) := by decide +kernel
theorem d_JU_charAt_2 : decode b_JU_charAt 2 = .ok (.invokestatic 67, 3) := by decide +kernel
theorem d_JU_charAt_5 : decode b_JU_charAt 5 = .ok (.aload_n 0, 1) := by decide +kernel
theorem d_JU_charAt_6 : decode b_JU_charAt 6 = .ok (.iload_n 1, 1) := by decide +kernel
theorem d_JU_charAt_7 : decode b_JU_charAt 7 = .ok (.invokestatic 71, 3) := by decide +kernel
theorem d_JU_charAt_10 : decode b_JU_charAt 10 = .ok (.ireturn, 1) := by decide +kernel
theorem d_G_writeInts_0 : decode b_G_writeInts 0 = .ok (.aload_n 0, 1) := by decide +kernel
theorem d_G_writeInts_1 : decode b_G_writeInts 1 = .ok (.getfield 17, 3) := by decide +kernel
theorem d_G_writeInts_4 : decode b_G_writeInts 4 = .ok (.iload_n 1, 1) := by decide +kernel
theorem d_G_writeInts_5 : decode b_G_writeInts 5 = .ok (.aaload, 1) := by decide +kernel
theorem d_G_writeInts_6 : decode b_G_writeInts 6 = .ok (.getfield 120, 3) := by decide +kernel
theorem d_G_writeInts_9 : decode b_G_writeInts 9 = .ok (.astore_n 2, 1) := by decide +kernel
theorem d_G_writeInts_10 : decode b_G_writeInts 10 = .ok (.aload_n 0, 1) := by decide +kernel
theorem d_G_writeInts_11 : decode b_G_writeInts 11 = .ok (.getfield 24, 3) := by decide +kernel
theorem d_G_writeInts_14 : decode b_G_writeInts 14 = .ok (.ldc2_w 242, 3) := by decide +kernel
theorem d_G_writeInts_17 : decode b_G_writeInts 17 = .ok (.iconst 1, 1) := by decide +kernel
theorem d_G_writeInts_18 : decode b_G_writeInts 18 = .ok (.invokevirtual 33, 3) := by decide +kernel
theorem d_G_writeInts_21 : decode b_G_writeInts 21 = .ok (.aload_n 0, 1) := by decide +kernel
theorem d_G_writeInts_22 : decode b_G_writeInts 22 = .ok (.getfield 24, 3) := by decide +kernel
theorem d_G_writeInts_25 : decode b_G_writeInts 25 = .ok (.bipush 30, 2) := by decide +kernel
theorem d_G_writeInts_27 : decode b_G_writeInts 27 = .ok (.ldc 244, 2) := by decide +kernel
theorem d_G_writeInts_29 : decode b_G_writeInts 29 = .ok (.ldc2_w 245, 3) := by decide +kernel
theorem d_G_writeInts_32 : decode b_G_writeInts 32 = .ok (.iconst 2, 1) := by decide +kernel
theorem d_G_writeInts_33 : decode b_G_writeInts 33 = .ok (.iconst 0, 1) := by decide +kernel
theorem d_G_writeInts_34 : decode b_G_writeInts 34 = .ok (.invokevirtual 247, 3) := by decide +kernel
theorem d_G_writeInts_37 : decode b_G_writeInts 37 = .ok (.ifCond .eq 10, 3) := by decide +kernel
theorem d_G_writeInts_40 : decode b_G_writeInts 40 = .ok (.aload_n 0, 1) := by decide +kernel
theorem d_G_writeInts_41 : decode b_G_writeInts 41 = .ok (.getfield 24, 3) := by decide +kernel
theorem d_G_writeInts_44 : decode b_G_writeInts 44 = .ok (.invokevirtual 251, 3) := by decide +kernel
theorem d_G_writeInts_47 : decode b_G_writeInts 47 = .ok (.aload_n 0, 1) := by decide +kernel
theorem d_G_writeInts_48 : decode b_G_writeInts 48 = .ok (.getfield 24, 3) := by decide +kernel
theorem d_G_writeInts_51 : decode b_G_writeInts 51 = .ok (.iload_n 1, 1) := by decide +kernel
theorem d_G_writeInts_52 : decode b_G_writeInts 52 = .ok (.invokevirtual 254, 3) := by decide +kernel
theorem d_G_writeInts_55 : decode b_G_writeInts 55 = .ok (.aload_n 0, 1) := by decide +kernel
theorem d_G_writeInts_56 : decode b_G_writeInts 56 = .ok (.getfield 24, 3) := by decide +kernel
theorem d_G_writeInts_59 : decode b_G_writeInts 59 = .ok (.aload_n 2, 1) := by decide +kernel
theorem d_G_writeInts_60 : decode b_G_writeInts 60 = .ok (.arraylength, 1) := by decide +kernel
theorem d_G_writeInts_61 : decode b_G_writeInts 61 = .ok (.i2l, 1) := by decide +kernel
theorem d_G_writeInts_62 : decode b_G_writeInts 62 = .ok (.iconst 4, 1) := by decide +kernel
theorem d_G_writeInts_63 : decode b_G_writeInts 63 = .ok (.invokevirtual 33, 3) := by decide +kernel
theorem d_G_writeInts_66 : decode b_G_writeInts 66 = .ok (.iconst 0, 1) := by decide +kernel
theorem d_G_writeInts_67 : decode b_G_writeInts 67 = .ok (.istore_n 3, 1) := by decide +kernel
theorem d_G_writeInts_68 : decode b_G_writeInts 68 = .ok (.iload_n 3, 1) := by decide +kernel
theorem d_G_writeInts_69 : decode b_G_writeInts 69 = .ok (.aload_n 2, 1) := by decide +kernel
theorem d_G_writeInts_70 : decode b_G_writeInts 70 = .ok (.arraylength, 1) := by decide +kernel
theorem d_G_writeInts_71 : decode b_G_writeInts 71 = .ok (.if_icmp .ge 20, 3) := by decide +kernel
theorem d_G_writeInts_74 : decode b_G_writeInts 74 = .ok (.aload_n 0, 1) := by decide +kernel
theorem d_G_writeInts_75 : decode b_G_writeInts 75 = .ok (.getfield 24, 3) := by decide +kernel
theorem d_G_writeInts_78 : decode b_G_writeInts 78 = .ok (.aload_n 2, 1) := by decide +kernel
theorem d_G_writeInts_79 : decode b_G_writeInts 79 = .ok (.iload_n 3, 1) := by decide +kernel
theorem d_G_writeInts_80 : decode b_G_writeInts 80 = .ok (.laload, 1) := by decide +kernel
theorem d_G_writeInts_81 : decode b_G_writeInts 81 = .ok (.iconst 4, 1) := by decide +kernel
theorem d_G_writeInts_82 : decode b_G_writeInts 82 = .ok (.invokevirtual 33, 3) := by decide +kernel
theorem d_G_writeInts_85 : decode b_G_writeInts 85 = .ok (.iinc 3 1, 3) := by decide +kernel
theorem d_G_writeInts_88 : decode b_G_writeInts 88 = .ok (.goto (-20), 3) := by decide +kernel
theorem d_G_writeInts_91 : decode b_G_writeInts 91 = .ok (.return_, 1) := by decide +kernel
theorem d_O_openDescriptor_0 : decode b_O_openDescriptor 0 = .ok (.aload_n 0, 1) := by decide +kernel
theorem d_O_openDescriptor_1 : decode b_O_openDescriptor 1 = .ok (.iload_n 1, 1) := by decide +kernel
theorem d_O_openDescriptor_2 : decode b_O_openDescriptor 2 = .ok (.invokevirtual 91, 3) := by decide +kernel
theorem d_O_openDescriptor_5 : decode b_O_openDescriptor 5 = .ok (.ifCond .eq 5, 3) := by decide +kernel
theorem d_O_openDescriptor_8 : decode b_O_openDescriptor 8 = .ok (.iconst 0, 1) := by decide +kernel
theorem d_O_openDescriptor_9 : decode b_O_openDescriptor 9 = .ok (.ireturn, 1) := by decide +kernel
theorem d_O_openDescriptor_10 : decode b_O_openDescriptor 10 = .ok (.aload_n 0, 1) := by decide +kernel
theorem d_O_openDescriptor_11 : decode b_O_openDescriptor 11 = .ok (.ldc2_w 95, 3) := by decide +kernel
theorem d_O_openDescriptor_14 : decode b_O_openDescriptor 14 = .ok (.iconst 1, 1) := by decide +kernel
theorem d_O_openDescriptor_15 : decode b_O_openDescriptor 15 = .ok (.invokevirtual 64, 3) := by decide +kernel
theorem d_O_openDescriptor_18 : decode b_O_openDescriptor 18 = .ok (.aload_n 0, 1) := by decide +kernel
theorem d_O_openDescriptor_19 : decode b_O_openDescriptor 19 = .ok (.aload_n 2, 1) := by decide +kernel
theorem d_O_openDescriptor_20 : decode b_O_openDescriptor 20 = .ok (.invokevirtual 87, 3) := by decide +kernel
theorem d_O_openDescriptor_23 : decode b_O_openDescriptor 23 = .ok (.aload_n 0, 1) := by decide +kernel
theorem d_O_openDescriptor_24 : decode b_O_openDescriptor 24 = .ok (.lload_n 3, 1) := by decide +kernel
theorem d_O_openDescriptor_25 : decode b_O_openDescriptor 25 = .ok (.bipush 8, 2) := by decide +kernel
theorem d_O_openDescriptor_27 : decode b_O_openDescriptor 27 = .ok (.invokevirtual 64, 3) := by decide +kernel
theorem d_O_openDescriptor_30 : decode b_O_openDescriptor 30 = .ok (.aload_n 0, 1) := by decide +kernel
theorem d_O_openDescriptor_31 : decode b_O_openDescriptor 31 = .ok (.iload_n 1, 1) := by decide +kernel
theorem d_O_openDescriptor_32 : decode b_O_openDescriptor 32 = .ok (.invokevirtual 83, 3) := by decide +kernel
theorem d_O_openDescriptor_35 : decode b_O_openDescriptor 35 = .ok (.aload_n 0, 1) := by decide +kernel
theorem d_O_openDescriptor_36 : decode b_O_openDescriptor 36 = .ok (.iload 5, 2) := by decide +kernel
theorem d_O_openDescriptor_38 : decode b_O_openDescriptor 38 = .ok (.i2l, 1) := by decide +kernel
theorem d_O_openDescriptor_39 : decode b_O_openDescriptor 39 = .ok (.iconst 1, 1) := by decide +kernel
theorem d_O_openDescriptor_40 : decode b_O_openDescriptor 40 = .ok (.invokevirtual 64, 3) := by decide +kernel
theorem d_O_openDescriptor_43 : decode b_O_openDescriptor 43 = .ok (.aload_n 0, 1) := by decide +kernel
theorem d_O_openDescriptor_44 : decode b_O_openDescriptor 44 = .ok (.iload 6, 2) := by decide +kernel
theorem d_O_openDescriptor_46 : decode b_O_openDescriptor 46 = .ok (.i2l, 1) := by decide +kernel
theorem d_O_openDescriptor_47 : decode b_O_openDescriptor 47 = .ok (.iconst 2, 1) := by decide +kernel
theorem d_O_openDescriptor_48 : decode b_O_openDescriptor 48 = .ok (.invokevirtual 64, 3) := by decide +kernel
theorem d_O_openDescriptor_51 : decode b_O_openDescriptor 51 = .ok (.iconst 1, 1) := by decide +kernel
theorem d_O_openDescriptor_52 : decode b_O_openDescriptor 52 = .ok (.ireturn, 1) := by decide +kernel
theorem d_O_closeTopDescriptor_0 : decode b_O_closeTopDescriptor 0 = .ok (.aload_n 0, 1) := by decide +kernel
theorem d_O_closeTopDescriptor_1 : decode b_O_closeTopDescriptor 1 = .ok (.ldc2_w 97, 3) := by decide +kernel
theorem d_O_closeTopDescriptor_4 : decode b_O_closeTopDescriptor 4 = .ok (.iconst 1, 1) := by decide +kernel
theorem d_O_closeTopDescriptor_5 : decode b_O_closeTopDescriptor 5 = .ok (.invokevirtual 64, 3) := by decide +kernel
theorem d_O_closeTopDescriptor_8 : decode b_O_closeTopDescriptor 8 = .ok (.aload_n 0, 1) := by decide +kernel
theorem d_O_closeTopDescriptor_9 : decode b_O_closeTopDescriptor 9 = .ok (.ldc2_w 99, 3) := by decide +kernel
theorem d_O_closeTopDescriptor_12 : decode b_O_closeTopDescriptor 12 = .ok (.iconst 1, 1) := by decide +kernel
theorem d_O_closeTopDescriptor_13 : decode b_O_closeTopDescriptor 13 = .ok (.invokevirtual 64, 3) := by decide +kernel
theorem d_O_closeTopDescriptor_16 : decode b_O_closeTopDescriptor 16 = .ok (.return_, 1) := by decide +kernel
theorem d_G_writeRefs_0 : decode b_G_writeRefs 0 = .ok (.aload_n 0, 1) := by decide +kernel
theorem d_G_writeRefs_1 : decode b_G_writeRefs 1 = .ok (.getfield 17, 3) := by decide +kernel
theorem d_G_writeRefs_4 : decode b_G_writeRefs 4 = .ok (.iload_n 1, 1) := by decide +kernel
theorem d_G_writeRefs_5 : decode b_G_writeRefs 5 = .ok (.aaload, 1) := by decide +kernel
theorem d_G_writeRefs_6 : decode b_G_writeRefs 6 = .ok (.getfield 120, 3) := by decide +kernel
theorem d_G_writeRefs_9 : decode b_G_writeRefs 9 = .ok (.astore_n 3, 1) := by decide +kernel
theorem d_G_writeRefs_10 : decode b_G_writeRefs 10 = .ok (.aload_n 0, 1) := by decide +kernel
theorem d_G_writeRefs_11 : decode b_G_writeRefs 11 = .ok (.getfield 24, 3) := by decide +kernel
theorem d_G_writeRefs_14 : decode b_G_writeRefs 14 = .ok (.ldc2_w 242, 3) := by decide +kernel
theorem d_G_writeRefs_17 : decode b_G_writeRefs 17 = .ok (.iconst 1, 1) := by decide +kernel
theorem d_G_writeRefs_18 : decode b_G_writeRefs 18 = .ok (.invokevirtual 33, 3) := by decide +kernel
theorem d_G_writeRefs_21 : decode b_G_writeRefs 21 = .ok (.aload_n 0, 1) := by decide +kernel
theorem d_G_writeRefs_22 : decode b_G_writeRefs 22 = .ok (.getfield 24, 3) := by decide +kernel
theorem d_G_writeRefs_25 : decode b_G_writeRefs 25 = .ok (.bipush 31, 2) := by decide +kernel
theorem d_G_writeRefs_27 : decode b_G_writeRefs 27 = .ok (.ldc_w 257, 3) := by decide +kernel
theorem d_G_writeRefs_30 : decode b_G_writeRefs 30 = .ok (.ldc2_w 259, 3) := by decide +kernel
theorem d_G_writeRefs_33 : decode b_G_writeRefs 33 = .ok (.iconst 2, 1) := by decide +kernel
theorem d_G_writeRefs_34 : decode b_G_writeRefs 34 = .ok (.iconst 0, 1) := by decide +kernel
theorem d_G_writeRefs_35 : decode b_G_writeRefs 35 = .ok (.invokevirtual 247, 3) := by decide +kernel
theorem d_G_writeRefs_38 : decode b_G_writeRefs 38 = .ok (.ifCond .eq 10, 3) := by decide +kernel
theorem d_G_writeRefs_41 : decode b_G_writeRefs 41 = .ok (.aload_n 0, 1) := by decide +kernel
theorem d_G_writeRefs_42 : decode b_G_writeRefs 42 = .ok (.getfield 24, 3) := by decide +kernel
theorem d_G_writeRefs_45 : decode b_G_writeRefs 45 = .ok (.invokevirtual 251, 3) := by decide +kernel
theorem d_G_writeRefs_48 : decode b_G_writeRefs 48 = .ok (.aload_n 0, 1) := by decide +kernel
theorem d_G_writeRefs_49 : decode b_G_writeRefs 49 = .ok (.getfield 24, 3) := by decide +kernel
theorem d_G_writeRefs_52 : decode b_G_writeRefs 52 = .ok (.iload_n 1, 1) := by decide +kernel
theorem d_G_writeRefs_53 : decode b_G_writeRefs 53 = .ok (.invokevirtual 254, 3) := by decide +kernel
theorem d_G_writeRefs_56 : decode b_G_writeRefs 56 = .ok (.aload_n 0, 1) := by decide +kernel
theorem d_G_writeRefs_57 : decode b_G_writeRefs 57 = .ok (.getfield 24, 3) := by decide +kernel
theorem d_G_writeRefs_60 : decode b_G_writeRefs 60 = .ok (.aload_n 3, 1) := by decide +kernel
theorem d_G_writeRefs_61 : decode b_G_writeRefs 61 = .ok (.arraylength, 1) := by decide +kernel
theorem d_G_writeRefs_62 : decode b_G_writeRefs 62 = .ok (.i2l, 1) := by decide +kernel
theorem d_G_writeRefs_63 : decode b_G_writeRefs 63 = .ok (.iconst 4, 1) := by decide +kernel
theorem d_G_writeRefs_64 : decode b_G_writeRefs 64 = .ok (.invokevirtual 33, 3) := by decide +kernel
theorem d_G_writeRefs_67 : decode b_G_writeRefs 67 = .ok (.iconst 0, 1) := by decide +kernel
theorem d_G_writeRefs_68 : decode b_G_writeRefs 68 = .ok (.istore 4, 2) := by decide +kernel
theorem d_G_writeRefs_70 : decode b_G_writeRefs 70 = .ok (.iload 4, 2) := by decide +kernel
theorem d_G_writeRefs_72 : decode b_G_writeRefs 72 = .ok (.aload_n 3, 1) := by decide +kernel
theorem d_G_writeRefs_73 : decode b_G_writeRefs 73 = .ok (.arraylength, 1) := by decide +kernel
theorem d_G_writeRefs_74 : decode b_G_writeRefs 74 = .ok (.if_icmp .ge 22, 3) := by decide +kernel
theorem d_G_writeRefs_77 : decode b_G_writeRefs 77 = .ok (.aload_n 0, 1) := by decide +kernel
theorem d_G_writeRefs_78 : decode b_G_writeRefs 78 = .ok (.aload_n 3, 1) := by decide +kernel
theorem d_G_writeRefs_79 : decode b_G_writeRefs 79 = .ok (.iload 4, 2) := by decide +kernel
theorem d_G_writeRefs_81 : decode b_G_writeRefs 81 = .ok (.laload, 1) := by decide +kernel
theorem d_G_writeRefs_82 : decode b_G_writeRefs 82 = .ok (.l2i, 1) := by decide +kernel
theorem d_G_writeRefs_83 : decode b_G_writeRefs 83 = .ok (.iconst 0, 1) := by decide +kernel
theorem d_G_writeRefs_84 : decode b_G_writeRefs 84 = .ok (.iload_n 2, 1) := by decide +kernel
theorem d_G_writeRefs_85 : decode b_G_writeRefs 85 = .ok (.iconst 1, 1) := by decide +kernel
theorem d_G_writeRefs_86 : decode b_G_writeRefs 86 = .ok (.iadd, 1) := by decide +kernel
theorem d_G_writeRefs_87 : decode b_G_writeRefs 87 = .ok (.invokevirtual 148, 3) := by decide +kernel
theorem d_G_writeRefs_90 : decode b_G_writeRefs 90 = .ok (.iinc 4 1, 3) := by decide +kernel
theorem d_G_writeRefs_93 : decode b_G_writeRefs 93 = .ok (.goto (-23), 3) := by decide +kernel
theorem d_G_writeRefs_96 : decode b_G_writeRefs 96 = .ok (.return_, 1) := by decide +kernel
theorem d_G_writeConstant_0 : decode b_G_writeConstant 0 = .ok (.aload_n 0, 1) := by decide +kernel
theorem d_G_writeConstant_1 : decode b_G_writeConstant 1 = .ok (.getfield 17, 3) := by decide +kernel
theorem d_G_writeConstant_4 : decode b_G_writeConstant 4 = .ok (.iload_n 1, 1) := by decide +kernel
theorem d_G_writeConstant_5 : decode b_G_writeConstant 5 = .ok (.aaload, 1) := by decide +kernel
end
section
theorem d_G_writeConstant_6 : decode b_G_writeConstant 6 = .ok (.astore_n 2, 1) := by decide +kernel
theorem d_G_writeConstant_7 : decode b_G_writeConstant 7 = .ok (.aload_n 0, 1) := by decide +kernel
theorem d_G_writeConstant_8 : decode b_G_writeConstant 8 = .ok (.getfield 24, 3) := by decide +kernel
theorem d_G_writeConstant_11 : decode b_G_writeConstant 11 = .ok (.ldc2_w 261, 3) := by decide +kernel
theorem d_G_writeConstant_14 : decode b_G_writeConstant 14 = .ok (.iconst 1, 1) := by decide +kernel
theorem d_G_writeConstant_15 : decode b_G_writeConstant 15 = .ok (.invokevirtual 33, 3) := by decide +kernel
theorem d_G_writeConstant_18 : decode b_G_writeConstant 18 = .ok (.aload_n 0, 1) := by decide +kernel
theorem d_G_writeConstant_19 : decode b_G_writeConstant 19 = .ok (.aload_n 0, 1) := by decide +kernel
theorem d_G_writeConstant_20 : decode b_G_writeConstant 20 = .ok (.getfield 11, 3) := by decide +kernel
theorem d_G_writeConstant_23 : decode b_G_writeConstant 23 = .ok (.aload_n 2, 1) := by decide +kernel
theorem d_G_writeConstant_24 : decode b_G_writeConstant 24 = .ok (.getfield 177, 3) := by decide +kernel
theorem d_G_writeConstant_27 : decode b_G_writeConstant 27 = .ok (.aaload, 1) := by decide +kernel
theorem d_G_writeConstant_28 : decode b_G_writeConstant 28 = .ok (.invokevirtual 263, 3) := by decide +kernel
theorem d_G_writeConstant_31 : decode b_G_writeConstant 31 = .ok (.aload_n 0, 1) := by decide +kernel
theorem d_G_writeConstant_32 : decode b_G_writeConstant 32 = .ok (.getfield 24, 3) := by decide +kernel
theorem d_G_writeConstant_35 : decode b_G_writeConstant 35 = .ok (.iload_n 1, 1) := by decide +kernel
theorem d_G_writeConstant_36 : decode b_G_writeConstant 36 = .ok (.invokevirtual 254, 3) := by decide +kernel
theorem d_G_writeConstant_39 : decode b_G_writeConstant 39 = .ok (.aload_n 0, 1) := by decide +kernel
theorem d_G_writeConstant_40 : decode b_G_writeConstant 40 = .ok (.getfield 24, 3) := by decide +kernel
theorem d_G_writeConstant_43 : decode b_G_writeConstant 43 = .ok (.bipush 12, 2) := by decide +kernel
theorem d_G_writeConstant_45 : decode b_G_writeConstant 45 = .ok (.iload_n 1, 1) := by decide +kernel
theorem d_G_writeConstant_46 : decode b_G_writeConstant 46 = .ok (.iadd, 1) := by decide +kernel
theorem d_G_writeConstant_47 : decode b_G_writeConstant 47 = .ok (.invokevirtual 221, 3) := by decide +kernel
theorem d_G_writeConstant_50 : decode b_G_writeConstant 50 = .ok (.ifCond .ne 18, 3) := by decide +kernel
theorem d_G_writeConstant_53 : decode b_G_writeConstant 53 = .ok (.aload_n 0, 1) := by decide +kernel
theorem d_G_writeConstant_54 : decode b_G_writeConstant 54 = .ok (.getfield 24, 3) := by decide +kernel
theorem d_G_writeConstant_57 : decode b_G_writeConstant 57 = .ok (.bipush 12, 2) := by decide +kernel
theorem d_G_writeConstant_59 : decode b_G_writeConstant 59 = .ok (.iload_n 1, 1) := by decide +kernel
theorem d_G_writeConstant_60 : decode b_G_writeConstant 60 = .ok (.iadd, 1) := by decide +kernel
theorem d_G_writeConstant_61 : decode b_G_writeConstant 61 = .ok (.aload_n 2, 1) := by decide +kernel
theorem d_G_writeConstant_62 : decode b_G_writeConstant 62 = .ok (.getfield 180, 3) := by decide +kernel
theorem d_G_writeConstant_65 : decode b_G_writeConstant 65 = .ok (.invokevirtual 224, 3) := by decide +kernel
theorem d_G_writeConstant_68 : decode b_G_writeConstant 68 = .ok (.return_, 1) := by decide +kernel
theorem d_G_writeDescriptor_0 : decode b_G_writeDescriptor 0 = .ok (.aload_n 1, 1) := by decide +kernel
theorem d_G_writeDescriptor_1 : decode b_G_writeDescriptor 1 = .ok (.getfield 73, 3) := by decide +kernel
theorem d_G_writeDescriptor_4 : decode b_G_writeDescriptor 4 = .ok (.arraylength, 1) := by decide +kernel
theorem d_G_writeDescriptor_5 : decode b_G_writeDescriptor 5 = .ok (.iconst 1, 1) := by decide +kernel
theorem d_G_writeDescriptor_6 : decode b_G_writeDescriptor 6 = .ok (.isub, 1) := by decide +kernel
theorem d_G_writeDescriptor_7 : decode b_G_writeDescriptor 7 = .ok (.istore_n 2, 1) := by decide +kernel
theorem d_G_writeDescriptor_8 : decode b_G_writeDescriptor 8 = .ok (.iload_n 2, 1) := by decide +kernel
theorem d_G_writeDescriptor_9 : decode b_G_writeDescriptor 9 = .ok (.ifCond .lt 210, 3) := by decide +kernel
theorem d_G_writeDescriptor_12 : decode b_G_writeDescriptor 12 = .ok (.aload_n 0, 1) := by decide +kernel
theorem d_G_writeDescriptor_13 : decode b_G_writeDescriptor 13 = .ok (.getfield 11, 3) := by decide +kernel
theorem d_G_writeDescriptor_16 : decode b_G_writeDescriptor 16 = .ok (.aload_n 1, 1) := by decide +kernel
theorem d_G_writeDescriptor_17 : decode b_G_writeDescriptor 17 = .ok (.getfield 73, 3) := by decide +kernel
theorem d_G_writeDescriptor_20 : decode b_G_writeDescriptor 20 = .ok (.iload_n 2, 1) := by decide +kernel
theorem d_G_writeDescriptor_21 : decode b_G_writeDescriptor 21 = .ok (.iaload, 1) := by decide +kernel
theorem d_G_writeDescriptor_22 : decode b_G_writeDescriptor 22 = .ok (.aaload, 1) := by decide +kernel
theorem d_G_writeDescriptor_23 : decode b_G_writeDescriptor 23 = .ok (.astore_n 3, 1) := by decide +kernel
theorem d_G_writeDescriptor_24 : decode b_G_writeDescriptor 24 = .ok (.aload_n 3, 1) := by decide +kernel
theorem d_G_writeDescriptor_25 : decode b_G_writeDescriptor 25 = .ok (.getfield 52, 3) := by decide +kernel
theorem d_G_writeDescriptor_28 : decode b_G_writeDescriptor 28 = .ok (.ifCond .ne 6, 3) := by decide +kernel
theorem d_G_writeDescriptor_31 : decode b_G_writeDescriptor 31 = .ok (.goto 188, 3) := by decide +kernel
theorem d_G_writeDescriptor_34 : decode b_G_writeDescriptor 34 = .ok (.aload_n 0, 1) := by decide +kernel
theorem d_G_writeDescriptor_35 : decode b_G_writeDescriptor 35 = .ok (.getfield 24, 3) := by decide +kernel
theorem d_G_writeDescriptor_38 : decode b_G_writeDescriptor 38 = .ok (.bipush 24, 2) := by decide +kernel
theorem d_G_writeDescriptor_40 : decode b_G_writeDescriptor 40 = .ok (.aload_n 3, 1) := by decide +kernel
theorem d_G_writeDescriptor_41 : decode b_G_writeDescriptor 41 = .ok (.getfield 293, 3) := by decide +kernel
theorem d_G_writeDescriptor_44 : decode b_G_writeDescriptor 44 = .ok (.iadd, 1) := by decide +kernel
theorem d_G_writeDescriptor_45 : decode b_G_writeDescriptor 45 = .ok (.aload_n 3, 1) := by decide +kernel
theorem d_G_writeDescriptor_46 : decode b_G_writeDescriptor 46 = .ok (.getfield 267, 3) := by decide +kernel
theorem d_G_writeDescriptor_49 : decode b_G_writeDescriptor 49 = .ok (.aload_n 3, 1) := by decide +kernel
theorem d_G_writeDescriptor_50 : decode b_G_writeDescriptor 50 = .ok (.getfield 298, 3) := by decide +kernel
theorem d_G_writeDescriptor_53 : decode b_G_writeDescriptor 53 = .ok (.aload_n 3, 1) := by decide +kernel
theorem d_G_writeDescriptor_54 : decode b_G_writeDescriptor 54 = .ok (.invokevirtual 302, 3) := by decide +kernel
theorem d_G_writeDescriptor_57 : decode b_G_writeDescriptor 57 = .ok (.aload_n 3, 1) := by decide +kernel
theorem d_G_writeDescriptor_58 : decode b_G_writeDescriptor 58 = .ok (.getfield 280, 3) := by decide +kernel
theorem d_G_writeDescriptor_61 : decode b_G_writeDescriptor 61 = .ok (.invokevirtual 247, 3) := by decide +kernel
theorem d_G_writeDescriptor_64 : decode b_G_writeDescriptor 64 = .ok (.ifCond .ne 4, 3) := by decide +kernel
theorem d_G_writeDescriptor_67 : decode b_G_writeDescriptor 67 = .ok (.return_, 1) := by decide +kernel
theorem d_G_writeDescriptor_68 : decode b_G_writeDescriptor 68 = .ok (.iconst 0, 1) := by decide +kernel
theorem d_G_writeDescriptor_69 : decode b_G_writeDescriptor 69 = .ok (.istore 4, 2) := by decide +kernel
theorem d_G_writeDescriptor_71 : decode b_G_writeDescriptor 71 = .ok (.iload 4, 2) := by decide +kernel
theorem d_G_writeDescriptor_73 : decode b_G_writeDescriptor 73 = .ok (.aload_n 3, 1) := by decide +kernel
theorem d_G_writeDescriptor_74 : decode b_G_writeDescriptor 74 = .ok (.getfield 280, 3) := by decide +kernel
theorem d_G_writeDescriptor_77 : decode b_G_writeDescriptor 77 = .ok (.if_icmp .ge 125, 3) := by decide +kernel
theorem d_G_writeDescriptor_80 : decode b_G_writeDescriptor 80 = .ok (.aload_n 3, 1) := by decide +kernel
theorem d_G_writeDescriptor_81 : decode b_G_writeDescriptor 81 = .ok (.getfield 190, 3) := by decide +kernel
theorem d_G_writeDescriptor_84 : decode b_G_writeDescriptor 84 = .ok (.aload_n 3, 1) := by decide +kernel
theorem d_G_writeDescriptor_85 : decode b_G_writeDescriptor 85 = .ok (.getfield 283, 3) := by decide +kernel
theorem d_G_writeDescriptor_88 : decode b_G_writeDescriptor 88 = .ok (.iload 4, 2) := by decide +kernel
theorem d_G_writeDescriptor_90 : decode b_G_writeDescriptor 90 = .ok (.iaload, 1) := by decide +kernel
theorem d_G_writeDescriptor_91 : decode b_G_writeDescriptor 91 = .ok (.iaload, 1) := by decide +kernel
theorem d_G_writeDescriptor_92 : decode b_G_writeDescriptor 92 = .ok (.istore 5, 2) := by decide +kernel
theorem d_G_writeDescriptor_94 : decode b_G_writeDescriptor 94 = .ok (.aload_n 0, 1) := by decide +kernel
theorem d_G_writeDescriptor_95 : decode b_G_writeDescriptor 95 = .ok (.getfield 24, 3) := by decide +kernel
theorem d_G_writeDescriptor_98 : decode b_G_writeDescriptor 98 = .ok (.ldc_w 305, 3) := by decide +kernel
theorem d_G_writeDescriptor_101 : decode b_G_writeDescriptor 101 = .ok (.iload 5, 2) := by decide +kernel
theorem d_G_writeDescriptor_103 : decode b_G_writeDescriptor 103 = .ok (.invokevirtual 307, 3) := by decide +kernel
theorem d_G_writeDescriptor_106 : decode b_G_writeDescriptor 106 = .ok (.i2l, 1) := by decide +kernel
theorem d_G_writeDescriptor_107 : decode b_G_writeDescriptor 107 = .ok (.iconst 1, 1) := by decide +kernel
theorem d_G_writeDescriptor_108 : decode b_G_writeDescriptor 108 = .ok (.invokevirtual 33, 3) := by decide +kernel
theorem d_G_writeDescriptor_111 : decode b_G_writeDescriptor 111 = .ok (.aload_n 0, 1) := by decide +kernel
theorem d_G_writeDescriptor_112 : decode b_G_writeDescriptor 112 = .ok (.getfield 24, 3) := by decide +kernel
theorem d_G_writeDescriptor_115 : decode b_G_writeDescriptor 115 = .ok (.ldc 102, 2) := by decide +kernel
theorem d_G_writeDescriptor_117 : decode b_G_writeDescriptor 117 = .ok (.aload_n 3, 1) := by decide +kernel
theorem d_G_writeDescriptor_118 : decode b_G_writeDescriptor 118 = .ok (.getfield 311, 3) := by decide +kernel
theorem d_G_writeDescriptor_121 : decode b_G_writeDescriptor 121 = .ok (.aload_n 3, 1) := by decide +kernel
theorem d_G_writeDescriptor_122 : decode b_G_writeDescriptor 122 = .ok (.getfield 283, 3) := by decide +kernel
theorem d_G_writeDescriptor_125 : decode b_G_writeDescriptor 125 = .ok (.iload 4, 2) := by decide +kernel
theorem d_G_writeDescriptor_127 : decode b_G_writeDescriptor 127 = .ok (.iaload, 1) := by decide +kernel
theorem d_G_writeDescriptor_128 : decode b_G_writeDescriptor 128 = .ok (.iaload, 1) := by decide +kernel
theorem d_G_writeDescriptor_129 : decode b_G_writeDescriptor 129 = .ok (.invokevirtual 307, 3) := by decide +kernel
theorem d_G_writeDescriptor_132 : decode b_G_writeDescriptor 132 = .ok (.invokevirtual 314, 3) := by decide +kernel
theorem d_G_writeDescriptor_135 : decode b_G_writeDescriptor 135 = .ok (.iload 5, 2) := by decide +kernel
theorem d_G_writeDescriptor_137 : decode b_G_writeDescriptor 137 = .ok (.bipush 6, 2) := by decide +kernel
theorem d_G_writeDescriptor_139 : decode b_G_writeDescriptor 139 = .ok (.if_icmp .ne 26, 3) := by decide +kernel
theorem d_G_writeDescriptor_142 : decode b_G_writeDescriptor 142 = .ok (.aload_n 0, 1) := by decide +kernel
theorem d_G_writeDescriptor_143 : decode b_G_writeDescriptor 143 = .ok (.getfield 24, 3) := by decide +kernel
theorem d_G_writeDescriptor_146 : decode b_G_writeDescriptor 146 = .ok (.bipush 33, 2) := by decide +kernel
theorem d_G_writeDescriptor_148 : decode b_G_writeDescriptor 148 = .ok (.invokevirtual 221, 3) := by decide +kernel
theorem d_G_writeDescriptor_151 : decode b_G_writeDescriptor 151 = .ok (.ifCond .ne 14, 3) := by decide +kernel
theorem d_G_writeDescriptor_154 : decode b_G_writeDescriptor 154 = .ok (.aload_n 0, 1) := by decide +kernel
theorem d_G_writeDescriptor_155 : decode b_G_writeDescriptor 155 = .ok (.getfield 24, 3) := by decide +kernel
theorem d_G_writeDescriptor_158 : decode b_G_writeDescriptor 158 = .ok (.bipush 33, 2) := by decide +kernel
theorem d_G_writeDescriptor_160 : decode b_G_writeDescriptor 160 = .ok (.ldc 244, 2) := by decide +kernel
theorem d_G_writeDescriptor_162 : decode b_G_writeDescriptor 162 = .ok (.invokevirtual 224, 3) := by decide +kernel
theorem d_G_writeDescriptor_165 : decode b_G_writeDescriptor 165 = .ok (.iload 5, 2) := by decide +kernel
theorem d_G_writeDescriptor_167 : decode b_G_writeDescriptor 167 = .ok (.bipush 7, 2) := by decide +kernel
theorem d_G_writeDescriptor_169 : decode b_G_writeDescriptor 169 = .ok (.if_icmp .ne 27, 3) := by decide +kernel
theorem d_G_writeDescriptor_172 : decode b_G_writeDescriptor 172 = .ok (.aload_n 0, 1) := by decide +kernel
theorem d_G_writeDescriptor_173 : decode b_G_writeDescriptor 173 = .ok (.getfield 24, 3) := by decide +kernel
theorem d_G_writeDescriptor_176 : decode b_G_writeDescriptor 176 = .ok (.bipush 34, 2) := by decide +kernel
theorem d_G_writeDescriptor_178 : decode b_G_writeDescriptor 178 = .ok (.invokevirtual 221, 3) := by decide +kernel
theorem d_G_writeDescriptor_181 : decode b_G_writeDescriptor 181 = .ok (.ifCond .ne 15, 3) := by decide +kernel
theorem d_G_writeDescriptor_184 : decode b_G_writeDescriptor 184 = .ok (.aload_n 0, 1) := by decide +kernel
theorem d_G_writeDescriptor_185 : decode b_G_writeDescriptor 185 = .ok (.getfield 24, 3) := by decide +kernel
theorem d_G_writeDescriptor_188 : decode b_G_writeDescriptor 188 = .ok (.bipush 34, 2) := by decide +kernel
theorem d_G_writeDescriptor_190 : decode b_G_writeDescriptor 190 = .ok (.ldc_w 318, 3) := by decide +kernel
theorem d_G_writeDescriptor_193 : decode b_G_writeDescriptor 193 = .ok (.invokevirtual 224, 3) := by decide +kernel
theorem d_G_writeDescriptor_196 : decode b_G_writeDescriptor 196 = .ok (.iinc 4 1, 3) := by decide +kernel
theorem d_G_writeDescriptor_199 : decode b_G_writeDescriptor 199 = .ok (.goto (-128), 3) := by decide +kernel
theorem d_G_writeDescriptor_202 : decode b_G_writeDescriptor 202 = .ok (.aload_n 0, 1) := by decide +kernel
theorem d_G_writeDescriptor_203 : decode b_G_writeDescriptor 203 = .ok (.getfield 24, 3) := by decide +kernel
theorem d_G_writeDescriptor_206 : decode b_G_writeDescriptor 206 = .ok (.ldc2_w 296, 3) := by decide +kernel
theorem d_G_writeDescriptor_209 : decode b_G_writeDescriptor 209 = .ok (.iconst 1, 1) := by decide +kernel
theorem d_G_writeDescriptor_210 : decode b_G_writeDescriptor 210 = .ok (.invokevirtual 33, 3) := by decide +kernel
theorem d_G_writeDescriptor_213 : decode b_G_writeDescriptor 213 = .ok (.iinc 2 (-1), 3) := by decide +kernel
theorem d_G_writeDescriptor_216 : decode b_G_writeDescriptor 216 = .ok (.goto (-208), 3) := by decide +kernel
theorem d_G_writeDescriptor_219 : decode b_G_writeDescriptor 219 = .ok (.aload_n 1, 1) := by decide +kernel
theorem d_G_writeDescriptor_220 : decode b_G_writeDescriptor 220 = .ok (.getfield 52, 3) := by decide +kernel
theorem d_G_writeDescriptor_223 : decode b_G_writeDescriptor 223 = .ok (.iconst 3, 1) := by decide +kernel
theorem d_G_writeDescriptor_224 : decode b_G_writeDescriptor 224 = .ok (.if_icmp .eq 17, 3) := by decide +kernel
theorem d_G_writeDescriptor_227 : decode b_G_writeDescriptor 227 = .ok (.aload_n 0, 1) := by decide +kernel
theorem d_G_writeDescriptor_228 : decode b_G_writeDescriptor 228 = .ok (.getfield 24, 3) := by decide +kernel
theorem d_G_writeDescriptor_231 : decode b_G_writeDescriptor 231 = .ok (.ldc2_w 215, 3) := by decide +kernel
theorem d_G_writeDescriptor_234 : decode b_G_writeDescriptor 234 = .ok (.iconst 1, 1) := by decide +kernel
theorem d_G_writeDescriptor_235 : decode b_G_writeDescriptor 235 = .ok (.invokevirtual 33, 3) := by decide +kernel
theorem d_G_writeDescriptor_238 : decode b_G_writeDescriptor 238 = .ok (.goto 29, 3) := by decide +kernel
theorem d_G_writeDescriptor_241 : decode b_G_writeDescriptor 241 = .ok (.aload_n 0, 1) := by decide +kernel
theorem d_G_writeDescriptor_242 : decode b_G_writeDescriptor 242 = .ok (.getfield 24, 3) := by decide +kernel
theorem d_G_writeDescriptor_245 : decode b_G_writeDescriptor 245 = .ok (.bipush 32, 2) := by decide +kernel
theorem d_G_writeDescriptor_247 : decode b_G_writeDescriptor 247 = .ok (.ldc_w 320, 3) := by decide +kernel
theorem d_G_writeDescriptor_250 : decode b_G_writeDescriptor 250 = .ok (.lconst 0, 1) := by decide +kernel
theorem d_G_writeDescriptor_251 : decode b_G_writeDescriptor 251 = .ok (.bipush 18, 2) := by decide +kernel
theorem d_G_writeDescriptor_253 : decode b_G_writeDescriptor 253 = .ok (.iconst 0, 1) := by decide +kernel
theorem d_G_writeDescriptor_254 : decode b_G_writeDescriptor 254 = .ok (.invokevirtual 247, 3) := by decide +kernel
theorem d_G_writeDescriptor_257 : decode b_G_writeDescriptor 257 = .ok (.ifCond .eq 10, 3) := by decide +kernel
theorem d_G_writeDescriptor_260 : decode b_G_writeDescriptor 260 = .ok (.aload_n 0, 1) := by decide +kernel
theorem d_G_writeDescriptor_261 : decode b_G_writeDescriptor 261 = .ok (.getfield 24, 3) := by decide +kernel
theorem d_G_writeDescriptor_264 : decode b_G_writeDescriptor 264 = .ok (.invokevirtual 251, 3) := by decide +kernel
theorem d_G_writeDescriptor_267 : decode b_G_writeDescriptor 267 = .ok (.return_, 1) := by decide +kernel
theorem d_D_flags_0 : decode b_D_flags 0 = .ok (.aload_n 0, 1) := by decide +kernel
theorem d_D_flags_1 : decode b_D_flags 1 = .ok (.getfield 25, 3) := by decide +kernel
theorem d_D_flags_4 : decode b_D_flags 4 = .ok (.iconst 3, 1) := by decide +kernel
theorem d_D_flags_5 : decode b_D_flags 5 = .ok (.if_icmp .ne 6, 3) := by decide +kernel
theorem d_D_flags_8 : decode b_D_flags 8 = .ok (.bipush 18, 2) := by decide +kernel
theorem d_D_flags_10 : decode b_D_flags 10 = .ok (.ireturn, 1) := by decide +kernel
theorem d_D_flags_11 : decode b_D_flags 11 = .ok (.aload_n 0, 1) := by decide +kernel
theorem d_D_flags_12 : decode b_D_flags 12 = .ok (.getfield 25, 3) := by decide +kernel
theorem d_D_flags_15 : decode b_D_flags 15 = .ok (.iconst 2, 1) := by decide +kernel
theorem d_D_flags_16 : decode b_D_flags 16 = .ok (.if_icmp .ne 7, 3) := by decide +kernel
theorem d_D_flags_19 : decode b_D_flags 19 = .ok (.iconst 3, 1) := by decide +kernel
theorem d_D_flags_20 : decode b_D_flags 20 = .ok (.goto 4, 3) := by decide +kernel
theorem d_D_flags_23 : decode b_D_flags 23 = .ok (.iconst 2, 1) := by decide +kernel
theorem d_D_flags_24 : decode b_D_flags 24 = .ok (.ireturn, 1) := by decide +kernel
theorem d_O_putSign_0 : decode b_O_putSign 0 = .ok (.aload_n 0, 1) := by decide +kernel
theorem d_O_putSign_1 : decode b_O_putSign 1 = .ok (.lconst 1, 1) := by decide +kernel
theorem d_O_putSign_2 : decode b_O_putSign 2 = .ok (.iconst 2, 1) := by decide +kernel
theorem d_O_putSign_3 : decode b_O_putSign 3 = .ok (.invokevirtual 64, 3) := by decide +kernel
theorem d_O_putSign_6 : decode b_O_putSign 6 = .ok (.aload_n 0, 1) := by decide +kernel
theorem d_O_putSign_7 : decode b_O_putSign 7 = .ok (.iload_n 1, 1) := by decide +kernel
theorem d_O_putSign_8 : decode b_O_putSign 8 = .ok (.i2l, 1) := by decide +kernel
theorem d_O_putSign_9 : decode b_O_putSign 9 = .ok (.iconst 1, 1) := by decide +kernel
theorem d_O_putSign_10 : decode b_O_putSign 10 = .ok (.invokevirtual 64, 3) := by decide +kernel
theorem d_O_putSign_13 : decode b_O_putSign 13 = .ok (.return_, 1) := by decide +kernel
theorem d_G_writeInstance_0 : decode b_G_writeInstance 0 = .ok (.aload_n 0, 1) := by decide +kernel
theorem d_G_writeInstance_1 : decode b_G_writeInstance 1 = .ok (.getfield 17, 3) := by decide +kernel
theorem d_G_writeInstance_4 : decode b_G_writeInstance 4 = .ok (.iload_n 1, 1) := by decide +kernel
theorem d_G_writeInstance_5 : decode b_G_writeInstance 5 = .ok (.aaload, 1) := by decide +kernel
theorem d_G_writeInstance_6 : decode b_G_writeInstance 6 = .ok (.astore_n 3, 1) := by decide +kernel
theorem d_G_writeInstance_7 : decode b_G_writeInstance 7 = .ok (.aload_n 0, 1) := by decide +kernel
theorem d_G_writeInstance_8 : decode b_G_writeInstance 8 = .ok (.getfield 11, 3) := by decide +kernel
theorem d_G_writeInstance_11 : decode b_G_writeInstance 11 = .ok (.aload_n 3, 1) := by decide +kernel
theorem d_G_writeInstance_12 : decode b_G_writeInstance 12 = .ok (.getfield 177, 3) := by decide +kernel
theorem d_G_writeInstance_15 : decode b_G_writeInstance 15 = .ok (.aaload, 1) := by decide +kernel
theorem d_G_writeInstance_16 : decode b_G_writeInstance 16 = .ok (.astore 4, 2) := by decide +kernel
theorem d_G_writeInstance_18 : decode b_G_writeInstance 18 = .ok (.aload 4, 2) := by decide +kernel
theorem d_G_writeInstance_20 : decode b_G_writeInstance 20 = .ok (.getfield 52, 3) := by decide +kernel
theorem d_G_writeInstance_23 : decode b_G_writeInstance 23 = .ok (.ifCond .ne 16, 3) := by decide +kernel
theorem d_G_writeInstance_26 : decode b_G_writeInstance 26 = .ok (.aload_n 0, 1) := by decide +kernel
theorem d_G_writeInstance_27 : decode b_G_writeInstance 27 = .ok (.getfield 24, 3) := by decide +kernel
theorem d_G_writeInstance_30 : decode b_G_writeInstance 30 = .ok (.aload 4, 2) := by decide +kernel
theorem d_G_writeInstance_32 : decode b_G_writeInstance 32 = .ok (.getfield 267, 3) := by decide +kernel
theorem d_G_writeInstance_35 : decode b_G_writeInstance 35 = .ok (.invokevirtual 270, 3) := by decide +kernel
theorem d_G_writeInstance_38 : decode b_G_writeInstance 38 = .ok (.return_, 1) := by decide +kernel
theorem d_G_writeInstance_39 : decode b_G_writeInstance 39 = .ok (.aload_n 0, 1) := by decide +kernel
theorem d_G_writeInstance_40 : decode b_G_writeInstance 40 = .ok (.getfield 24, 3) := by decide +kernel
theorem d_G_writeInstance_43 : decode b_G_writeInstance 43 = .ok (.ldc2_w 274, 3) := by decide +kernel
theorem d_G_writeInstance_46 : decode b_G_writeInstance 46 = .ok (.iconst 1, 1) := by decide +kernel
theorem d_G_writeInstance_47 : decode b_G_writeInstance 47 = .ok (.invokevirtual 33, 3) := by decide +kernel
theorem d_G_writeInstance_50 : decode b_G_writeInstance 50 = .ok (.aload_n 0, 1) := by decide +kernel
theorem d_G_writeInstance_51 : decode b_G_writeInstance 51 = .ok (.aload 4, 2) := by decide +kernel
theorem d_G_writeInstance_53 : decode b_G_writeInstance 53 = .ok (.invokevirtual 263, 3) := by decide +kernel
theorem d_G_writeInstance_56 : decode b_G_writeInstance 56 = .ok (.aload_n 0, 1) := by decide +kernel
theorem d_G_writeInstance_57 : decode b_G_writeInstance 57 = .ok (.getfield 24, 3) := by decide +kernel
theorem d_G_writeInstance_60 : decode b_G_writeInstance 60 = .ok (.iload_n 1, 1) := by decide +kernel
theorem d_G_writeInstance_61 : decode b_G_writeInstance 61 = .ok (.invokevirtual 254, 3) := by decide +kernel
theorem d_G_writeInstance_64 : decode b_G_writeInstance 64 = .ok (.iconst 0, 1) := by decide +kernel
theorem d_G_writeInstance_65 : decode b_G_writeInstance 65 = .ok (.istore 5, 2) := by decide +kernel
theorem d_G_writeInstance_67 : decode b_G_writeInstance 67 = .ok (.iconst 0, 1) := by decide +kernel
theorem d_G_writeInstance_68 : decode b_G_writeInstance 68 = .ok (.istore 6, 2) := by decide +kernel
theorem d_G_writeInstance_70 : decode b_G_writeInstance 70 = .ok (.iload 6, 2) := by decide +kernel
theorem d_G_writeInstance_72 : decode b_G_writeInstance 72 = .ok (.aload 4, 2) := by decide +kernel
theorem d_G_writeInstance_74 : decode b_G_writeInstance 74 = .ok (.getfield 73, 3) := by decide +kernel
theorem d_G_writeInstance_77 : decode b_G_writeInstance 77 = .ok (.arraylength, 1) := by decide +kernel
theorem d_G_writeInstance_78 : decode b_G_writeInstance 78 = .ok (.if_icmp .ge 52, 3) := by decide +kernel
theorem d_G_writeInstance_81 : decode b_G_writeInstance 81 = .ok (.aload_n 0, 1) := by decide +kernel
theorem d_G_writeInstance_82 : decode b_G_writeInstance 82 = .ok (.getfield 11, 3) := by decide +kernel
theorem d_G_writeInstance_85 : decode b_G_writeInstance 85 = .ok (.aload 4, 2) := by decide +kernel
theorem d_G_writeInstance_87 : decode b_G_writeInstance 87 = .ok (.getfield 73, 3) := by decide +kernel
theorem d_G_writeInstance_90 : decode b_G_writeInstance 90 = .ok (.iload 6, 2) := by decide +kernel
theorem d_G_writeInstance_92 : decode b_G_writeInstance 92 = .ok (.iaload, 1) := by decide +kernel
theorem d_G_writeInstance_93 : decode b_G_writeInstance 93 = .ok (.aaload, 1) := by decide +kernel
theorem d_G_writeInstance_94 : decode b_G_writeInstance 94 = .ok (.astore 7, 2) := by decide +kernel
theorem d_G_writeInstance_96 : decode b_G_writeInstance 96 = .ok (.aload 7, 2) := by decide +kernel
theorem d_G_writeInstance_98 : decode b_G_writeInstance 98 = .ok (.getfield 52, 3) := by decide +kernel
theorem d_G_writeInstance_101 : decode b_G_writeInstance 101 = .ok (.ifCond .eq 13, 3) := by decide +kernel
theorem d_G_writeInstance_104 : decode b_G_writeInstance 104 = .ok (.aload_n 0, 1) := by decide +kernel
theorem d_G_writeInstance_105 : decode b_G_writeInstance 105 = .ok (.aload_n 3, 1) := by decide +kernel
theorem d_G_writeInstance_106 : decode b_G_writeInstance 106 = .ok (.aload 7, 2) := by decide +kernel
theorem d_G_writeInstance_108 : decode b_G_writeInstance 108 = .ok (.iload 5, 2) := by decide +kernel
theorem d_G_writeInstance_110 : decode b_G_writeInstance 110 = .ok (.iload_n 2, 1) := by decide +kernel
theorem d_G_writeInstance_111 : decode b_G_writeInstance 111 = .ok (.invokevirtual 276, 3) := by decide +kernel
theorem d_G_writeInstance_114 : decode b_G_writeInstance 114 = .ok (.iload 5, 2) := by decide +kernel
theorem d_G_writeInstance_116 : decode b_G_writeInstance 116 = .ok (.aload 7, 2) := by decide +kernel
theorem d_G_writeInstance_118 : decode b_G_writeInstance 118 = .ok (.getfield 60, 3) := by decide +kernel
theorem d_G_writeInstance_121 : decode b_G_writeInstance 121 = .ok (.iadd, 1) := by decide +kernel
theorem d_G_writeInstance_122 : decode b_G_writeInstance 122 = .ok (.istore 5, 2) := by decide +kernel
theorem d_G_writeInstance_124 : decode b_G_writeInstance 124 = .ok (.iinc 6 1, 3) := by decide +kernel
theorem d_G_writeInstance_127 : decode b_G_writeInstance 127 = .ok (.goto (-57), 3) := by decide +kernel
theorem d_G_writeInstance_130 : decode b_G_writeInstance 130 = .ok (.return_, 1) := by decide +kernel
theorem d_O_abort_0 : decode b_O_abort 0 = .ok (.aload_n 0, 1) := by decide +kernel
theorem d_O_abort_1 : decode b_O_abort 1 = .ok (.ldc2_w 101, 3) := by decide +kernel
theorem d_O_abort_4 : decode b_O_abort 4 = .ok (.iconst 1, 1) := by decide +kernel
theorem d_O_abort_5 : decode b_O_abort 5 = .ok (.invokevirtual 64, 3) := by decide +kernel
theorem d_O_abort_8 : decode b_O_abort 8 = .ok (.aload_n 0, 1) := by decide +kernel
theorem d_O_abort_9 : decode b_O_abort 9 = .ok (.ldc2_w 103, 3) := by decide +kernel
theorem d_O_abort_12 : decode b_O_abort 12 = .ok (.iconst 1, 1) := by decide +kernel
theorem d_O_abort_13 : decode b_O_abort 13 = .ok (.invokevirtual 64, 3) := by decide +kernel
theorem d_O_abort_16 : decode b_O_abort 16 = .ok (.aload_n 0, 1) := by decide +kernel
theorem d_O_abort_17 : decode b_O_abort 17 = .ok (.ldc2_w 81, 3) := by decide +kernel
theorem d_O_abort_20 : decode b_O_abort 20 = .ok (.iconst 1, 1) := by decide +kernel
theorem d_O_abort_21 : decode b_O_abort 21 = .ok (.invokevirtual 64, 3) := by decide +kernel
theorem d_O_abort_24 : decode b_O_abort 24 = .ok (.aload_n 0, 1) := by decide +kernel
theorem d_O_abort_25 : decode b_O_abort 25 = .ok (.aload_n 1, 1) := by decide +kernel
theorem d_O_abort_26 : decode b_O_abort 26 = .ok (.invokevirtual 87, 3) := by decide +kernel
theorem d_O_abort_29 : decode b_O_abort 29 = .ok (.aload_n 0, 1) := by decide +kernel
theorem d_O_abort_30 : decode b_O_abort 30 = .ok (.ldc2_w 103, 3) := by decide +kernel
theorem d_O_abort_33 : decode b_O_abort 33 = .ok (.iconst 1, 1) := by decide +kernel
theorem d_O_abort_34 : decode b_O_abort 34 = .ok (.invokevirtual 64, 3) := by decide +kernel
theorem d_O_abort_37 : decode b_O_abort 37 = .ok (.aload_n 0, 1) := by decide +kernel
theorem d_O_abort_38 : decode b_O_abort 38 = .ok (.getfield 22, 3) := by decide +kernel
theorem d_O_abort_41 : decode b_O_abort 41 = .ok (.ifCond .ne 9, 3) := by decide +kernel
theorem d_O_abort_44 : decode b_O_abort 44 = .ok (.aload_n 0, 1) := by decide +kernel
theorem d_O_abort_45 : decode b_O_abort 45 = .ok (.bipush (-3), 2) := by decide +kernel
theorem d_O_abort_47 : decode b_O_abort 47 = .ok (.putfield 22, 3) := by decide +kernel
theorem d_O_abort_50 : decode b_O_abort 50 = .ok (.return_, 1) := by decide +kernel
theorem d_G_writeParts_0 : decode b_G_writeParts 0 = .ok (.iconst 0, 1) := by decide +kernel
theorem d_G_writeParts_1 : decode b_G_writeParts 1 = .ok (.istore 5, 2) := by decide +kernel
theorem d_G_writeParts_3 : decode b_G_writeParts 3 = .ok (.iload 5, 2) := by decide +kernel
theorem d_G_writeParts_5 : decode b_G_writeParts 5 = .ok (.aload_n 2, 1) := by decide +kernel
theorem d_G_writeParts_6 : decode b_G_writeParts 6 = .ok (.getfield 280, 3) := by decide +kernel
theorem d_G_writeParts_9 : decode b_G_writeParts 9 = .ok (.if_icmp .ge 88, 3) := by decide +kernel
theorem d_G_writeParts_12 : decode b_G_writeParts 12 = .ok (.aload_n 2, 1) := by decide +kernel
theorem d_G_writeParts_13 : decode b_G_writeParts 13 = .ok (.getfield 283, 3) := by decide +kernel
theorem d_G_writeParts_16 : decode b_G_writeParts 16 = .ok (.iload 5, 2) := by decide +kernel
theorem d_G_writeParts_18 : decode b_G_writeParts 18 = .ok (.iaload, 1) := by decide +kernel
theorem d_G_writeParts_19 : decode b_G_writeParts 19 = .ok (.istore 6, 2) := by decide +kernel
theorem d_G_writeParts_21 : decode b_G_writeParts 21 = .ok (.aload_n 2, 1) := by decide +kernel
theorem d_G_writeParts_22 : decode b_G_writeParts 22 = .ok (.getfield 190, 3) := by decide +kernel
theorem d_G_writeParts_25 : decode b_G_writeParts 25 = .ok (.iload 6, 2) := by decide +kernel
theorem d_G_writeParts_27 : decode b_G_writeParts 27 = .ok (.iaload, 1) := by decide +kernel
theorem d_G_writeParts_28 : decode b_G_writeParts 28 = .ok (.istore 7, 2) := by decide +kernel
theorem d_G_writeParts_30 : decode b_G_writeParts 30 = .ok (.aload_n 1, 1) := by decide +kernel
theorem d_G_writeParts_31 : decode b_G_writeParts 31 = .ok (.getfield 120, 3) := by decide +kernel
theorem d_G_writeParts_34 : decode b_G_writeParts 34 = .ok (.iload_n 3, 1) := by decide +kernel
theorem d_G_writeParts_35 : decode b_G_writeParts 35 = .ok (.iload 6, 2) := by decide +kernel
theorem d_G_writeParts_37 : decode b_G_writeParts 37 = .ok (.iadd, 1) := by decide +kernel
theorem d_G_writeParts_38 : decode b_G_writeParts 38 = .ok (.laload, 1) := by decide +kernel
theorem d_G_writeParts_39 : decode b_G_writeParts 39 = .ok (.lstore 8, 2) := by decide +kernel
theorem d_G_writeParts_41 : decode b_G_writeParts 41 = .ok (.iload 7, 2) := by decide +kernel
theorem d_G_writeParts_43 : decode b_G_writeParts 43 = .ok (.bipush 6, 2) := by decide +kernel
theorem d_G_writeParts_45 : decode b_G_writeParts 45 = .ok (.if_icmp .lt 18, 3) := by decide +kernel
theorem d_G_writeParts_48 : decode b_G_writeParts 48 = .ok (.aload_n 0, 1) := by decide +kernel
theorem d_G_writeParts_49 : decode b_G_writeParts 49 = .ok (.lload 8, 2) := by decide +kernel
theorem d_G_writeParts_51 : decode b_G_writeParts 51 = .ok (.l2i, 1) := by decide +kernel
theorem d_G_writeParts_52 : decode b_G_writeParts 52 = .ok (.iconst 0, 1) := by decide +kernel
theorem d_G_writeParts_53 : decode b_G_writeParts 53 = .ok (.iload 4, 2) := by decide +kernel
theorem d_G_writeParts_55 : decode b_G_writeParts 55 = .ok (.iconst 1, 1) := by decide +kernel
theorem d_G_writeParts_56 : decode b_G_writeParts 56 = .ok (.iadd, 1) := by decide +kernel
theorem d_G_writeParts_57 : decode b_G_writeParts 57 = .ok (.invokevirtual 148, 3) := by decide +kernel
theorem d_G_writeParts_60 : decode b_G_writeParts 60 = .ok (.goto 31, 3) := by decide +kernel
theorem d_G_writeParts_63 : decode b_G_writeParts 63 = .ok (.aload_n 0, 1) := by decide +kernel
theorem d_G_writeParts_64 : decode b_G_writeParts 64 = .ok (.getfield 24, 3) := by decide +kernel
theorem d_G_writeParts_67 : decode b_G_writeParts 67 = .ok (.iload 7, 2) := by decide +kernel
theorem d_G_writeParts_69 : decode b_G_writeParts 69 = .ok (.iconst 5, 1) := by decide +kernel
theorem d_G_writeParts_70 : decode b_G_writeParts 70 = .ok (.if_icmp .ne 10, 3) := by decide +kernel
theorem d_G_writeParts_73 : decode b_G_writeParts 73 = .ok (.lload 8, 2) := by decide +kernel
theorem d_G_writeParts_75 : decode b_G_writeParts 75 = .ok (.lconst 1, 1) := by decide +kernel
theorem d_G_writeParts_76 : decode b_G_writeParts 76 = .ok (.land, 1) := by decide +kernel
theorem d_G_writeParts_77 : decode b_G_writeParts 77 = .ok (.goto 5, 3) := by decide +kernel
theorem d_G_writeParts_80 : decode b_G_writeParts 80 = .ok (.lload 8, 2) := by decide +kernel
theorem d_G_writeParts_82 : decode b_G_writeParts 82 = .ok (.getstatic 286, 3) := by decide +kernel
theorem d_G_writeParts_85 : decode b_G_writeParts 85 = .ok (.iload 7, 2) := by decide +kernel
theorem d_G_writeParts_87 : decode b_G_writeParts 87 = .ok (.iaload, 1) := by decide +kernel
theorem d_G_writeParts_88 : decode b_G_writeParts 88 = .ok (.invokevirtual 33, 3) := by decide +kernel
theorem d_G_writeParts_91 : decode b_G_writeParts 91 = .ok (.iinc 5 1, 3) := by decide +kernel
theorem d_G_writeParts_94 : decode b_G_writeParts 94 = .ok (.goto (-91), 3) := by decide +kernel
theorem d_G_writeParts_97 : decode b_G_writeParts 97 = .ok (.aload_n 2, 1) := by decide +kernel
theorem d_G_writeParts_98 : decode b_G_writeParts 98 = .ok (.getfield 52, 3) := by decide +kernel
theorem d_G_writeParts_101 : decode b_G_writeParts 101 = .ok (.iconst 2, 1) := by decide +kernel
theorem d_G_writeParts_102 : decode b_G_writeParts 102 = .ok (.if_icmp .ne 54, 3) := by decide +kernel
theorem d_G_writeParts_105 : decode b_G_writeParts 105 = .ok (.aload_n 0, 1) := by decide +kernel
theorem d_G_writeParts_106 : decode b_G_writeParts 106 = .ok (.getfield 24, 3) := by decide +kernel
theorem d_G_writeParts_109 : decode b_G_writeParts 109 = .ok (.ldc2_w 289, 3) := by decide +kernel
theorem d_G_writeParts_112 : decode b_G_writeParts 112 = .ok (.iconst 1, 1) := by decide +kernel
theorem d_G_writeParts_113 : decode b_G_writeParts 113 = .ok (.invokevirtual 33, 3) := by decide +kernel
theorem d_G_writeParts_116 : decode b_G_writeParts 116 = .ok (.aload_n 0, 1) := by decide +kernel
theorem d_G_writeParts_117 : decode b_G_writeParts 117 = .ok (.getfield 24, 3) := by decide +kernel
theorem d_G_writeParts_120 : decode b_G_writeParts 120 = .ok (.ldc2_w 291, 3) := by decide +kernel
theorem d_G_writeParts_123 : decode b_G_writeParts 123 = .ok (.iconst 1, 1) := by decide +kernel
theorem d_G_writeParts_124 : decode b_G_writeParts 124 = .ok (.invokevirtual 33, 3) := by decide +kernel
theorem d_G_writeParts_127 : decode b_G_writeParts 127 = .ok (.aload_n 0, 1) := by decide +kernel
theorem d_G_writeParts_128 : decode b_G_writeParts 128 = .ok (.getfield 24, 3) := by decide +kernel
theorem d_G_writeParts_131 : decode b_G_writeParts 131 = .ok (.aload_n 1, 1) := by decide +kernel
theorem d_G_writeParts_132 : decode b_G_writeParts 132 = .ok (.getfield 130, 3) := by decide +kernel
theorem d_G_writeParts_135 : decode b_G_writeParts 135 = .ok (.aload_n 2, 1) := by decide +kernel
theorem d_G_writeParts_136 : decode b_G_writeParts 136 = .ok (.getfield 293, 3) := by decide +kernel
theorem d_G_writeParts_139 : decode b_G_writeParts 139 = .ok (.iadd, 1) := by decide +kernel
theorem d_G_writeParts_140 : decode b_G_writeParts 140 = .ok (.i2l, 1) := by decide +kernel
theorem d_G_writeParts_141 : decode b_G_writeParts 141 = .ok (.iconst 4, 1) := by decide +kernel
theorem d_G_writeParts_142 : decode b_G_writeParts 142 = .ok (.invokevirtual 33, 3) := by decide +kernel
theorem d_G_writeParts_145 : decode b_G_writeParts 145 = .ok (.aload_n 0, 1) := by decide +kernel
theorem d_G_writeParts_146 : decode b_G_writeParts 146 = .ok (.getfield 24, 3) := by decide +kernel
theorem d_G_writeParts_149 : decode b_G_writeParts 149 = .ok (.ldc2_w 296, 3) := by decide +kernel
theorem d_G_writeParts_152 : decode b_G_writeParts 152 = .ok (.iconst 1, 1) := by decide +kernel
theorem d_G_writeParts_153 : decode b_G_writeParts 153 = .ok (.invokevirtual 33, 3) := by decide +kernel
theorem d_G_writeParts_156 : decode b_G_writeParts 156 = .ok (.return_, 1) := by decide +kernel
theorem d_O_settle_0 : decode b_O_settle 0 = .ok (.aload_n 0, 1) := by decide +kernel
theorem d_O_settle_1 : decode b_O_settle 1 = .ok (.getfield 22, 3) := by decide +kernel
theorem d_O_settle_4 : decode b_O_settle 4 = .ok (.ifCond .ne 10, 3) := by decide +kernel
theorem d_O_settle_7 : decode b_O_settle 7 = .ok (.aload_n 0, 1) := by decide +kernel
theorem d_O_settle_8 : decode b_O_settle 8 = .ok (.getfield 35, 3) := by decide +kernel
theorem d_O_settle_11 : decode b_O_settle 11 = .ok (.goto 7, 3) := by decide +kernel
theorem d_O_settle_14 : decode b_O_settle 14 = .ok (.aload_n 0, 1) := by decide +kernel
theorem d_O_settle_15 : decode b_O_settle 15 = .ok (.getfield 22, 3) := by decide +kernel
theorem d_O_settle_18 : decode b_O_settle 18 = .ok (.istore_n 1, 1) := by decide +kernel
theorem d_O_settle_19 : decode b_O_settle 19 = .ok (.aload_n 0, 1) := by decide +kernel
theorem d_O_settle_20 : decode b_O_settle 20 = .ok (.getfield 22, 3) := by decide +kernel
theorem d_O_settle_23 : decode b_O_settle 23 = .ok (.bipush (-2), 2) := by decide +kernel
theorem d_O_settle_25 : decode b_O_settle 25 = .ok (.if_icmp .ne 10, 3) := by decide +kernel
theorem d_O_settle_28 : decode b_O_settle 28 = .ok (.aload_n 0, 1) := by decide +kernel
theorem d_O_settle_29 : decode b_O_settle 29 = .ok (.invokevirtual 53, 3) := by decide +kernel
theorem d_O_settle_32 : decode b_O_settle 32 = .ok (.goto 16, 3) := by decide +kernel
theorem d_O_settle_35 : decode b_O_settle 35 = .ok (.aload_n 0, 1) := by decide +kernel
theorem d_O_settle_36 : decode b_O_settle 36 = .ok (.getfield 22, 3) := by decide +kernel
theorem d_O_settle_39 : decode b_O_settle 39 = .ok (.bipush (-3), 2) := by decide +kernel
theorem d_O_settle_41 : decode b_O_settle 41 = .ok (.if_icmp .ne 7, 3) := by decide +kernel
theorem d_O_settle_44 : decode b_O_settle 44 = .ok (.aload_n 0, 1) := by decide +kernel
theorem d_O_settle_45 : decode b_O_settle 45 = .ok (.invokevirtual 56, 3) := by decide +kernel
theorem d_O_settle_48 : decode b_O_settle 48 = .ok (.aload_n 0, 1) := by decide +kernel
theorem d_O_settle_49 : decode b_O_settle 49 = .ok (.iconst 0, 1) := by decide +kernel
theorem d_O_settle_50 : decode b_O_settle 50 = .ok (.putfield 22, 3) := by decide +kernel
theorem d_O_settle_53 : decode b_O_settle 53 = .ok (.iload_n 1, 1) := by decide +kernel
theorem d_O_settle_54 : decode b_O_settle 54 = .ok (.ireturn, 1) := by decide +kernel
theorem d_O_goBack_0 : decode b_O_goBack 0 = .ok (.aload_n 0, 1) := by decide +kernel
theorem d_O_goBack_1 : decode b_O_goBack 1 = .ok (.getfield 26, 3) := by decide +kernel
theorem d_O_goBack_4 : decode b_O_goBack 4 = .ok (.iconst 0, 1) := by decide +kernel
theorem d_O_goBack_5 : decode b_O_goBack 5 = .ok (.aload_n 0, 1) := by decide +kernel
theorem d_O_goBack_6 : decode b_O_goBack 6 = .ok (.getfield 18, 3) := by decide +kernel
theorem d_O_goBack_9 : decode b_O_goBack 9 = .ok (.iconst 0, 1) := by decide +kernel
theorem d_O_goBack_10 : decode b_O_goBack 10 = .ok (.bipush 35, 2) := by decide +kernel
theorem d_O_goBack_12 : decode b_O_goBack 12 = .ok (.invokestatic 29, 3) := by decide +kernel
theorem d_O_goBack_15 : decode b_O_goBack 15 = .ok (.aload_n 0, 1) := by decide +kernel
theorem d_O_goBack_16 : decode b_O_goBack 16 = .ok (.aload_n 0, 1) := by decide +kernel
theorem d_O_goBack_17 : decode b_O_goBack 17 = .ok (.getfield 38, 3) := by decide +kernel
theorem d_O_goBack_20 : decode b_O_goBack 20 = .ok (.putfield 35, 3) := by decide +kernel
theorem d_O_goBack_23 : decode b_O_goBack 23 = .ok (.aload_n 0, 1) := by decide +kernel
theorem d_O_goBack_24 : decode b_O_goBack 24 = .ok (.aload_n 0, 1) := by decide +kernel
theorem d_O_goBack_25 : decode b_O_goBack 25 = .ok (.getfield 44, 3) := by decide +kernel
theorem d_O_goBack_28 : decode b_O_goBack 28 = .ok (.putfield 41, 3) := by decide +kernel
theorem d_O_goBack_31 : decode b_O_goBack 31 = .ok (.aload_n 0, 1) := by decide +kernel
theorem d_O_goBack_32 : decode b_O_goBack 32 = .ok (.aload_n 0, 1) := by decide +kernel
theorem d_O_goBack_33 : decode b_O_goBack 33 = .ok (.getfield 50, 3) := by decide +kernel
theorem d_O_goBack_36 : decode b_O_goBack 36 = .ok (.putfield 47, 3) := by decide +kernel
theorem d_O_goBack_39 : decode b_O_goBack 39 = .ok (.return_, 1) := by decide +kernel
theorem d_G_reset_0 : decode b_G_reset 0 = .ok (.aload_n 0, 1) := by decide +kernel
theorem d_G_reset_1 : decode b_G_reset 1 = .ok (.getfield 24, 3) := by decide +kernel
theorem d_G_reset_4 : decode b_G_reset 4 = .ok (.invokevirtual 142, 3) := by decide +kernel
theorem d_G_reset_7 : decode b_G_reset 7 = .ok (.aload_n 0, 1) := by decide +kernel
theorem d_G_reset_8 : decode b_G_reset 8 = .ok (.getfield 24, 3) := by decide +kernel
theorem d_G_reset_11 : decode b_G_reset 11 = .ok (.invokevirtual 145, 3) := by decide +kernel
theorem d_G_reset_14 : decode b_G_reset 14 = .ok (.aload_n 0, 1) := by decide +kernel
theorem d_G_reset_15 : decode b_G_reset 15 = .ok (.getfield 24, 3) := by decide +kernel
theorem d_G_reset_18 : decode b_G_reset 18 = .ok (.ldc2_w 156, 3) := by decide +kernel
theorem d_G_reset_21 : decode b_G_reset 21 = .ok (.iconst 1, 1) := by decide +kernel
theorem d_G_reset_22 : decode b_G_reset 22 = .ok (.invokevirtual 33, 3) := by decide +kernel
theorem d_G_reset_25 : decode b_G_reset 25 = .ok (.aload_n 0, 1) := by decide +kernel
theorem d_G_reset_26 : decode b_G_reset 26 = .ok (.getfield 24, 3) := by decide +kernel
theorem d_G_reset_29 : decode b_G_reset 29 = .ok (.invokevirtual 28, 3) := by decide +kernel
theorem d_G_reset_32 : decode b_G_reset 32 = .ok (.aload_n 0, 1) := by decide +kernel
theorem d_G_reset_33 : decode b_G_reset 33 = .ok (.getfield 24, 3) := by decide +kernel
theorem d_G_reset_36 : decode b_G_reset 36 = .ok (.invokevirtual 152, 3) := by decide +kernel
theorem d_G_reset_39 : decode b_G_reset 39 = .ok (.ireturn, 1) := by decide +kernel
theorem d_G_byteAt_0 : decode b_G_byteAt 0 = .ok (.iload_n 1, 1) := by decide +kernel
theorem d_G_byteAt_1 : decode b_G_byteAt 1 = .ok (.ifCond .lt 14, 3) := by decide +kernel
theorem d_G_byteAt_4 : decode b_G_byteAt 4 = .ok (.iload_n 1, 1) := by decide +kernel
theorem d_G_byteAt_5 : decode b_G_byteAt 5 = .ok (.aload_n 0, 1) := by decide +kernel
theorem d_G_byteAt_6 : decode b_G_byteAt 6 = .ok (.getfield 24, 3) := by decide +kernel
theorem d_G_byteAt_9 : decode b_G_byteAt 9 = .ok (.getfield 158, 3) := by decide +kernel
theorem d_G_byteAt_12 : decode b_G_byteAt 12 = .ok (.if_icmp .lt 5, 3) := by decide +kernel
theorem d_G_byteAt_15 : decode b_G_byteAt 15 = .ok (.iconst (-1), 1) := by decide +kernel
theorem d_G_byteAt_16 : decode b_G_byteAt 16 = .ok (.ireturn, 1) := by decide +kernel
theorem d_G_byteAt_17 : decode b_G_byteAt 17 = .ok (.aload_n 0, 1) := by decide +kernel
theorem d_G_byteAt_18 : decode b_G_byteAt 18 = .ok (.getfield 24, 3) := by decide +kernel
theorem d_G_byteAt_21 : decode b_G_byteAt 21 = .ok (.getfield 161, 3) := by decide +kernel
theorem d_G_byteAt_24 : decode b_G_byteAt 24 = .ok (.iload_n 1, 1) := by decide +kernel
theorem d_G_byteAt_25 : decode b_G_byteAt 25 = .ok (.baload, 1) := by decide +kernel
theorem d_G_byteAt_26 : decode b_G_byteAt 26 = .ok (.sipush 255, 3) := by decide +kernel
theorem d_G_byteAt_29 : decode b_G_byteAt 29 = .ok (.iand, 1) := by decide +kernel
theorem d_G_byteAt_30 : decode b_G_byteAt 30 = .ok (.ireturn, 1) := by decide +kernel
theorem d_G_handle_0 : decode b_G_handle 0 = .ok (.aload_n 0, 1) := by decide +kernel
theorem d_G_handle_1 : decode b_G_handle 1 = .ok (.iload_n 1, 1) := by decide +kernel
theorem d_G_handle_2 : decode b_G_handle 2 = .ok (.invokevirtual 110, 3) := by decide +kernel
theorem d_G_handle_5 : decode b_G_handle 5 = .ok (.ifCond .eq 16, 3) := by decide +kernel
theorem d_G_handle_8 : decode b_G_handle 8 = .ok (.aload_n 0, 1) := by decide +kernel
theorem d_G_handle_9 : decode b_G_handle 9 = .ok (.getfield 24, 3) := by decide +kernel
theorem d_G_handle_12 : decode b_G_handle 12 = .ok (.getfield 165, 3) := by decide +kernel
theorem d_G_handle_15 : decode b_G_handle 15 = .ok (.iload_n 1, 1) := by decide +kernel
theorem d_G_handle_16 : decode b_G_handle 16 = .ok (.iaload, 1) := by decide +kernel
theorem d_G_handle_17 : decode b_G_handle 17 = .ok (.iconst (-1), 1) := by decide +kernel
theorem d_G_handle_18 : decode b_G_handle 18 = .ok (.if_icmp .ne 5, 3) := by decide +kernel
theorem d_G_handle_21 : decode b_G_handle 21 = .ok (.iconst (-1), 1) := by decide +kernel
theorem d_G_handle_22 : decode b_G_handle 22 = .ok (.ireturn, 1) := by decide +kernel
theorem d_G_handle_23 : decode b_G_handle 23 = .ok (.aload_n 0, 1) := by decide +kernel
theorem d_G_handle_24 : decode b_G_handle 24 = .ok (.getfield 24, 3) := by decide +kernel
theorem d_G_handle_27 : decode b_G_handle 27 = .ok (.getfield 165, 3) := by decide +kernel
theorem d_G_handle_30 : decode b_G_handle 30 = .ok (.iload_n 1, 1) := by decide +kernel
theorem d_G_handle_31 : decode b_G_handle 31 = .ok (.iaload, 1) := by decide +kernel
theorem d_G_handle_32 : decode b_G_handle 32 = .ok (.ireturn, 1) := by decide +kernel
theorem d_G_count_0 : decode b_G_count 0 = .ok (.iload_n 1, 1) := by decide +kernel
theorem d_G_count_1 : decode b_G_count 1 = .ok (.tableswitch 69 0 4 #[35, 43, 51, 59, 64], 35) := by decide +kernel
theorem d_G_count_36 : decode b_G_count 36 = .ok (.aload_n 0, 1) := by decide +kernel
theorem d_G_count_37 : decode b_G_count 37 = .ok (.getfield 24, 3) := by decide +kernel
theorem d_G_count_40 : decode b_G_count 40 = .ok (.getfield 158, 3) := by decide +kernel
theorem d_G_count_43 : decode b_G_count 43 = .ok (.ireturn, 1) := by decide +kernel
theorem d_G_count_44 : decode b_G_count 44 = .ok (.aload_n 0, 1) := by decide +kernel
theorem d_G_count_45 : decode b_G_count 45 = .ok (.getfield 24, 3) := by decide +kernel
theorem d_G_count_48 : decode b_G_count 48 = .ok (.getfield 139, 3) := by decide +kernel
theorem d_G_count_51 : decode b_G_count 51 = .ok (.ireturn, 1) := by decide +kernel
theorem d_G_count_52 : decode b_G_count 52 = .ok (.aload_n 0, 1) := by decide +kernel
theorem d_G_count_53 : decode b_G_count 53 = .ok (.getfield 24, 3) := by decide +kernel
theorem d_G_count_56 : decode b_G_count 56 = .ok (.getfield 168, 3) := by decide +kernel
theorem d_G_count_59 : decode b_G_count 59 = .ok (.ireturn, 1) := by decide +kernel
theorem d_G_count_60 : decode b_G_count 60 = .ok (.aload_n 0, 1) := by decide +kernel
theorem d_G_count_61 : decode b_G_count 61 = .ok (.getfield 70, 3) := by decide +kernel
theorem d_G_count_64 : decode b_G_count 64 = .ok (.ireturn, 1) := by decide +kernel
theorem d_G_count_65 : decode b_G_count 65 = .ok (.aload_n 0, 1) := by decide +kernel
theorem d_G_count_66 : decode b_G_count 66 = .ok (.invokevirtual 171, 3) := by decide +kernel
theorem d_G_count_69 : decode b_G_count 69 = .ok (.ireturn, 1) := by decide +kernel
theorem d_G_count_70 : decode b_G_count 70 = .ok (.iconst (-1), 1) := by decide +kernel
theorem d_G_count_71 : decode b_G_count 71 = .ok (.ireturn, 1) := by decide +kernel
theorem d_G_definedClasses_0 : decode b_G_definedClasses 0 = .ok (.iconst 0, 1) := by decide +kernel
theorem d_G_definedClasses_1 : decode b_G_definedClasses 1 = .ok (.istore_n 1, 1) := by decide +kernel
theorem d_G_definedClasses_2 : decode b_G_definedClasses 2 = .ok (.iconst 0, 1) := by decide +kernel
theorem d_G_definedClasses_3 : decode b_G_definedClasses 3 = .ok (.istore_n 2, 1) := by decide +kernel
theorem d_G_definedClasses_4 : decode b_G_definedClasses 4 = .ok (.iload_n 2, 1) := by decide +kernel
theorem d_G_definedClasses_5 : decode b_G_definedClasses 5 = .ok (.bipush 6, 2) := by decide +kernel
theorem d_G_definedClasses_7 : decode b_G_definedClasses 7 = .ok (.if_icmp .ge 24, 3) := by decide +kernel
theorem d_G_definedClasses_10 : decode b_G_definedClasses 10 = .ok (.aload_n 0, 1) := by decide +kernel
theorem d_G_definedClasses_11 : decode b_G_definedClasses 11 = .ok (.getfield 11, 3) := by decide +kernel
theorem d_G_definedClasses_14 : decode b_G_definedClasses 14 = .ok (.iload_n 2, 1) := by decide +kernel
theorem d_G_definedClasses_15 : decode b_G_definedClasses 15 = .ok (.aaload, 1) := by decide +kernel
theorem d_G_definedClasses_16 : decode b_G_definedClasses 16 = .ok (.ifnull 9, 3) := by decide +kernel
theorem d_G_definedClasses_19 : decode b_G_definedClasses 19 = .ok (.iload_n 1, 1) := by decide +kernel
theorem d_G_definedClasses_20 : decode b_G_definedClasses 20 = .ok (.iconst 1, 1) := by decide +kernel
theorem d_G_definedClasses_21 : decode b_G_definedClasses 21 = .ok (.iload_n 2, 1) := by decide +kernel
theorem d_G_definedClasses_22 : decode b_G_definedClasses 22 = .ok (.ishl, 1) := by decide +kernel
theorem d_G_definedClasses_23 : decode b_G_definedClasses 23 = .ok (.iadd, 1) := by decide +kernel
theorem d_G_definedClasses_24 : decode b_G_definedClasses 24 = .ok (.istore_n 1, 1) := by decide +kernel
theorem d_G_definedClasses_25 : decode b_G_definedClasses 25 = .ok (.iinc 2 1, 3) := by decide +kernel
theorem d_G_definedClasses_28 : decode b_G_definedClasses 28 = .ok (.goto (-24), 3) := by decide +kernel
theorem d_G_definedClasses_31 : decode b_G_definedClasses 31 = .ok (.iload_n 1, 1) := by decide +kernel
theorem d_G_definedClasses_32 : decode b_G_definedClasses 32 = .ok (.ireturn, 1) := by decide +kernel
theorem d_G_object_0 : decode b_G_object 0 = .ok (.aload_n 0, 1) := by decide +kernel
theorem d_G_object_1 : decode b_G_object 1 = .ok (.iload_n 1, 1) := by decide +kernel
theorem d_G_object_2 : decode b_G_object 2 = .ok (.invokevirtual 110, 3) := by decide +kernel
theorem d_G_object_5 : decode b_G_object 5 = .ok (.ifCond .ne 5, 3) := by decide +kernel
theorem d_G_object_8 : decode b_G_object 8 = .ok (.iconst (-1), 1) := by decide +kernel
theorem d_G_object_9 : decode b_G_object 9 = .ok (.ireturn, 1) := by decide +kernel
theorem d_G_object_10 : decode b_G_object 10 = .ok (.aload_n 0, 1) := by decide +kernel
theorem d_G_object_11 : decode b_G_object 11 = .ok (.getfield 17, 3) := by decide +kernel
theorem d_G_object_14 : decode b_G_object 14 = .ok (.iload_n 1, 1) := by decide +kernel
theorem d_G_object_15 : decode b_G_object 15 = .ok (.aaload, 1) := by decide +kernel
theorem d_G_object_16 : decode b_G_object 16 = .ok (.astore_n 3, 1) := by decide +kernel
theorem d_G_object_17 : decode b_G_object 17 = .ok (.iload_n 2, 1) := by decide +kernel
theorem d_G_object_18 : decode b_G_object 18 = .ok (.tableswitch 72 0 2 #[26, 31, 48], 26) := by decide +kernel
theorem d_G_object_44 : decode b_G_object 44 = .ok (.aload_n 3, 1) := by decide +kernel
theorem d_G_object_45 : decode b_G_object 45 = .ok (.getfield 174, 3) := by decide +kernel
theorem d_G_object_48 : decode b_G_object 48 = .ok (.ireturn, 1) := by decide +kernel
theorem d_G_object_49 : decode b_G_object 49 = .ok (.aload_n 3, 1) := by decide +kernel
theorem d_G_object_50 : decode b_G_object 50 = .ok (.getfield 177, 3) := by decide +kernel
theorem d_G_object_53 : decode b_G_object 53 = .ok (.iconst (-1), 1) := by decide +kernel
theorem d_G_object_54 : decode b_G_object 54 = .ok (.if_icmp .ne 7, 3) := by decide +kernel
theorem d_G_object_57 : decode b_G_object 57 = .ok (.iconst (-1), 1) := by decide +kernel
theorem d_G_object_58 : decode b_G_object 58 = .ok (.goto 7, 3) := by decide +kernel
theorem d_G_object_61 : decode b_G_object 61 = .ok (.aload_n 3, 1) := by decide +kernel
theorem d_G_object_62 : decode b_G_object 62 = .ok (.getfield 177, 3) := by decide +kernel
theorem d_G_object_65 : decode b_G_object 65 = .ok (.ireturn, 1) := by decide +kernel
theorem d_G_object_66 : decode b_G_object 66 = .ok (.aload_n 3, 1) := by decide +kernel
theorem d_G_object_67 : decode b_G_object 67 = .ok (.getfield 174, 3) := by decide +kernel
theorem d_G_object_70 : decode b_G_object 70 = .ok (.iconst 1, 1) := by decide +kernel
theorem d_G_object_71 : decode b_G_object 71 = .ok (.if_icmp .ne 13, 3) := by decide +kernel
theorem d_G_object_74 : decode b_G_object 74 = .ok (.aload_n 3, 1) := by decide +kernel
theorem d_G_object_75 : decode b_G_object 75 = .ok (.getfield 180, 3) := by decide +kernel
theorem d_G_object_78 : decode b_G_object 78 = .ok (.invokevirtual 184, 3) := by decide +kernel
theorem d_G_object_81 : decode b_G_object 81 = .ok (.goto 8, 3) := by decide +kernel
theorem d_G_object_84 : decode b_G_object 84 = .ok (.aload_n 3, 1) := by decide +kernel
theorem d_G_object_85 : decode b_G_object 85 = .ok (.getfield 120, 3) := by decide +kernel
theorem d_G_object_88 : decode b_G_object 88 = .ok (.arraylength, 1) := by decide +kernel
theorem d_G_object_89 : decode b_G_object 89 = .ok (.ireturn, 1) := by decide +kernel
theorem d_G_object_90 : decode b_G_object 90 = .ok (.iconst (-1), 1) := by decide +kernel
theorem d_G_object_91 : decode b_G_object 91 = .ok (.ireturn, 1) := by decide +kernel
theorem d_M_init_0 : decode b_M_init 0 = .ok (.aload_n 0, 1) := by decide +kernel
theorem d_M_init_1 : decode b_M_init 1 = .ok (.invokespecial 1, 3) := by decide +kernel
theorem d_M_init_4 : decode b_M_init 4 = .ok (.aload_n 0, 1) := by decide +kernel
theorem d_M_init_5 : decode b_M_init 5 = .ok (.bipush 6, 2) := by decide +kernel
theorem d_M_init_7 : decode b_M_init 7 = .ok (.newarray .boolean, 2) := by decide +kernel
theorem d_M_init_9 : decode b_M_init 9 = .ok (.putfield 7, 3) := by decide +kernel
theorem d_M_init_12 : decode b_M_init 12 = .ok (.aload_n 0, 1) := by decide +kernel
theorem d_M_init_13 : decode b_M_init 13 = .ok (.bipush 6, 2) := by decide +kernel
theorem d_M_init_15 : decode b_M_init 15 = .ok (.newarray .int, 2) := by decide +kernel
theorem d_M_init_17 : decode b_M_init 17 = .ok (.putfield 13, 3) := by decide +kernel
theorem d_M_init_20 : decode b_M_init 20 = .ok (.aload_n 0, 1) := by decide +kernel
theorem d_M_init_21 : decode b_M_init 21 = .ok (.bipush 6, 2) := by decide +kernel
theorem d_M_init_23 : decode b_M_init 23 = .ok (.newarray .int, 2) := by decide +kernel
theorem d_M_init_25 : decode b_M_init 25 = .ok (.putfield 17, 3) := by decide +kernel
theorem d_M_init_28 : decode b_M_init 28 = .ok (.aload_n 0, 1) := by decide +kernel
theorem d_M_init_29 : decode b_M_init 29 = .ok (.bipush 6, 2) := by decide +kernel
theorem d_M_init_31 : decode b_M_init 31 = .ok (.newarray .long, 2) := by decide +kernel
theorem d_M_init_33 : decode b_M_init 33 = .ok (.putfield 20, 3) := by decide +kernel
theorem d_M_init_36 : decode b_M_init 36 = .ok (.aload_n 0, 1) := by decide +kernel
theorem d_M_init_37 : decode b_M_init 37 = .ok (.bipush 6, 2) := by decide +kernel
theorem d_M_init_39 : decode b_M_init 39 = .ok (.newarray .int, 2) := by decide +kernel
theorem d_M_init_41 : decode b_M_init 41 = .ok (.putfield 24, 3) := by decide +kernel
theorem d_M_init_44 : decode b_M_init 44 = .ok (.aload_n 0, 1) := by decide +kernel
theorem d_M_init_45 : decode b_M_init 45 = .ok (.bipush 24, 2) := by decide +kernel
theorem d_M_init_47 : decode b_M_init 47 = .ok (.newarray .int, 2) := by decide +kernel
theorem d_M_init_49 : decode b_M_init 49 = .ok (.putfield 27, 3) := by decide +kernel
theorem d_M_init_52 : decode b_M_init 52 = .ok (.aload_n 0, 1) := by decide +kernel
theorem d_M_init_53 : decode b_M_init 53 = .ok (.bipush 24, 2) := by decide +kernel
theorem d_M_init_55 : decode b_M_init 55 = .ok (.newarray .int, 2) := by decide +kernel
theorem d_M_init_57 : decode b_M_init 57 = .ok (.putfield 30, 3) := by decide +kernel
theorem d_M_init_60 : decode b_M_init 60 = .ok (.aload_n 0, 1) := by decide +kernel
theorem d_M_init_61 : decode b_M_init 61 = .ok (.bipush 24, 2) := by decide +kernel
theorem d_M_init_63 : decode b_M_init 63 = .ok (.newarray .boolean, 2) := by decide +kernel
theorem d_M_init_65 : decode b_M_init 65 = .ok (.putfield 33, 3) := by decide +kernel
theorem d_M_init_68 : decode b_M_init 68 = .ok (.aload_n 0, 1) := by decide +kernel
theorem d_M_init_69 : decode b_M_init 69 = .ok (.bipush 20, 2) := by decide +kernel
theorem d_M_init_71 : decode b_M_init 71 = .ok (.newarray .int, 2) := by decide +kernel
theorem d_M_init_73 : decode b_M_init 73 = .ok (.putfield 36, 3) := by decide +kernel
theorem d_M_init_76 : decode b_M_init 76 = .ok (.aload_n 0, 1) := by decide +kernel
theorem d_M_init_77 : decode b_M_init 77 = .ok (.bipush 20, 2) := by decide +kernel
theorem d_M_init_79 : decode b_M_init 79 = .ok (.newarray .int, 2) := by decide +kernel
theorem d_M_init_81 : decode b_M_init 81 = .ok (.putfield 39, 3) := by decide +kernel
theorem d_M_init_84 : decode b_M_init 84 = .ok (.aload_n 0, 1) := by decide +kernel
theorem d_M_init_85 : decode b_M_init 85 = .ok (.bipush 20, 2) := by decide +kernel
theorem d_M_init_87 : decode b_M_init 87 = .ok (.newarray .int, 2) := by decide +kernel
theorem d_M_init_89 : decode b_M_init 89 = .ok (.putfield 42, 3) := by decide +kernel
theorem d_M_init_92 : decode b_M_init 92 = .ok (.aload_n 0, 1) := by decide +kernel
theorem d_M_init_93 : decode b_M_init 93 = .ok (.bipush 20, 2) := by decide +kernel
theorem d_M_init_95 : decode b_M_init 95 = .ok (.newarray .int, 2) := by decide +kernel
theorem d_M_init_97 : decode b_M_init 97 = .ok (.putfield 45, 3) := by decide +kernel
theorem d_M_init_100 : decode b_M_init 100 = .ok (.aload_n 0, 1) := by decide +kernel
theorem d_M_init_101 : decode b_M_init 101 = .ok (.sipush 480, 3) := by decide +kernel
theorem d_M_init_104 : decode b_M_init 104 = .ok (.newarray .long, 2) := by decide +kernel
theorem d_M_init_106 : decode b_M_init 106 = .ok (.putfield 48, 3) := by decide +kernel
theorem d_M_init_109 : decode b_M_init 109 = .ok (.aload_n 0, 1) := by decide +kernel
theorem d_M_init_110 : decode b_M_init 110 = .ok (.bipush 20, 2) := by decide +kernel
theorem d_M_init_112 : decode b_M_init 112 = .ok (.newarray .int, 2) := by decide +kernel
theorem d_M_init_114 : decode b_M_init 114 = .ok (.putfield 51, 3) := by decide +kernel
theorem d_M_init_117 : decode b_M_init 117 = .ok (.aload_n 0, 1) := by decide +kernel
theorem d_M_init_118 : decode b_M_init 118 = .ok (.bipush 20, 2) := by decide +kernel
theorem d_M_init_120 : decode b_M_init 120 = .ok (.newarray .int, 2) := by decide +kernel
theorem d_M_init_122 : decode b_M_init 122 = .ok (.putfield 54, 3) := by decide +kernel
theorem d_M_init_125 : decode b_M_init 125 = .ok (.aload_n 0, 1) := by decide +kernel
theorem d_M_init_126 : decode b_M_init 126 = .ok (.sipush 1700, 3) := by decide +kernel
theorem d_M_init_129 : decode b_M_init 129 = .ok (.newarray .int, 2) := by decide +kernel
theorem d_M_init_131 : decode b_M_init 131 = .ok (.putfield 57, 3) := by decide +kernel
theorem d_M_init_134 : decode b_M_init 134 = .ok (.aload_n 0, 1) := by decide +kernel
theorem d_M_init_135 : decode b_M_init 135 = .ok (.sipush 256, 3) := by decide +kernel
theorem d_M_init_138 : decode b_M_init 138 = .ok (.newarray .int, 2) := by decide +kernel
theorem d_M_init_140 : decode b_M_init 140 = .ok (.putfield 60, 3) := by decide +kernel
theorem d_M_init_143 : decode b_M_init 143 = .ok (.aload_n 0, 1) := by decide +kernel
theorem d_M_init_144 : decode b_M_init 144 = .ok (.bipush 51, 2) := by decide +kernel
theorem d_M_init_146 : decode b_M_init 146 = .ok (.newarray .int, 2) := by decide +kernel
theorem d_M_init_148 : decode b_M_init 148 = .ok (.putfield 63, 3) := by decide +kernel
theorem d_M_init_151 : decode b_M_init 151 = .ok (.aload_n 0, 1) := by decide +kernel
theorem d_M_init_152 : decode b_M_init 152 = .ok (.sipush 900, 3) := by decide +kernel
theorem d_M_init_155 : decode b_M_init 155 = .ok (.newarray .int, 2) := by decide +kernel
theorem d_M_init_157 : decode b_M_init 157 = .ok (.putfield 66, 3) := by decide +kernel
theorem d_M_init_160 : decode b_M_init 160 = .ok (.aload_n 0, 1) := by decide +kernel
theorem d_M_init_161 : decode b_M_init 161 = .ok (.sipush 900, 3) := by decide +kernel
theorem d_M_init_164 : decode b_M_init 164 = .ok (.newarray .int, 2) := by decide +kernel
theorem d_M_init_166 : decode b_M_init 166 = .ok (.putfield 69, 3) := by decide +kernel
theorem d_M_init_169 : decode b_M_init 169 = .ok (.aload_n 0, 1) := by decide +kernel
theorem d_M_init_170 : decode b_M_init 170 = .ok (.sipush 900, 3) := by decide +kernel
theorem d_M_init_173 : decode b_M_init 173 = .ok (.newarray .int, 2) := by decide +kernel
theorem d_M_init_175 : decode b_M_init 175 = .ok (.putfield 72, 3) := by decide +kernel
theorem d_M_init_178 : decode b_M_init 178 = .ok (.aload_n 0, 1) := by decide +kernel
theorem d_M_init_179 : decode b_M_init 179 = .ok (.iconst 4, 1) := by decide +kernel
theorem d_M_init_180 : decode b_M_init 180 = .ok (.newarray .int, 2) := by decide +kernel
theorem d_M_init_182 : decode b_M_init 182 = .ok (.putfield 75, 3) := by decide +kernel
theorem d_M_init_185 : decode b_M_init 185 = .ok (.aload_n 0, 1) := by decide +kernel
theorem d_M_init_186 : decode b_M_init 186 = .ok (.bipush 51, 2) := by decide +kernel
theorem d_M_init_188 : decode b_M_init 188 = .ok (.newarray .int, 2) := by decide +kernel
theorem d_M_init_190 : decode b_M_init 190 = .ok (.putfield 78, 3) := by decide +kernel
theorem d_M_init_193 : decode b_M_init 193 = .ok (.aload_n 0, 1) := by decide +kernel
theorem d_M_init_194 : decode b_M_init 194 = .ok (.ldc2_w 81, 3) := by decide +kernel
theorem d_M_init_197 : decode b_M_init 197 = .ok (.iconst 2, 1) := by decide +kernel
theorem d_M_init_198 : decode b_M_init 198 = .ok (.invokevirtual 83, 3) := by decide +kernel
theorem d_M_init_201 : decode b_M_init 201 = .ok (.aload_n 0, 1) := by decide +kernel
theorem d_M_init_202 : decode b_M_init 202 = .ok (.ldc2_w 87, 3) := by decide +kernel
theorem d_M_init_205 : decode b_M_init 205 = .ok (.iconst 2, 1) := by decide +kernel
theorem d_M_init_206 : decode b_M_init 206 = .ok (.invokevirtual 83, 3) := by decide +kernel
theorem d_M_init_209 : decode b_M_init 209 = .ok (.aload_n 0, 1) := by decide +kernel
theorem d_M_init_210 : decode b_M_init 210 = .ok (.invokevirtual 89, 3) := by decide +kernel
theorem d_M_init_213 : decode b_M_init 213 = .ok (.return_, 1) := by decide +kernel
theorem d_M_append_0 : decode b_M_append 0 = .ok (.iload_n 3, 1) := by decide +kernel
theorem d_M_append_1 : decode b_M_append 1 = .ok (.iconst 1, 1) := by decide +kernel
theorem d_M_append_2 : decode b_M_append 2 = .ok (.isub, 1) := by decide +kernel
theorem d_M_append_3 : decode b_M_append 3 = .ok (.istore 4, 2) := by decide +kernel
theorem d_M_append_5 : decode b_M_append 5 = .ok (.iload 4, 2) := by decide +kernel
theorem d_M_append_7 : decode b_M_append 7 = .ok (.ifCond .lt 50, 3) := by decide +kernel
theorem d_M_append_10 : decode b_M_append 10 = .ok (.aload_n 0, 1) := by decide +kernel
theorem d_M_append_11 : decode b_M_append 11 = .ok (.getfield 96, 3) := by decide +kernel
theorem d_M_append_14 : decode b_M_append 14 = .ok (.sipush 1650, 3) := by decide +kernel
theorem d_M_append_17 : decode b_M_append 17 = .ok (.if_icmp .ge 34, 3) := by decide +kernel
theorem d_M_append_20 : decode b_M_append 20 = .ok (.aload_n 0, 1) := by decide +kernel
theorem d_M_append_21 : decode b_M_append 21 = .ok (.getfield 57, 3) := by decide +kernel
theorem d_M_append_24 : decode b_M_append 24 = .ok (.aload_n 0, 1) := by decide +kernel
theorem d_M_append_25 : decode b_M_append 25 = .ok (.getfield 96, 3) := by decide +kernel
theorem d_M_append_28 : decode b_M_append 28 = .ok (.lload_n 1, 1) := by decide +kernel
theorem d_M_append_29 : decode b_M_append 29 = .ok (.bipush 8, 2) := by decide +kernel
theorem d_M_append_31 : decode b_M_append 31 = .ok (.iload 4, 2) := by decide +kernel
theorem d_M_append_33 : decode b_M_append 33 = .ok (.imul, 1) := by decide +kernel
theorem d_M_append_34 : decode b_M_append 34 = .ok (.lshr, 1) := by decide +kernel
theorem d_M_append_35 : decode b_M_append 35 = .ok (.l2i, 1) := by decide +kernel
theorem d_M_append_36 : decode b_M_append 36 = .ok (.sipush 255, 3) := by decide +kernel
theorem d_M_append_39 : decode b_M_append 39 = .ok (.iand, 1) := by decide +kernel
theorem d_M_append_40 : decode b_M_append 40 = .ok (.iastore, 1) := by decide +kernel
theorem d_M_append_41 : decode b_M_append 41 = .ok (.aload_n 0, 1) := by decide +kernel
theorem d_M_append_42 : decode b_M_append 42 = .ok (.dup, 1) := by decide +kernel
theorem d_M_append_43 : decode b_M_append 43 = .ok (.getfield 96, 3) := by decide +kernel
theorem d_M_append_46 : decode b_M_append 46 = .ok (.iconst 1, 1) := by decide +kernel
theorem d_M_append_47 : decode b_M_append 47 = .ok (.iadd, 1) := by decide +kernel
theorem d_M_append_48 : decode b_M_append 48 = .ok (.putfield 96, 3) := by decide +kernel
theorem d_M_append_51 : decode b_M_append 51 = .ok (.iinc 4 (-1), 3) := by decide +kernel
theorem d_M_append_54 : decode b_M_append 54 = .ok (.goto (-49), 3) := by decide +kernel
theorem d_M_append_57 : decode b_M_append 57 = .ok (.return_, 1) := by decide +kernel
theorem d_M_noHandles_0 : decode b_M_noHandles 0 = .ok (.iconst 0, 1) := by decide +kernel
theorem d_M_noHandles_1 : decode b_M_noHandles 1 = .ok (.istore_n 1, 1) := by decide +kernel
theorem d_M_noHandles_2 : decode b_M_noHandles 2 = .ok (.iload_n 1, 1) := by decide +kernel
theorem d_M_noHandles_3 : decode b_M_noHandles 3 = .ok (.bipush 51, 2) := by decide +kernel
theorem d_M_noHandles_5 : decode b_M_noHandles 5 = .ok (.if_icmp .ge 16, 3) := by decide +kernel
theorem d_M_noHandles_8 : decode b_M_noHandles 8 = .ok (.aload_n 0, 1) := by decide +kernel
theorem d_M_noHandles_9 : decode b_M_noHandles 9 = .ok (.getfield 63, 3) := by decide +kernel
theorem d_M_noHandles_12 : decode b_M_noHandles 12 = .ok (.iload_n 1, 1) := by decide +kernel
theorem d_M_noHandles_13 : decode b_M_noHandles 13 = .ok (.iconst (-1), 1) := by decide +kernel
theorem d_M_noHandles_14 : decode b_M_noHandles 14 = .ok (.iastore, 1) := by decide +kernel
theorem d_M_noHandles_15 : decode b_M_noHandles 15 = .ok (.iinc 1 1, 3) := by decide +kernel
theorem d_M_noHandles_18 : decode b_M_noHandles 18 = .ok (.goto (-16), 3) := by decide +kernel
theorem d_M_noHandles_21 : decode b_M_noHandles 21 = .ok (.aload_n 0, 1) := by decide +kernel
theorem d_M_noHandles_22 : decode b_M_noHandles 22 = .ok (.iconst 0, 1) := by decide +kernel
theorem d_M_noHandles_23 : decode b_M_noHandles 23 = .ok (.putfield 100, 3) := by decide +kernel
theorem d_M_noHandles_26 : decode b_M_noHandles 26 = .ok (.return_, 1) := by decide +kernel
theorem d_M_define_0 : decode b_M_define 0 = .ok (.aload_n 0, 1) := by decide +kernel
theorem d_M_define_1 : decode b_M_define 1 = .ok (.iload_n 1, 1) := by decide +kernel
theorem d_M_define_2 : decode b_M_define 2 = .ok (.bipush 6, 2) := by decide +kernel
theorem d_M_define_4 : decode b_M_define 4 = .ok (.invokevirtual 92, 3) := by decide +kernel
theorem d_M_define_7 : decode b_M_define 7 = .ok (.ifCond .ne 38, 3) := by decide +kernel
theorem d_M_define_10 : decode b_M_define 10 = .ok (.aload_n 0, 1) := by decide +kernel
theorem d_M_define_11 : decode b_M_define 11 = .ok (.iload_n 2, 1) := by decide +kernel
theorem d_M_define_12 : decode b_M_define 12 = .ok (.iconst 5, 1) := by decide +kernel
theorem d_M_define_13 : decode b_M_define 13 = .ok (.invokevirtual 92, 3) := by decide +kernel
theorem d_M_define_16 : decode b_M_define 16 = .ok (.ifCond .ne 29, 3) := by decide +kernel
theorem d_M_define_19 : decode b_M_define 19 = .ok (.iload_n 3, 1) := by decide +kernel
theorem d_M_define_20 : decode b_M_define 20 = .ok (.iconst (-1), 1) := by decide +kernel
theorem d_M_define_21 : decode b_M_define 21 = .ok (.if_icmp .lt 24, 3) := by decide +kernel
theorem d_M_define_24 : decode b_M_define 24 = .ok (.iload_n 3, 1) := by decide +kernel
theorem d_M_define_25 : decode b_M_define 25 = .ok (.ifCond .lt 11, 3) := by decide +kernel
theorem d_M_define_28 : decode b_M_define 28 = .ok (.aload_n 0, 1) := by decide +kernel
theorem d_M_define_29 : decode b_M_define 29 = .ok (.iload_n 3, 1) := by decide +kernel
theorem d_M_define_30 : decode b_M_define 30 = .ok (.invokevirtual 111, 3) := by decide +kernel
theorem d_M_define_33 : decode b_M_define 33 = .ok (.ifCond .ne 12, 3) := by decide +kernel
theorem d_M_define_36 : decode b_M_define 36 = .ok (.aload_n 0, 1) := by decide +kernel
theorem d_M_define_37 : decode b_M_define 37 = .ok (.getfield 7, 3) := by decide +kernel
theorem d_M_define_40 : decode b_M_define 40 = .ok (.iload_n 1, 1) := by decide +kernel
theorem d_M_define_41 : decode b_M_define 41 = .ok (.baload, 1) := by decide +kernel
theorem d_M_define_42 : decode b_M_define 42 = .ok (.ifCond .eq 5, 3) := by decide +kernel
theorem d_M_define_45 : decode b_M_define 45 = .ok (.iconst (-1), 1) := by decide +kernel
theorem d_M_define_46 : decode b_M_define 46 = .ok (.ireturn, 1) := by decide +kernel
theorem d_M_define_47 : decode b_M_define 47 = .ok (.iload_n 3, 1) := by decide +kernel
theorem d_M_define_48 : decode b_M_define 48 = .ok (.ifCond .lt 33, 3) := by decide +kernel
theorem d_M_define_51 : decode b_M_define 51 = .ok (.iload_n 2, 1) := by decide +kernel
theorem d_M_define_52 : decode b_M_define 52 = .ok (.iconst 2, 1) := by decide +kernel
theorem d_M_define_53 : decode b_M_define 53 = .ok (.if_icmp .gt 26, 3) := by decide +kernel
theorem d_M_define_56 : decode b_M_define 56 = .ok (.aload_n 0, 1) := by decide +kernel
theorem d_M_define_57 : decode b_M_define 57 = .ok (.getfield 13, 3) := by decide +kernel
theorem d_M_define_60 : decode b_M_define 60 = .ok (.iload_n 3, 1) := by decide +kernel
theorem d_M_define_61 : decode b_M_define 61 = .ok (.iaload, 1) := by decide +kernel
theorem d_M_define_62 : decode b_M_define 62 = .ok (.iconst 2, 1) := by decide +kernel
theorem d_M_define_63 : decode b_M_define 63 = .ok (.if_icmp .gt 16, 3) := by decide +kernel
theorem d_M_define_66 : decode b_M_define 66 = .ok (.iload_n 2, 1) := by decide +kernel
theorem d_M_define_67 : decode b_M_define 67 = .ok (.ifCond .ne 14, 3) := by decide +kernel
theorem d_M_define_70 : decode b_M_define 70 = .ok (.aload_n 0, 1) := by decide +kernel
theorem d_M_define_71 : decode b_M_define 71 = .ok (.getfield 13, 3) := by decide +kernel
theorem d_M_define_74 : decode b_M_define 74 = .ok (.iload_n 3, 1) := by decide +kernel
theorem d_M_define_75 : decode b_M_define 75 = .ok (.iaload, 1) := by decide +kernel
theorem d_M_define_76 : decode b_M_define 76 = .ok (.ifCond .eq 5, 3) := by decide +kernel
theorem d_M_define_79 : decode b_M_define 79 = .ok (.iconst (-1), 1) := by decide +kernel
theorem d_M_define_80 : decode b_M_define 80 = .ok (.ireturn, 1) := by decide +kernel
theorem d_M_define_81 : decode b_M_define 81 = .ok (.aload_n 0, 1) := by decide +kernel
theorem d_M_define_82 : decode b_M_define 82 = .ok (.getfield 7, 3) := by decide +kernel
theorem d_M_define_85 : decode b_M_define 85 = .ok (.iload_n 1, 1) := by decide +kernel
theorem d_M_define_86 : decode b_M_define 86 = .ok (.iconst 1, 1) := by decide +kernel
theorem d_M_define_87 : decode b_M_define 87 = .ok (.bastore, 1) := by decide +kernel
theorem d_M_define_88 : decode b_M_define 88 = .ok (.aload_n 0, 1) := by decide +kernel
theorem d_M_define_89 : decode b_M_define 89 = .ok (.getfield 13, 3) := by decide +kernel
theorem d_M_define_92 : decode b_M_define 92 = .ok (.iload_n 1, 1) := by decide +kernel
theorem d_M_define_93 : decode b_M_define 93 = .ok (.iload_n 2, 1) := by decide +kernel
theorem d_M_define_94 : decode b_M_define 94 = .ok (.iastore, 1) := by decide +kernel
theorem d_M_define_95 : decode b_M_define 95 = .ok (.aload_n 0, 1) := by decide +kernel
theorem d_M_define_96 : decode b_M_define 96 = .ok (.getfield 17, 3) := by decide +kernel
theorem d_M_define_99 : decode b_M_define 99 = .ok (.iload_n 1, 1) := by decide +kernel
theorem d_M_define_100 : decode b_M_define 100 = .ok (.iload_n 3, 1) := by decide +kernel
theorem d_M_define_101 : decode b_M_define 101 = .ok (.iastore, 1) := by decide +kernel
theorem d_M_define_102 : decode b_M_define 102 = .ok (.aload_n 0, 1) := by decide +kernel
theorem d_M_define_103 : decode b_M_define 103 = .ok (.getfield 20, 3) := by decide +kernel
theorem d_M_define_106 : decode b_M_define 106 = .ok (.iload_n 1, 1) := by decide +kernel
theorem d_M_define_107 : decode b_M_define 107 = .ok (.lload 4, 2) := by decide +kernel
theorem d_M_define_109 : decode b_M_define 109 = .ok (.lastore, 1) := by decide +kernel
theorem d_M_define_110 : decode b_M_define 110 = .ok (.iconst 0, 1) := by decide +kernel
theorem d_M_define_111 : decode b_M_define 111 = .ok (.ireturn, 1) := by decide +kernel
theorem d_M_out_0 : decode b_M_out 0 = .ok (.iload_n 1, 1) := by decide +kernel
theorem d_M_out_1 : decode b_M_out 1 = .ok (.ifCond .lt 8, 3) := by decide +kernel
theorem d_M_out_4 : decode b_M_out 4 = .ok (.iload_n 1, 1) := by decide +kernel
theorem d_M_out_5 : decode b_M_out 5 = .ok (.iload_n 2, 1) := by decide +kernel
theorem d_M_out_6 : decode b_M_out 6 = .ok (.if_icmp .lt 7, 3) := by decide +kernel
theorem d_M_out_9 : decode b_M_out 9 = .ok (.iconst 1, 1) := by decide +kernel
theorem d_M_out_10 : decode b_M_out 10 = .ok (.goto 4, 3) := by decide +kernel
theorem d_M_out_13 : decode b_M_out 13 = .ok (.iconst 0, 1) := by decide +kernel
theorem d_M_out_14 : decode b_M_out 14 = .ok (.ireturn, 1) := by decide +kernel
theorem d_M_noClass_0 : decode b_M_noClass 0 = .ok (.aload_n 0, 1) := by decide +kernel
theorem d_M_noClass_1 : decode b_M_noClass 1 = .ok (.iload_n 1, 1) := by decide +kernel
theorem d_M_noClass_2 : decode b_M_noClass 2 = .ok (.bipush 6, 2) := by decide +kernel
theorem d_M_noClass_4 : decode b_M_noClass 4 = .ok (.invokevirtual 92, 3) := by decide +kernel
theorem d_M_noClass_7 : decode b_M_noClass 7 = .ok (.ifCond .ne 12, 3) := by decide +kernel
theorem d_M_noClass_10 : decode b_M_noClass 10 = .ok (.aload_n 0, 1) := by decide +kernel
theorem d_M_noClass_11 : decode b_M_noClass 11 = .ok (.getfield 7, 3) := by decide +kernel
theorem d_M_noClass_14 : decode b_M_noClass 14 = .ok (.iload_n 1, 1) := by decide +kernel
theorem d_M_noClass_15 : decode b_M_noClass 15 = .ok (.baload, 1) := by decide +kernel
theorem d_M_noClass_16 : decode b_M_noClass 16 = .ok (.ifCond .ne 7, 3) := by decide +kernel
theorem d_M_noClass_19 : decode b_M_noClass 19 = .ok (.iconst 1, 1) := by decide +kernel
theorem d_M_noClass_20 : decode b_M_noClass 20 = .ok (.goto 4, 3) := by decide +kernel
theorem d_M_noClass_23 : decode b_M_noClass 23 = .ok (.iconst 0, 1) := by decide +kernel
theorem d_M_noClass_24 : decode b_M_noClass 24 = .ok (.ireturn, 1) := by decide +kernel
theorem d_M_field_0 : decode b_M_field 0 = .ok (.aload_n 0, 1) := by decide +kernel
theorem d_M_field_1 : decode b_M_field 1 = .ok (.iload_n 1, 1) := by decide +kernel
theorem d_M_field_2 : decode b_M_field 2 = .ok (.invokevirtual 111, 3) := by decide +kernel
theorem d_M_field_5 : decode b_M_field 5 = .ok (.ifCond .ne 33, 3) := by decide +kernel
theorem d_M_field_8 : decode b_M_field 8 = .ok (.aload_n 0, 1) := by decide +kernel
theorem d_M_field_9 : decode b_M_field 9 = .ok (.iload_n 2, 1) := by decide +kernel
theorem d_M_field_10 : decode b_M_field 10 = .ok (.bipush 26, 2) := by decide +kernel
theorem d_M_field_12 : decode b_M_field 12 = .ok (.invokevirtual 92, 3) := by decide +kernel
theorem d_M_field_15 : decode b_M_field 15 = .ok (.ifCond .ne 23, 3) := by decide +kernel
theorem d_M_field_18 : decode b_M_field 18 = .ok (.aload_n 0, 1) := by decide +kernel
theorem d_M_field_19 : decode b_M_field 19 = .ok (.iload_n 3, 1) := by decide +kernel
theorem d_M_field_20 : decode b_M_field 20 = .ok (.bipush 8, 2) := by decide +kernel
theorem d_M_field_22 : decode b_M_field 22 = .ok (.invokevirtual 92, 3) := by decide +kernel
theorem d_M_field_25 : decode b_M_field 25 = .ok (.ifCond .ne 13, 3) := by decide +kernel
theorem d_M_field_28 : decode b_M_field 28 = .ok (.aload_n 0, 1) := by decide +kernel
theorem d_M_field_29 : decode b_M_field 29 = .ok (.getfield 13, 3) := by decide +kernel
theorem d_M_field_32 : decode b_M_field 32 = .ok (.iload_n 1, 1) := by decide +kernel
theorem d_M_field_33 : decode b_M_field 33 = .ok (.iaload, 1) := by decide +kernel
theorem d_M_field_34 : decode b_M_field 34 = .ok (.iconst 3, 1) := by decide +kernel
theorem d_M_field_35 : decode b_M_field 35 = .ok (.if_icmp .ne 5, 3) := by decide +kernel
theorem d_M_field_38 : decode b_M_field 38 = .ok (.iconst (-1), 1) := by decide +kernel
theorem d_M_field_39 : decode b_M_field 39 = .ok (.ireturn, 1) := by decide +kernel
theorem d_M_field_40 : decode b_M_field 40 = .ok (.iconst 0, 1) := by decide +kernel
theorem d_M_field_41 : decode b_M_field 41 = .ok (.istore 5, 2) := by decide +kernel
theorem d_M_field_43 : decode b_M_field 43 = .ok (.iload 5, 2) := by decide +kernel
theorem d_M_field_45 : decode b_M_field 45 = .ok (.aload_n 0, 1) := by decide +kernel
theorem d_M_field_46 : decode b_M_field 46 = .ok (.getfield 115, 3) := by decide +kernel
theorem d_M_field_49 : decode b_M_field 49 = .ok (.if_icmp .ge 36, 3) := by decide +kernel
theorem d_M_field_52 : decode b_M_field 52 = .ok (.aload_n 0, 1) := by decide +kernel
theorem d_M_field_53 : decode b_M_field 53 = .ok (.getfield 36, 3) := by decide +kernel
theorem d_M_field_56 : decode b_M_field 56 = .ok (.iload 5, 2) := by decide +kernel
theorem d_M_field_58 : decode b_M_field 58 = .ok (.iaload, 1) := by decide +kernel
theorem d_M_field_59 : decode b_M_field 59 = .ok (.ifCond .ne 20, 3) := by decide +kernel
theorem d_M_field_62 : decode b_M_field 62 = .ok (.aload_n 0, 1) := by decide +kernel
theorem d_M_field_63 : decode b_M_field 63 = .ok (.aload_n 0, 1) := by decide +kernel
theorem d_M_field_64 : decode b_M_field 64 = .ok (.getfield 39, 3) := by decide +kernel
theorem d_M_field_67 : decode b_M_field 67 = .ok (.iload 5, 2) := by decide +kernel
theorem d_M_field_69 : decode b_M_field 69 = .ok (.iaload, 1) := by decide +kernel
theorem d_M_field_70 : decode b_M_field 70 = .ok (.iload_n 1, 1) := by decide +kernel
theorem d_M_field_71 : decode b_M_field 71 = .ok (.invokevirtual 118, 3) := by decide +kernel
theorem d_M_field_74 : decode b_M_field 74 = .ok (.ifCond .eq 5, 3) := by decide +kernel
theorem d_M_field_77 : decode b_M_field 77 = .ok (.iconst (-1), 1) := by decide +kernel
theorem d_M_field_78 : decode b_M_field 78 = .ok (.ireturn, 1) := by decide +kernel
theorem d_M_field_79 : decode b_M_field 79 = .ok (.iinc 5 1, 3) := by decide +kernel
theorem d_M_field_82 : decode b_M_field 82 = .ok (.goto (-39), 3) := by decide +kernel
theorem d_M_field_85 : decode b_M_field 85 = .ok (.iconst 0, 1) := by decide +kernel
theorem d_M_field_86 : decode b_M_field 86 = .ok (.istore 5, 2) := by decide +kernel
theorem d_M_field_88 : decode b_M_field 88 = .ok (.iload 5, 2) := by decide +kernel
theorem d_M_field_90 : decode b_M_field 90 = .ok (.aload_n 0, 1) := by decide +kernel
theorem d_M_field_91 : decode b_M_field 91 = .ok (.getfield 24, 3) := by decide +kernel
theorem d_M_field_94 : decode b_M_field 94 = .ok (.iload_n 1, 1) := by decide +kernel
theorem d_M_field_95 : decode b_M_field 95 = .ok (.iaload, 1) := by decide +kernel
theorem d_M_field_96 : decode b_M_field 96 = .ok (.if_icmp .ge 26, 3) := by decide +kernel
theorem d_M_field_99 : decode b_M_field 99 = .ok (.aload_n 0, 1) := by decide +kernel
theorem d_M_field_100 : decode b_M_field 100 = .ok (.getfield 27, 3) := by decide +kernel
theorem d_M_field_103 : decode b_M_field 103 = .ok (.iconst 4, 1) := by decide +kernel
theorem d_M_field_104 : decode b_M_field 104 = .ok (.iload_n 1, 1) := by decide +kernel
theorem d_M_field_105 : decode b_M_field 105 = .ok (.imul, 1) := by decide +kernel
theorem d_M_field_106 : decode b_M_field 106 = .ok (.iload 5, 2) := by decide +kernel
theorem d_M_field_108 : decode b_M_field 108 = .ok (.iadd, 1) := by decide +kernel
theorem d_M_field_109 : decode b_M_field 109 = .ok (.iaload, 1) := by decide +kernel
theorem d_M_field_110 : decode b_M_field 110 = .ok (.iload_n 2, 1) := by decide +kernel
theorem d_M_field_111 : decode b_M_field 111 = .ok (.if_icmp .ne 5, 3) := by decide +kernel
theorem d_M_field_114 : decode b_M_field 114 = .ok (.iconst (-1), 1) := by decide +kernel
theorem d_M_field_115 : decode b_M_field 115 = .ok (.ireturn, 1) := by decide +kernel
theorem d_M_field_116 : decode b_M_field 116 = .ok (.iinc 5 1, 3) := by decide +kernel
theorem d_M_field_119 : decode b_M_field 119 = .ok (.goto (-31), 3) := by decide +kernel
theorem d_M_field_122 : decode b_M_field 122 = .ok (.aload_n 0, 1) := by decide +kernel
theorem d_M_field_123 : decode b_M_field 123 = .ok (.getfield 24, 3) := by decide +kernel
theorem d_M_field_126 : decode b_M_field 126 = .ok (.iload_n 1, 1) := by decide +kernel
theorem d_M_field_127 : decode b_M_field 127 = .ok (.iaload, 1) := by decide +kernel
theorem d_M_field_128 : decode b_M_field 128 = .ok (.iconst 4, 1) := by decide +kernel
theorem d_M_field_129 : decode b_M_field 129 = .ok (.if_icmp .ne 5, 3) := by decide +kernel
theorem d_M_field_132 : decode b_M_field 132 = .ok (.iconst (-1), 1) := by decide +kernel
theorem d_M_field_133 : decode b_M_field 133 = .ok (.ireturn, 1) := by decide +kernel
theorem d_M_field_134 : decode b_M_field 134 = .ok (.iconst 4, 1) := by decide +kernel
theorem d_M_field_135 : decode b_M_field 135 = .ok (.iload_n 1, 1) := by decide +kernel
theorem d_M_field_136 : decode b_M_field 136 = .ok (.imul, 1) := by decide +kernel
theorem d_M_field_137 : decode b_M_field 137 = .ok (.aload_n 0, 1) := by decide +kernel
theorem d_M_field_138 : decode b_M_field 138 = .ok (.getfield 24, 3) := by decide +kernel
theorem d_M_field_141 : decode b_M_field 141 = .ok (.iload_n 1, 1) := by decide +kernel
theorem d_M_field_142 : decode b_M_field 142 = .ok (.iaload, 1) := by decide +kernel
theorem d_M_field_143 : decode b_M_field 143 = .ok (.iadd, 1) := by decide +kernel
theorem d_M_field_144 : decode b_M_field 144 = .ok (.istore 5, 2) := by decide +kernel
theorem d_M_field_146 : decode b_M_field 146 = .ok (.aload_n 0, 1) := by decide +kernel
theorem d_M_field_147 : decode b_M_field 147 = .ok (.getfield 27, 3) := by decide +kernel
theorem d_M_field_150 : decode b_M_field 150 = .ok (.iload 5, 2) := by decide +kernel
theorem d_M_field_152 : decode b_M_field 152 = .ok (.iload_n 2, 1) := by decide +kernel
theorem d_M_field_153 : decode b_M_field 153 = .ok (.iastore, 1) := by decide +kernel
theorem d_M_field_154 : decode b_M_field 154 = .ok (.aload_n 0, 1) := by decide +kernel
theorem d_M_field_155 : decode b_M_field 155 = .ok (.getfield 30, 3) := by decide +kernel
theorem d_M_field_158 : decode b_M_field 158 = .ok (.iload 5, 2) := by decide +kernel
theorem d_M_field_160 : decode b_M_field 160 = .ok (.iload_n 3, 1) := by decide +kernel
theorem d_M_field_161 : decode b_M_field 161 = .ok (.iastore, 1) := by decide +kernel
theorem d_M_field_162 : decode b_M_field 162 = .ok (.aload_n 0, 1) := by decide +kernel
theorem d_M_field_163 : decode b_M_field 163 = .ok (.getfield 33, 3) := by decide +kernel
theorem d_M_field_166 : decode b_M_field 166 = .ok (.iload 5, 2) := by decide +kernel
theorem d_M_field_168 : decode b_M_field 168 = .ok (.iload 4, 2) := by decide +kernel
theorem d_M_field_170 : decode b_M_field 170 = .ok (.bastore, 1) := by decide +kernel
theorem d_M_field_171 : decode b_M_field 171 = .ok (.aload_n 0, 1) := by decide +kernel
theorem d_M_field_172 : decode b_M_field 172 = .ok (.getfield 24, 3) := by decide +kernel
theorem d_M_field_175 : decode b_M_field 175 = .ok (.iload_n 1, 1) := by decide +kernel
theorem d_M_field_176 : decode b_M_field 176 = .ok (.dup2, 1) := by decide +kernel
theorem d_M_field_177 : decode b_M_field 177 = .ok (.iaload, 1) := by decide +kernel
theorem d_M_field_178 : decode b_M_field 178 = .ok (.iconst 1, 1) := by decide +kernel
theorem d_M_field_179 : decode b_M_field 179 = .ok (.iadd, 1) := by decide +kernel
theorem d_M_field_180 : decode b_M_field 180 = .ok (.iastore, 1) := by decide +kernel
theorem d_M_field_181 : decode b_M_field 181 = .ok (.aload_n 0, 1) := by decide +kernel
theorem d_M_field_182 : decode b_M_field 182 = .ok (.getfield 24, 3) := by decide +kernel
theorem d_M_field_185 : decode b_M_field 185 = .ok (.iload_n 1, 1) := by decide +kernel
theorem d_M_field_186 : decode b_M_field 186 = .ok (.iaload, 1) := by decide +kernel
theorem d_M_field_187 : decode b_M_field 187 = .ok (.ireturn, 1) := by decide +kernel
theorem d_M_below_0 : decode b_M_below 0 = .ok (.iload_n 1, 1) := by decide +kernel
theorem d_M_below_1 : decode b_M_below 1 = .ok (.istore_n 3, 1) := by decide +kernel
theorem d_M_below_2 : decode b_M_below 2 = .ok (.iconst 0, 1) := by decide +kernel
theorem d_M_below_3 : decode b_M_below 3 = .ok (.istore 4, 2) := by decide +kernel
theorem d_M_below_5 : decode b_M_below 5 = .ok (.iload 4, 2) := by decide +kernel
theorem d_M_below_7 : decode b_M_below 7 = .ok (.bipush 6, 2) := by decide +kernel
theorem d_M_below_9 : decode b_M_below 9 = .ok (.if_icmp .ge 25, 3) := by decide +kernel
theorem d_M_below_12 : decode b_M_below 12 = .ok (.iload_n 3, 1) := by decide +kernel
theorem d_M_below_13 : decode b_M_below 13 = .ok (.ifCond .lt 21, 3) := by decide +kernel
theorem d_M_below_16 : decode b_M_below 16 = .ok (.iload_n 3, 1) := by decide +kernel
theorem d_M_below_17 : decode b_M_below 17 = .ok (.iload_n 2, 1) := by decide +kernel
theorem d_M_below_18 : decode b_M_below 18 = .ok (.if_icmp .eq 16, 3) := by decide +kernel
theorem d_M_below_21 : decode b_M_below 21 = .ok (.aload_n 0, 1) := by decide +kernel
theorem d_M_below_22 : decode b_M_below 22 = .ok (.getfield 17, 3) := by decide +kernel
theorem d_M_below_25 : decode b_M_below 25 = .ok (.iload_n 3, 1) := by decide +kernel
theorem d_M_below_26 : decode b_M_below 26 = .ok (.iaload, 1) := by decide +kernel
theorem d_M_below_27 : decode b_M_below 27 = .ok (.istore_n 3, 1) := by decide +kernel
theorem d_M_below_28 : decode b_M_below 28 = .ok (.iinc 4 1, 3) := by decide +kernel
theorem d_M_below_31 : decode b_M_below 31 = .ok (.goto (-26), 3) := by decide +kernel
theorem d_M_below_34 : decode b_M_below 34 = .ok (.iload_n 3, 1) := by decide +kernel
theorem d_M_below_35 : decode b_M_below 35 = .ok (.iload_n 2, 1) := by decide +kernel
theorem d_M_below_36 : decode b_M_below 36 = .ok (.if_icmp .ne 7, 3) := by decide +kernel
theorem d_M_below_39 : decode b_M_below 39 = .ok (.iconst 1, 1) := by decide +kernel
theorem d_M_below_40 : decode b_M_below 40 = .ok (.goto 4, 3) := by decide +kernel
theorem d_M_below_43 : decode b_M_below 43 = .ok (.iconst 0, 1) := by decide +kernel
theorem d_M_below_44 : decode b_M_below 44 = .ok (.ireturn, 1) := by decide +kernel
theorem d_M_instance_0 : decode b_M_instance 0 = .ok (.aload_n 0, 1) := by decide +kernel
theorem d_M_instance_1 : decode b_M_instance 1 = .ok (.iload_n 1, 1) := by decide +kernel
theorem d_M_instance_2 : decode b_M_instance 2 = .ok (.invokevirtual 111, 3) := by decide +kernel
theorem d_M_instance_5 : decode b_M_instance 5 = .ok (.ifCond .ne 13, 3) := by decide +kernel
theorem d_M_instance_8 : decode b_M_instance 8 = .ok (.aload_n 0, 1) := by decide +kernel
theorem d_M_instance_9 : decode b_M_instance 9 = .ok (.getfield 13, 3) := by decide +kernel
theorem d_M_instance_12 : decode b_M_instance 12 = .ok (.iload_n 1, 1) := by decide +kernel
theorem d_M_instance_13 : decode b_M_instance 13 = .ok (.iaload, 1) := by decide +kernel
theorem d_M_instance_14 : decode b_M_instance 14 = .ok (.iconst 3, 1) := by decide +kernel
theorem d_M_instance_15 : decode b_M_instance 15 = .ok (.if_icmp .ne 5, 3) := by decide +kernel
theorem d_M_instance_18 : decode b_M_instance 18 = .ok (.iconst (-1), 1) := by decide +kernel
theorem d_M_instance_19 : decode b_M_instance 19 = .ok (.ireturn, 1) := by decide +kernel
theorem d_M_instance_20 : decode b_M_instance 20 = .ok (.aload_n 0, 1) := by decide +kernel
theorem d_M_instance_21 : decode b_M_instance 21 = .ok (.iconst 0, 1) := by decide +kernel
theorem d_M_instance_22 : decode b_M_instance 22 = .ok (.aload_n 0, 1) := by decide +kernel
theorem d_M_instance_23 : decode b_M_instance 23 = .ok (.iload_n 1, 1) := by decide +kernel
theorem d_M_instance_24 : decode b_M_instance 24 = .ok (.invokevirtual 121, 3) := by decide +kernel
theorem d_M_instance_27 : decode b_M_instance 27 = .ok (.aload_n 0, 1) := by decide +kernel
theorem d_M_instance_28 : decode b_M_instance 28 = .ok (.getfield 24, 3) := by decide +kernel
theorem d_M_instance_31 : decode b_M_instance 31 = .ok (.iload_n 1, 1) := by decide +kernel
theorem d_M_instance_32 : decode b_M_instance 32 = .ok (.iaload, 1) := by decide +kernel
theorem d_M_instance_33 : decode b_M_instance 33 = .ok (.iadd, 1) := by decide +kernel
theorem d_M_instance_34 : decode b_M_instance 34 = .ok (.invokevirtual 129, 3) := by decide +kernel
theorem d_M_instance_37 : decode b_M_instance 37 = .ok (.istore_n 2, 1) := by decide +kernel
theorem d_M_instance_38 : decode b_M_instance 38 = .ok (.iload_n 2, 1) := by decide +kernel
theorem d_M_instance_39 : decode b_M_instance 39 = .ok (.ifCond .ge 6, 3) := by decide +kernel
theorem d_M_instance_42 : decode b_M_instance 42 = .ok (.bipush (-2), 2) := by decide +kernel
theorem d_M_instance_44 : decode b_M_instance 44 = .ok (.ireturn, 1) := by decide +kernel
theorem d_M_instance_45 : decode b_M_instance 45 = .ok (.aload_n 0, 1) := by decide +kernel
theorem d_M_instance_46 : decode b_M_instance 46 = .ok (.getfield 39, 3) := by decide +kernel
theorem d_M_instance_49 : decode b_M_instance 49 = .ok (.iload_n 2, 1) := by decide +kernel
theorem d_M_instance_50 : decode b_M_instance 50 = .ok (.iload_n 1, 1) := by decide +kernel
theorem d_M_instance_51 : decode b_M_instance 51 = .ok (.iastore, 1) := by decide +kernel
theorem d_M_instance_52 : decode b_M_instance 52 = .ok (.iconst 0, 1) := by decide +kernel
theorem d_M_instance_53 : decode b_M_instance 53 = .ok (.istore_n 3, 1) := by decide +kernel
theorem d_M_instance_54 : decode b_M_instance 54 = .ok (.iload_n 3, 1) := by decide +kernel
theorem d_M_instance_55 : decode b_M_instance 55 = .ok (.aload_n 0, 1) := by decide +kernel
theorem d_M_instance_56 : decode b_M_instance 56 = .ok (.getfield 45, 3) := by decide +kernel
theorem d_M_instance_59 : decode b_M_instance 59 = .ok (.iload_n 2, 1) := by decide +kernel
theorem d_M_instance_60 : decode b_M_instance 60 = .ok (.iaload, 1) := by decide +kernel
theorem d_M_instance_61 : decode b_M_instance 61 = .ok (.if_icmp .ge 33, 3) := by decide +kernel
theorem d_M_instance_64 : decode b_M_instance 64 = .ok (.aload_n 0, 1) := by decide +kernel
theorem d_M_instance_65 : decode b_M_instance 65 = .ok (.iload_n 2, 1) := by decide +kernel
theorem d_M_instance_66 : decode b_M_instance 66 = .ok (.iload_n 3, 1) := by decide +kernel
theorem d_M_instance_67 : decode b_M_instance 67 = .ok (.invokevirtual 132, 3) := by decide +kernel
theorem d_M_instance_70 : decode b_M_instance 70 = .ok (.iconst 5, 1) := by decide +kernel
theorem d_M_instance_71 : decode b_M_instance 71 = .ok (.if_icmp .le 17, 3) := by decide +kernel
theorem d_M_instance_74 : decode b_M_instance 74 = .ok (.aload_n 0, 1) := by decide +kernel
theorem d_M_instance_75 : decode b_M_instance 75 = .ok (.getfield 48, 3) := by decide +kernel
theorem d_M_instance_78 : decode b_M_instance 78 = .ok (.bipush 24, 2) := by decide +kernel
theorem d_M_instance_80 : decode b_M_instance 80 = .ok (.iload_n 2, 1) := by decide +kernel
theorem d_M_instance_81 : decode b_M_instance 81 = .ok (.imul, 1) := by decide +kernel
theorem d_M_instance_82 : decode b_M_instance 82 = .ok (.iload_n 3, 1) := by decide +kernel
theorem d_M_instance_83 : decode b_M_instance 83 = .ok (.iadd, 1) := by decide +kernel
theorem d_M_instance_84 : decode b_M_instance 84 = .ok (.ldc2_w 135, 3) := by decide +kernel
theorem d_M_instance_87 : decode b_M_instance 87 = .ok (.lastore, 1) := by decide +kernel
theorem d_M_instance_88 : decode b_M_instance 88 = .ok (.iinc 3 1, 3) := by decide +kernel
theorem d_M_instance_91 : decode b_M_instance 91 = .ok (.goto (-37), 3) := by decide +kernel
theorem d_M_instance_94 : decode b_M_instance 94 = .ok (.iload_n 2, 1) := by decide +kernel
theorem d_M_instance_95 : decode b_M_instance 95 = .ok (.ireturn, 1) := by decide +kernel
theorem d_M_firstSlot_0 : decode b_M_firstSlot 0 = .ok (.iconst 0, 1) := by decide +kernel
theorem d_M_firstSlot_1 : decode b_M_firstSlot 1 = .ok (.istore_n 2, 1) := by decide +kernel
theorem d_M_firstSlot_2 : decode b_M_firstSlot 2 = .ok (.aload_n 0, 1) := by decide +kernel
theorem d_M_firstSlot_3 : decode b_M_firstSlot 3 = .ok (.getfield 17, 3) := by decide +kernel
theorem d_M_firstSlot_6 : decode b_M_firstSlot 6 = .ok (.iload_n 1, 1) := by decide +kernel
theorem d_M_firstSlot_7 : decode b_M_firstSlot 7 = .ok (.iaload, 1) := by decide +kernel
theorem d_M_firstSlot_8 : decode b_M_firstSlot 8 = .ok (.istore_n 3, 1) := by decide +kernel
theorem d_M_firstSlot_9 : decode b_M_firstSlot 9 = .ok (.iconst 0, 1) := by decide +kernel
theorem d_M_firstSlot_10 : decode b_M_firstSlot 10 = .ok (.istore 4, 2) := by decide +kernel
theorem d_M_firstSlot_12 : decode b_M_firstSlot 12 = .ok (.iload 4, 2) := by decide +kernel
theorem d_M_firstSlot_14 : decode b_M_firstSlot 14 = .ok (.bipush 6, 2) := by decide +kernel
theorem d_M_firstSlot_16 : decode b_M_firstSlot 16 = .ok (.if_icmp .ge 29, 3) := by decide +kernel
theorem d_M_firstSlot_19 : decode b_M_firstSlot 19 = .ok (.iload_n 3, 1) := by decide +kernel
theorem d_M_firstSlot_20 : decode b_M_firstSlot 20 = .ok (.ifCond .lt 25, 3) := by decide +kernel
theorem d_M_firstSlot_23 : decode b_M_firstSlot 23 = .ok (.iload_n 2, 1) := by decide +kernel
theorem d_M_firstSlot_24 : decode b_M_firstSlot 24 = .ok (.aload_n 0, 1) := by decide +kernel
theorem d_M_firstSlot_25 : decode b_M_firstSlot 25 = .ok (.getfield 24, 3) := by decide +kernel
theorem d_M_firstSlot_28 : decode b_M_firstSlot 28 = .ok (.iload_n 3, 1) := by decide +kernel
theorem d_M_firstSlot_29 : decode b_M_firstSlot 29 = .ok (.iaload, 1) := by decide +kernel
theorem d_M_firstSlot_30 : decode b_M_firstSlot 30 = .ok (.iadd, 1) := by decide +kernel
theorem d_M_firstSlot_31 : decode b_M_firstSlot 31 = .ok (.istore_n 2, 1) := by decide +kernel
theorem d_M_firstSlot_32 : decode b_M_firstSlot 32 = .ok (.aload_n 0, 1) := by decide +kernel
theorem d_M_firstSlot_33 : decode b_M_firstSlot 33 = .ok (.getfield 17, 3) := by decide +kernel
theorem d_M_firstSlot_36 : decode b_M_firstSlot 36 = .ok (.iload_n 3, 1) := by decide +kernel
theorem d_M_firstSlot_37 : decode b_M_firstSlot 37 = .ok (.iaload, 1) := by decide +kernel
theorem d_M_firstSlot_38 : decode b_M_firstSlot 38 = .ok (.istore_n 3, 1) := by decide +kernel
theorem d_M_firstSlot_39 : decode b_M_firstSlot 39 = .ok (.iinc 4 1, 3) := by decide +kernel
theorem d_M_firstSlot_42 : decode b_M_firstSlot 42 = .ok (.goto (-30), 3) := by decide +kernel
theorem d_M_firstSlot_45 : decode b_M_firstSlot 45 = .ok (.iload_n 2, 1) := by decide +kernel
theorem d_M_firstSlot_46 : decode b_M_firstSlot 46 = .ok (.ireturn, 1) := by decide +kernel
theorem d_M_begin_0 : decode b_M_begin 0 = .ok (.aload_n 0, 1) := by decide +kernel
theorem d_M_begin_1 : decode b_M_begin 1 = .ok (.getfield 115, 3) := by decide +kernel
theorem d_M_begin_4 : decode b_M_begin 4 = .ok (.bipush 12, 2) := by decide +kernel
theorem d_M_begin_6 : decode b_M_begin 6 = .ok (.if_icmp .ne 6, 3) := by decide +kernel
theorem d_M_begin_9 : decode b_M_begin 9 = .ok (.bipush (-2), 2) := by decide +kernel
theorem d_M_begin_11 : decode b_M_begin 11 = .ok (.ireturn, 1) := by decide +kernel
theorem d_M_begin_12 : decode b_M_begin 12 = .ok (.aload_n 0, 1) := by decide +kernel
theorem d_M_begin_13 : decode b_M_begin 13 = .ok (.getfield 36, 3) := by decide +kernel
theorem d_M_begin_16 : decode b_M_begin 16 = .ok (.aload_n 0, 1) := by decide +kernel
theorem d_M_begin_17 : decode b_M_begin 17 = .ok (.getfield 115, 3) := by decide +kernel
theorem d_M_begin_20 : decode b_M_begin 20 = .ok (.iload_n 1, 1) := by decide +kernel
theorem d_M_begin_21 : decode b_M_begin 21 = .ok (.iastore, 1) := by decide +kernel
theorem d_M_begin_22 : decode b_M_begin 22 = .ok (.aload_n 0, 1) := by decide +kernel
theorem d_M_begin_23 : decode b_M_begin 23 = .ok (.getfield 45, 3) := by decide +kernel
theorem d_M_begin_26 : decode b_M_begin 26 = .ok (.aload_n 0, 1) := by decide +kernel
theorem d_M_begin_27 : decode b_M_begin 27 = .ok (.getfield 115, 3) := by decide +kernel
theorem d_M_begin_30 : decode b_M_begin 30 = .ok (.iload_n 2, 1) := by decide +kernel
theorem d_M_begin_31 : decode b_M_begin 31 = .ok (.iastore, 1) := by decide +kernel
theorem d_M_begin_32 : decode b_M_begin 32 = .ok (.aload_n 0, 1) := by decide +kernel
theorem d_M_begin_33 : decode b_M_begin 33 = .ok (.getfield 51, 3) := by decide +kernel
theorem d_M_begin_36 : decode b_M_begin 36 = .ok (.aload_n 0, 1) := by decide +kernel
theorem d_M_begin_37 : decode b_M_begin 37 = .ok (.getfield 115, 3) := by decide +kernel
theorem d_M_begin_40 : decode b_M_begin 40 = .ok (.iconst (-1), 1) := by decide +kernel
theorem d_M_begin_41 : decode b_M_begin 41 = .ok (.iastore, 1) := by decide +kernel
theorem d_M_begin_42 : decode b_M_begin 42 = .ok (.aload_n 0, 1) := by decide +kernel
theorem d_M_begin_43 : decode b_M_begin 43 = .ok (.getfield 54, 3) := by decide +kernel
theorem d_M_begin_46 : decode b_M_begin 46 = .ok (.aload_n 0, 1) := by decide +kernel
theorem d_M_begin_47 : decode b_M_begin 47 = .ok (.getfield 115, 3) := by decide +kernel
theorem d_M_begin_50 : decode b_M_begin 50 = .ok (.iconst 0, 1) := by decide +kernel
theorem d_M_begin_51 : decode b_M_begin 51 = .ok (.iastore, 1) := by decide +kernel
theorem d_M_begin_52 : decode b_M_begin 52 = .ok (.iconst 0, 1) := by decide +kernel
theorem d_M_begin_53 : decode b_M_begin 53 = .ok (.istore_n 3, 1) := by decide +kernel
theorem d_M_begin_54 : decode b_M_begin 54 = .ok (.iload_n 3, 1) := by decide +kernel
theorem d_M_begin_55 : decode b_M_begin 55 = .ok (.bipush 24, 2) := by decide +kernel
theorem d_M_begin_57 : decode b_M_begin 57 = .ok (.if_icmp .ge 24, 3) := by decide +kernel
theorem d_M_begin_60 : decode b_M_begin 60 = .ok (.aload_n 0, 1) := by decide +kernel
theorem d_M_begin_61 : decode b_M_begin 61 = .ok (.getfield 48, 3) := by decide +kernel
theorem d_M_begin_64 : decode b_M_begin 64 = .ok (.bipush 24, 2) := by decide +kernel
theorem d_M_begin_66 : decode b_M_begin 66 = .ok (.aload_n 0, 1) := by decide +kernel
theorem d_M_begin_67 : decode b_M_begin 67 = .ok (.getfield 115, 3) := by decide +kernel
theorem d_M_begin_70 : decode b_M_begin 70 = .ok (.imul, 1) := by decide +kernel
theorem d_M_begin_71 : decode b_M_begin 71 = .ok (.iload_n 3, 1) := by decide +kernel
theorem d_M_begin_72 : decode b_M_begin 72 = .ok (.iadd, 1) := by decide +kernel
theorem d_M_begin_73 : decode b_M_begin 73 = .ok (.lconst 0, 1) := by decide +kernel
theorem d_M_begin_74 : decode b_M_begin 74 = .ok (.lastore, 1) := by decide +kernel
theorem d_M_begin_75 : decode b_M_begin 75 = .ok (.iinc 3 1, 3) := by decide +kernel
theorem d_M_begin_78 : decode b_M_begin 78 = .ok (.goto (-24), 3) := by decide +kernel
theorem d_M_begin_81 : decode b_M_begin 81 = .ok (.aload_n 0, 1) := by decide +kernel
theorem d_M_begin_82 : decode b_M_begin 82 = .ok (.dup, 1) := by decide +kernel
theorem d_M_begin_83 : decode b_M_begin 83 = .ok (.getfield 115, 3) := by decide +kernel
theorem d_M_begin_86 : decode b_M_begin 86 = .ok (.iconst 1, 1) := by decide +kernel
theorem d_M_begin_87 : decode b_M_begin 87 = .ok (.iadd, 1) := by decide +kernel
theorem d_M_begin_88 : decode b_M_begin 88 = .ok (.putfield 115, 3) := by decide +kernel
theorem d_M_begin_91 : decode b_M_begin 91 = .ok (.aload_n 0, 1) := by decide +kernel
theorem d_M_begin_92 : decode b_M_begin 92 = .ok (.getfield 115, 3) := by decide +kernel
theorem d_M_begin_95 : decode b_M_begin 95 = .ok (.iconst 1, 1) := by decide +kernel
theorem d_M_begin_96 : decode b_M_begin 96 = .ok (.isub, 1) := by decide +kernel
theorem d_M_begin_97 : decode b_M_begin 97 = .ok (.ireturn, 1) := by decide +kernel
theorem d_M_slotType_0 : decode b_M_slotType 0 = .ok (.aload_n 0, 1) := by decide +kernel
theorem d_M_slotType_1 : decode b_M_slotType 1 = .ok (.aload_n 0, 1) := by decide +kernel
theorem d_M_slotType_2 : decode b_M_slotType 2 = .ok (.getfield 39, 3) := by decide +kernel
theorem d_M_slotType_5 : decode b_M_slotType 5 = .ok (.iload_n 1, 1) := by decide +kernel
theorem d_M_slotType_6 : decode b_M_slotType 6 = .ok (.iaload, 1) := by decide +kernel
theorem d_M_slotType_7 : decode b_M_slotType 7 = .ok (.iload_n 2, 1) := by decide +kernel
theorem d_M_slotType_8 : decode b_M_slotType 8 = .ok (.invokevirtual 125, 3) := by decide +kernel
theorem d_M_slotType_11 : decode b_M_slotType 11 = .ok (.istore_n 3, 1) := by decide +kernel
theorem d_M_slotType_12 : decode b_M_slotType 12 = .ok (.aload_n 0, 1) := by decide +kernel
theorem d_M_slotType_13 : decode b_M_slotType 13 = .ok (.getfield 30, 3) := by decide +kernel
theorem d_M_slotType_16 : decode b_M_slotType 16 = .ok (.iconst 4, 1) := by decide +kernel
theorem d_M_slotType_17 : decode b_M_slotType 17 = .ok (.iload_n 3, 1) := by decide +kernel
theorem d_M_slotType_18 : decode b_M_slotType 18 = .ok (.imul, 1) := by decide +kernel
theorem d_M_slotType_19 : decode b_M_slotType 19 = .ok (.iload_n 2, 1) := by decide +kernel
theorem d_M_slotType_20 : decode b_M_slotType 20 = .ok (.iadd, 1) := by decide +kernel
theorem d_M_slotType_21 : decode b_M_slotType 21 = .ok (.aload_n 0, 1) := by decide +kernel
theorem d_M_slotType_22 : decode b_M_slotType 22 = .ok (.iload_n 3, 1) := by decide +kernel
theorem d_M_slotType_23 : decode b_M_slotType 23 = .ok (.invokevirtual 121, 3) := by decide +kernel
theorem d_M_slotType_26 : decode b_M_slotType 26 = .ok (.isub, 1) := by decide +kernel
theorem d_M_slotType_27 : decode b_M_slotType 27 = .ok (.iaload, 1) := by decide +kernel
theorem d_M_slotType_28 : decode b_M_slotType 28 = .ok (.ireturn, 1) := by decide +kernel
theorem d_M_holder_0 : decode b_M_holder 0 = .ok (.iload_n 1, 1) := by decide +kernel
theorem d_M_holder_1 : decode b_M_holder 1 = .ok (.istore_n 3, 1) := by decide +kernel
theorem d_M_holder_2 : decode b_M_holder 2 = .ok (.iconst 0, 1) := by decide +kernel
theorem d_M_holder_3 : decode b_M_holder 3 = .ok (.istore 4, 2) := by decide +kernel
theorem d_M_holder_5 : decode b_M_holder 5 = .ok (.iload 4, 2) := by decide +kernel
end
section
theorem d_M_holder_7 : decode b_M_holder 7 = .ok (.bipush 6, 2) := by decide +kernel
theorem d_M_holder_9 : decode b_M_holder 9 = .ok (.if_icmp .ge 25, 3) := by decide +kernel
theorem d_M_holder_12 : decode b_M_holder 12 = .ok (.iload_n 2, 1) := by decide +kernel
theorem d_M_holder_13 : decode b_M_holder 13 = .ok (.aload_n 0, 1) := by decide +kernel
theorem d_M_holder_14 : decode b_M_holder 14 = .ok (.iload_n 3, 1) := by decide +kernel
theorem d_M_holder_15 : decode b_M_holder 15 = .ok (.invokevirtual 121, 3) := by decide +kernel
theorem d_M_holder_18 : decode b_M_holder 18 = .ok (.if_icmp .ge 16, 3) := by decide +kernel
theorem d_M_holder_21 : decode b_M_holder 21 = .ok (.aload_n 0, 1) := by decide +kernel
theorem d_M_holder_22 : decode b_M_holder 22 = .ok (.getfield 17, 3) := by decide +kernel
theorem d_M_holder_25 : decode b_M_holder 25 = .ok (.iload_n 3, 1) := by decide +kernel
theorem d_M_holder_26 : decode b_M_holder 26 = .ok (.iaload, 1) := by decide +kernel
theorem d_M_holder_27 : decode b_M_holder 27 = .ok (.istore_n 3, 1) := by decide +kernel
theorem d_M_holder_28 : decode b_M_holder 28 = .ok (.iinc 4 1, 3) := by decide +kernel
theorem d_M_holder_31 : decode b_M_holder 31 = .ok (.goto (-26), 3) := by decide +kernel
theorem d_M_holder_34 : decode b_M_holder 34 = .ok (.iload_n 3, 1) := by decide +kernel
theorem d_M_holder_35 : decode b_M_holder 35 = .ok (.ireturn, 1) := by decide +kernel
theorem d_M_text_0 : decode b_M_text 0 = .ok (.iconst 0, 1) := by decide +kernel
theorem d_M_text_1 : decode b_M_text 1 = .ok (.istore_n 3, 1) := by decide +kernel
theorem d_M_text_2 : decode b_M_text 2 = .ok (.bipush 7, 2) := by decide +kernel
theorem d_M_text_4 : decode b_M_text 4 = .ok (.istore 4, 2) := by decide +kernel
theorem d_M_text_6 : decode b_M_text 6 = .ok (.iload 4, 2) := by decide +kernel
theorem d_M_text_8 : decode b_M_text 8 = .ok (.ifCond .lt 40, 3) := by decide +kernel
theorem d_M_text_11 : decode b_M_text 11 = .ok (.lload_n 1, 1) := by decide +kernel
theorem d_M_text_12 : decode b_M_text 12 = .ok (.bipush 8, 2) := by decide +kernel
theorem d_M_text_14 : decode b_M_text 14 = .ok (.iload 4, 2) := by decide +kernel
theorem d_M_text_16 : decode b_M_text 16 = .ok (.imul, 1) := by decide +kernel
theorem d_M_text_17 : decode b_M_text 17 = .ok (.lshr, 1) := by decide +kernel
theorem d_M_text_18 : decode b_M_text 18 = .ok (.l2i, 1) := by decide +kernel
theorem d_M_text_19 : decode b_M_text 19 = .ok (.sipush 255, 3) := by decide +kernel
theorem d_M_text_22 : decode b_M_text 22 = .ok (.iand, 1) := by decide +kernel
theorem d_M_text_23 : decode b_M_text 23 = .ok (.istore 5, 2) := by decide +kernel
theorem d_M_text_25 : decode b_M_text 25 = .ok (.iload 5, 2) := by decide +kernel
theorem d_M_text_27 : decode b_M_text 27 = .ok (.bipush 127, 2) := by decide +kernel
theorem d_M_text_29 : decode b_M_text 29 = .ok (.if_icmp .le 5, 3) := by decide +kernel
theorem d_M_text_32 : decode b_M_text 32 = .ok (.iconst (-1), 1) := by decide +kernel
theorem d_M_text_33 : decode b_M_text 33 = .ok (.ireturn, 1) := by decide +kernel
theorem d_M_text_34 : decode b_M_text 34 = .ok (.iload 5, 2) := by decide +kernel
theorem d_M_text_36 : decode b_M_text 36 = .ok (.ifCond .le 6, 3) := by decide +kernel
theorem d_M_text_39 : decode b_M_text 39 = .ok (.iinc 3 1, 3) := by decide +kernel
theorem d_M_text_42 : decode b_M_text 42 = .ok (.iinc 4 (-1), 3) := by decide +kernel
theorem d_M_text_45 : decode b_M_text 45 = .ok (.goto (-39), 3) := by decide +kernel
theorem d_M_text_48 : decode b_M_text 48 = .ok (.aload_n 0, 1) := by decide +kernel
theorem d_M_text_49 : decode b_M_text 49 = .ok (.iconst 1, 1) := by decide +kernel
theorem d_M_text_50 : decode b_M_text 50 = .ok (.iload_n 3, 1) := by decide +kernel
theorem d_M_text_51 : decode b_M_text 51 = .ok (.invokevirtual 129, 3) := by decide +kernel
theorem d_M_text_54 : decode b_M_text 54 = .ok (.istore 4, 2) := by decide +kernel
theorem d_M_text_56 : decode b_M_text 56 = .ok (.iload 4, 2) := by decide +kernel
theorem d_M_text_58 : decode b_M_text 58 = .ok (.ifCond .ge 6, 3) := by decide +kernel
theorem d_M_text_61 : decode b_M_text 61 = .ok (.bipush (-2), 2) := by decide +kernel
theorem d_M_text_63 : decode b_M_text 63 = .ok (.ireturn, 1) := by decide +kernel
theorem d_M_text_64 : decode b_M_text 64 = .ok (.iconst 0, 1) := by decide +kernel
theorem d_M_text_65 : decode b_M_text 65 = .ok (.istore_n 3, 1) := by decide +kernel
theorem d_M_text_66 : decode b_M_text 66 = .ok (.bipush 7, 2) := by decide +kernel
theorem d_M_text_68 : decode b_M_text 68 = .ok (.istore 5, 2) := by decide +kernel
theorem d_M_text_70 : decode b_M_text 70 = .ok (.iload 5, 2) := by decide +kernel
theorem d_M_text_72 : decode b_M_text 72 = .ok (.ifCond .lt 46, 3) := by decide +kernel
theorem d_M_text_75 : decode b_M_text 75 = .ok (.lload_n 1, 1) := by decide +kernel
theorem d_M_text_76 : decode b_M_text 76 = .ok (.bipush 8, 2) := by decide +kernel
theorem d_M_text_78 : decode b_M_text 78 = .ok (.iload 5, 2) := by decide +kernel
theorem d_M_text_80 : decode b_M_text 80 = .ok (.imul, 1) := by decide +kernel
theorem d_M_text_81 : decode b_M_text 81 = .ok (.lshr, 1) := by decide +kernel
theorem d_M_text_82 : decode b_M_text 82 = .ok (.l2i, 1) := by decide +kernel
theorem d_M_text_83 : decode b_M_text 83 = .ok (.sipush 255, 3) := by decide +kernel
theorem d_M_text_86 : decode b_M_text 86 = .ok (.iand, 1) := by decide +kernel
theorem d_M_text_87 : decode b_M_text 87 = .ok (.istore 6, 2) := by decide +kernel
theorem d_M_text_89 : decode b_M_text 89 = .ok (.iload 6, 2) := by decide +kernel
theorem d_M_text_91 : decode b_M_text 91 = .ok (.ifCond .le 21, 3) := by decide +kernel
theorem d_M_text_94 : decode b_M_text 94 = .ok (.aload_n 0, 1) := by decide +kernel
theorem d_M_text_95 : decode b_M_text 95 = .ok (.getfield 48, 3) := by decide +kernel
theorem d_M_text_98 : decode b_M_text 98 = .ok (.bipush 24, 2) := by decide +kernel
theorem d_M_text_100 : decode b_M_text 100 = .ok (.iload 4, 2) := by decide +kernel
theorem d_M_text_102 : decode b_M_text 102 = .ok (.imul, 1) := by decide +kernel
theorem d_M_text_103 : decode b_M_text 103 = .ok (.iload_n 3, 1) := by decide +kernel
theorem d_M_text_104 : decode b_M_text 104 = .ok (.iadd, 1) := by decide +kernel
theorem d_M_text_105 : decode b_M_text 105 = .ok (.iload 6, 2) := by decide +kernel
theorem d_M_text_107 : decode b_M_text 107 = .ok (.i2l, 1) := by decide +kernel
theorem d_M_text_108 : decode b_M_text 108 = .ok (.lastore, 1) := by decide +kernel
theorem d_M_text_109 : decode b_M_text 109 = .ok (.iinc 3 1, 3) := by decide +kernel
theorem d_M_text_112 : decode b_M_text 112 = .ok (.iinc 5 (-1), 3) := by decide +kernel
theorem d_M_text_115 : decode b_M_text 115 = .ok (.goto (-45), 3) := by decide +kernel
theorem d_M_text_118 : decode b_M_text 118 = .ok (.iload 4, 2) := by decide +kernel
theorem d_M_text_120 : decode b_M_text 120 = .ok (.ireturn, 1) := by decide +kernel
theorem d_M_array_0 : decode b_M_array 0 = .ok (.iload_n 2, 1) := by decide +kernel
theorem d_M_array_1 : decode b_M_array 1 = .ok (.ifCond .lt 17, 3) := by decide +kernel
theorem d_M_array_4 : decode b_M_array 4 = .ok (.iload_n 2, 1) := by decide +kernel
theorem d_M_array_5 : decode b_M_array 5 = .ok (.iload_n 1, 1) := by decide +kernel
theorem d_M_array_6 : decode b_M_array 6 = .ok (.ifCond .eq 7, 3) := by decide +kernel
theorem d_M_array_9 : decode b_M_array 9 = .ok (.iconst 4, 1) := by decide +kernel
theorem d_M_array_10 : decode b_M_array 10 = .ok (.goto 5, 3) := by decide +kernel
theorem d_M_array_13 : decode b_M_array 13 = .ok (.bipush 6, 2) := by decide +kernel
theorem d_M_array_15 : decode b_M_array 15 = .ok (.if_icmp .le 5, 3) := by decide +kernel
theorem d_M_array_18 : decode b_M_array 18 = .ok (.iconst (-1), 1) := by decide +kernel
theorem d_M_array_19 : decode b_M_array 19 = .ok (.ireturn, 1) := by decide +kernel
theorem d_M_array_20 : decode b_M_array 20 = .ok (.aload_n 0, 1) := by decide +kernel
theorem d_M_array_21 : decode b_M_array 21 = .ok (.iload_n 1, 1) := by decide +kernel
theorem d_M_array_22 : decode b_M_array 22 = .ok (.ifCond .eq 7, 3) := by decide +kernel
theorem d_M_array_25 : decode b_M_array 25 = .ok (.iconst 3, 1) := by decide +kernel
theorem d_M_array_26 : decode b_M_array 26 = .ok (.goto 4, 3) := by decide +kernel
theorem d_M_array_29 : decode b_M_array 29 = .ok (.iconst 2, 1) := by decide +kernel
theorem d_M_array_30 : decode b_M_array 30 = .ok (.iload_n 2, 1) := by decide +kernel
theorem d_M_array_31 : decode b_M_array 31 = .ok (.invokevirtual 129, 3) := by decide +kernel
theorem d_M_array_34 : decode b_M_array 34 = .ok (.istore_n 3, 1) := by decide +kernel
theorem d_M_array_35 : decode b_M_array 35 = .ok (.iload_n 3, 1) := by decide +kernel
theorem d_M_array_36 : decode b_M_array 36 = .ok (.ifCond .ge 6, 3) := by decide +kernel
theorem d_M_array_39 : decode b_M_array 39 = .ok (.bipush (-2), 2) := by decide +kernel
theorem d_M_array_41 : decode b_M_array 41 = .ok (.ireturn, 1) := by decide +kernel
theorem d_M_array_42 : decode b_M_array 42 = .ok (.iconst 0, 1) := by decide +kernel
theorem d_M_array_43 : decode b_M_array 43 = .ok (.istore 4, 2) := by decide +kernel
theorem d_M_array_45 : decode b_M_array 45 = .ok (.iload_n 1, 1) := by decide +kernel
theorem d_M_array_46 : decode b_M_array 46 = .ok (.ifCond .eq 30, 3) := by decide +kernel
theorem d_M_array_49 : decode b_M_array 49 = .ok (.iload 4, 2) := by decide +kernel
theorem d_M_array_51 : decode b_M_array 51 = .ok (.iload_n 2, 1) := by decide +kernel
theorem d_M_array_52 : decode b_M_array 52 = .ok (.if_icmp .ge 24, 3) := by decide +kernel
theorem d_M_array_55 : decode b_M_array 55 = .ok (.aload_n 0, 1) := by decide +kernel
theorem d_M_array_56 : decode b_M_array 56 = .ok (.getfield 48, 3) := by decide +kernel
theorem d_M_array_59 : decode b_M_array 59 = .ok (.bipush 24, 2) := by decide +kernel
theorem d_M_array_61 : decode b_M_array 61 = .ok (.iload_n 3, 1) := by decide +kernel
theorem d_M_array_62 : decode b_M_array 62 = .ok (.imul, 1) := by decide +kernel
theorem d_M_array_63 : decode b_M_array 63 = .ok (.iload 4, 2) := by decide +kernel
theorem d_M_array_65 : decode b_M_array 65 = .ok (.iadd, 1) := by decide +kernel
theorem d_M_array_66 : decode b_M_array 66 = .ok (.ldc2_w 135, 3) := by decide +kernel
theorem d_M_array_69 : decode b_M_array 69 = .ok (.lastore, 1) := by decide +kernel
theorem d_M_array_70 : decode b_M_array 70 = .ok (.iinc 4 1, 3) := by decide +kernel
theorem d_M_array_73 : decode b_M_array 73 = .ok (.goto (-28), 3) := by decide +kernel
theorem d_M_array_76 : decode b_M_array 76 = .ok (.iload_n 3, 1) := by decide +kernel
theorem d_M_array_77 : decode b_M_array 77 = .ok (.ireturn, 1) := by decide +kernel
theorem d_M_constant_0 : decode b_M_constant 0 = .ok (.aload_n 0, 1) := by decide +kernel
theorem d_M_constant_1 : decode b_M_constant 1 = .ok (.iload_n 1, 1) := by decide +kernel
theorem d_M_constant_2 : decode b_M_constant 2 = .ok (.invokevirtual 111, 3) := by decide +kernel
theorem d_M_constant_5 : decode b_M_constant 5 = .ok (.ifCond .ne 23, 3) := by decide +kernel
theorem d_M_constant_8 : decode b_M_constant 8 = .ok (.aload_n 0, 1) := by decide +kernel
theorem d_M_constant_9 : decode b_M_constant 9 = .ok (.getfield 13, 3) := by decide +kernel
theorem d_M_constant_12 : decode b_M_constant 12 = .ok (.iload_n 1, 1) := by decide +kernel
theorem d_M_constant_13 : decode b_M_constant 13 = .ok (.iaload, 1) := by decide +kernel
theorem d_M_constant_14 : decode b_M_constant 14 = .ok (.iconst 3, 1) := by decide +kernel
theorem d_M_constant_15 : decode b_M_constant 15 = .ok (.if_icmp .ne 13, 3) := by decide +kernel
theorem d_M_constant_18 : decode b_M_constant 18 = .ok (.aload_n 0, 1) := by decide +kernel
theorem d_M_constant_19 : decode b_M_constant 19 = .ok (.iload_n 2, 1) := by decide +kernel
theorem d_M_constant_20 : decode b_M_constant 20 = .ok (.bipush 26, 2) := by decide +kernel
theorem d_M_constant_22 : decode b_M_constant 22 = .ok (.invokevirtual 92, 3) := by decide +kernel
theorem d_M_constant_25 : decode b_M_constant 25 = .ok (.ifCond .eq 5, 3) := by decide +kernel
theorem d_M_constant_28 : decode b_M_constant 28 = .ok (.iconst (-1), 1) := by decide +kernel
theorem d_M_constant_29 : decode b_M_constant 29 = .ok (.ireturn, 1) := by decide +kernel
theorem d_M_constant_30 : decode b_M_constant 30 = .ok (.aload_n 0, 1) := by decide +kernel
theorem d_M_constant_31 : decode b_M_constant 31 = .ok (.iconst 4, 1) := by decide +kernel
theorem d_M_constant_32 : decode b_M_constant 32 = .ok (.iconst 0, 1) := by decide +kernel
theorem d_M_constant_33 : decode b_M_constant 33 = .ok (.invokevirtual 129, 3) := by decide +kernel
theorem d_M_constant_36 : decode b_M_constant 36 = .ok (.istore_n 3, 1) := by decide +kernel
theorem d_M_constant_37 : decode b_M_constant 37 = .ok (.iload_n 3, 1) := by decide +kernel
theorem d_M_constant_38 : decode b_M_constant 38 = .ok (.ifCond .ge 6, 3) := by decide +kernel
theorem d_M_constant_41 : decode b_M_constant 41 = .ok (.bipush (-2), 2) := by decide +kernel
theorem d_M_constant_43 : decode b_M_constant 43 = .ok (.ireturn, 1) := by decide +kernel
theorem d_M_constant_44 : decode b_M_constant 44 = .ok (.aload_n 0, 1) := by decide +kernel
theorem d_M_constant_45 : decode b_M_constant 45 = .ok (.getfield 39, 3) := by decide +kernel
theorem d_M_constant_48 : decode b_M_constant 48 = .ok (.iload_n 3, 1) := by decide +kernel
theorem d_M_constant_49 : decode b_M_constant 49 = .ok (.iload_n 1, 1) := by decide +kernel
theorem d_M_constant_50 : decode b_M_constant 50 = .ok (.iastore, 1) := by decide +kernel
theorem d_M_constant_51 : decode b_M_constant 51 = .ok (.aload_n 0, 1) := by decide +kernel
theorem d_M_constant_52 : decode b_M_constant 52 = .ok (.getfield 42, 3) := by decide +kernel
theorem d_M_constant_55 : decode b_M_constant 55 = .ok (.iload_n 3, 1) := by decide +kernel
theorem d_M_constant_56 : decode b_M_constant 56 = .ok (.iload_n 2, 1) := by decide +kernel
theorem d_M_constant_57 : decode b_M_constant 57 = .ok (.iastore, 1) := by decide +kernel
theorem d_M_constant_58 : decode b_M_constant 58 = .ok (.iload_n 3, 1) := by decide +kernel
theorem d_M_constant_59 : decode b_M_constant 59 = .ok (.ireturn, 1) := by decide +kernel
theorem d_M_set_0 : decode b_M_set 0 = .ok (.aload_n 0, 1) := by decide +kernel
theorem d_M_set_1 : decode b_M_set 1 = .ok (.iload_n 1, 1) := by decide +kernel
theorem d_M_set_2 : decode b_M_set 2 = .ok (.aload_n 0, 1) := by decide +kernel
theorem d_M_set_3 : decode b_M_set 3 = .ok (.getfield 115, 3) := by decide +kernel
theorem d_M_set_6 : decode b_M_set 6 = .ok (.invokevirtual 92, 3) := by decide +kernel
theorem d_M_set_9 : decode b_M_set 9 = .ok (.ifCond .ne 27, 3) := by decide +kernel
theorem d_M_set_12 : decode b_M_set 12 = .ok (.aload_n 0, 1) := by decide +kernel
theorem d_M_set_13 : decode b_M_set 13 = .ok (.getfield 36, 3) := by decide +kernel
theorem d_M_set_16 : decode b_M_set 16 = .ok (.iload_n 1, 1) := by decide +kernel
theorem d_M_set_17 : decode b_M_set 17 = .ok (.iaload, 1) := by decide +kernel
theorem d_M_set_18 : decode b_M_set 18 = .ok (.iconst 1, 1) := by decide +kernel
theorem d_M_set_19 : decode b_M_set 19 = .ok (.if_icmp .eq 17, 3) := by decide +kernel
theorem d_M_set_22 : decode b_M_set 22 = .ok (.aload_n 0, 1) := by decide +kernel
theorem d_M_set_23 : decode b_M_set 23 = .ok (.iload_n 2, 1) := by decide +kernel
theorem d_M_set_24 : decode b_M_set 24 = .ok (.aload_n 0, 1) := by decide +kernel
theorem d_M_set_25 : decode b_M_set 25 = .ok (.getfield 45, 3) := by decide +kernel
theorem d_M_set_28 : decode b_M_set 28 = .ok (.iload_n 1, 1) := by decide +kernel
theorem d_M_set_29 : decode b_M_set 29 = .ok (.iaload, 1) := by decide +kernel
theorem d_M_set_30 : decode b_M_set 30 = .ok (.invokevirtual 92, 3) := by decide +kernel
theorem d_M_set_33 : decode b_M_set 33 = .ok (.ifCond .eq 5, 3) := by decide +kernel
theorem d_M_set_36 : decode b_M_set 36 = .ok (.iconst (-1), 1) := by decide +kernel
theorem d_M_set_37 : decode b_M_set 37 = .ok (.ireturn, 1) := by decide +kernel
theorem d_M_set_38 : decode b_M_set 38 = .ok (.aload_n 0, 1) := by decide +kernel
theorem d_M_set_39 : decode b_M_set 39 = .ok (.getfield 36, 3) := by decide +kernel
theorem d_M_set_42 : decode b_M_set 42 = .ok (.iload_n 1, 1) := by decide +kernel
theorem d_M_set_43 : decode b_M_set 43 = .ok (.iaload, 1) := by decide +kernel
theorem d_M_set_44 : decode b_M_set 44 = .ok (.iconst 2, 1) := by decide +kernel
theorem d_M_set_45 : decode b_M_set 45 = .ok (.if_icmp .ne 7, 3) := by decide +kernel
theorem d_M_set_48 : decode b_M_set 48 = .ok (.iconst 2, 1) := by decide +kernel
theorem d_M_set_49 : decode b_M_set 49 = .ok (.goto 24, 3) := by decide +kernel
theorem d_M_set_52 : decode b_M_set 52 = .ok (.aload_n 0, 1) := by decide +kernel
theorem d_M_set_53 : decode b_M_set 53 = .ok (.getfield 36, 3) := by decide +kernel
theorem d_M_set_56 : decode b_M_set 56 = .ok (.iload_n 1, 1) := by decide +kernel
theorem d_M_set_57 : decode b_M_set 57 = .ok (.iaload, 1) := by decide +kernel
theorem d_M_set_58 : decode b_M_set 58 = .ok (.iconst 3, 1) := by decide +kernel
theorem d_M_set_59 : decode b_M_set 59 = .ok (.if_icmp .ne 8, 3) := by decide +kernel
theorem d_M_set_62 : decode b_M_set 62 = .ok (.bipush 7, 2) := by decide +kernel
theorem d_M_set_64 : decode b_M_set 64 = .ok (.goto 9, 3) := by decide +kernel
theorem d_M_set_67 : decode b_M_set 67 = .ok (.aload_n 0, 1) := by decide +kernel
theorem d_M_set_68 : decode b_M_set 68 = .ok (.iload_n 1, 1) := by decide +kernel
theorem d_M_set_69 : decode b_M_set 69 = .ok (.iload_n 2, 1) := by decide +kernel
theorem d_M_set_70 : decode b_M_set 70 = .ok (.invokevirtual 132, 3) := by decide +kernel
theorem d_M_set_73 : decode b_M_set 73 = .ok (.istore 5, 2) := by decide +kernel
theorem d_M_set_75 : decode b_M_set 75 = .ok (.iload 5, 2) := by decide +kernel
theorem d_M_set_77 : decode b_M_set 77 = .ok (.iconst 5, 1) := by decide +kernel
theorem d_M_set_78 : decode b_M_set 78 = .ok (.if_icmp .le 49, 3) := by decide +kernel
theorem d_M_set_81 : decode b_M_set 81 = .ok (.lload_n 3, 1) := by decide +kernel
theorem d_M_set_82 : decode b_M_set 82 = .ok (.ldc2_w 135, 3) := by decide +kernel
theorem d_M_set_85 : decode b_M_set 85 = .ok (.lcmp, 1) := by decide +kernel
theorem d_M_set_86 : decode b_M_set 86 = .ok (.ifCond .lt 13, 3) := by decide +kernel
theorem d_M_set_89 : decode b_M_set 89 = .ok (.lload_n 3, 1) := by decide +kernel
theorem d_M_set_90 : decode b_M_set 90 = .ok (.aload_n 0, 1) := by decide +kernel
theorem d_M_set_91 : decode b_M_set 91 = .ok (.getfield 115, 3) := by decide +kernel
theorem d_M_set_94 : decode b_M_set 94 = .ok (.i2l, 1) := by decide +kernel
theorem d_M_set_95 : decode b_M_set 95 = .ok (.lcmp, 1) := by decide +kernel
theorem d_M_set_96 : decode b_M_set 96 = .ok (.ifCond .lt 5, 3) := by decide +kernel
theorem d_M_set_99 : decode b_M_set 99 = .ok (.iconst (-1), 1) := by decide +kernel
theorem d_M_set_100 : decode b_M_set 100 = .ok (.ireturn, 1) := by decide +kernel
theorem d_M_set_101 : decode b_M_set 101 = .ok (.iload 5, 2) := by decide +kernel
theorem d_M_set_103 : decode b_M_set 103 = .ok (.bipush 6, 2) := by decide +kernel
theorem d_M_set_105 : decode b_M_set 105 = .ok (.if_icmp .ne 22, 3) := by decide +kernel
theorem d_M_set_108 : decode b_M_set 108 = .ok (.lload_n 3, 1) := by decide +kernel
theorem d_M_set_109 : decode b_M_set 109 = .ok (.lconst 0, 1) := by decide +kernel
theorem d_M_set_110 : decode b_M_set 110 = .ok (.lcmp, 1) := by decide +kernel
theorem d_M_set_111 : decode b_M_set 111 = .ok (.ifCond .lt 16, 3) := by decide +kernel
theorem d_M_set_114 : decode b_M_set 114 = .ok (.aload_n 0, 1) := by decide +kernel
theorem d_M_set_115 : decode b_M_set 115 = .ok (.getfield 36, 3) := by decide +kernel
theorem d_M_set_118 : decode b_M_set 118 = .ok (.lload_n 3, 1) := by decide +kernel
theorem d_M_set_119 : decode b_M_set 119 = .ok (.l2i, 1) := by decide +kernel
theorem d_M_set_120 : decode b_M_set 120 = .ok (.iaload, 1) := by decide +kernel
theorem d_M_set_121 : decode b_M_set 121 = .ok (.iconst 2, 1) := by decide +kernel
theorem d_M_set_122 : decode b_M_set 122 = .ok (.if_icmp .eq 5, 3) := by decide +kernel
theorem d_M_set_125 : decode b_M_set 125 = .ok (.iconst (-1), 1) := by decide +kernel
theorem d_M_set_126 : decode b_M_set 126 = .ok (.ireturn, 1) := by decide +kernel
theorem d_M_set_127 : decode b_M_set 127 = .ok (.aload_n 0, 1) := by decide +kernel
theorem d_M_set_128 : decode b_M_set 128 = .ok (.getfield 48, 3) := by decide +kernel
theorem d_M_set_131 : decode b_M_set 131 = .ok (.bipush 24, 2) := by decide +kernel
theorem d_M_set_133 : decode b_M_set 133 = .ok (.iload_n 1, 1) := by decide +kernel
theorem d_M_set_134 : decode b_M_set 134 = .ok (.imul, 1) := by decide +kernel
theorem d_M_set_135 : decode b_M_set 135 = .ok (.iload_n 2, 1) := by decide +kernel
theorem d_M_set_136 : decode b_M_set 136 = .ok (.iadd, 1) := by decide +kernel
theorem d_M_set_137 : decode b_M_set 137 = .ok (.lload_n 3, 1) := by decide +kernel
theorem d_M_set_138 : decode b_M_set 138 = .ok (.lastore, 1) := by decide +kernel
theorem d_M_set_139 : decode b_M_set 139 = .ok (.iconst 0, 1) := by decide +kernel
theorem d_M_set_140 : decode b_M_set 140 = .ok (.ireturn, 1) := by decide +kernel
theorem d_M_replace_0 : decode b_M_replace 0 = .ok (.aload_n 0, 1) := by decide +kernel
theorem d_M_replace_1 : decode b_M_replace 1 = .ok (.iload_n 1, 1) := by decide +kernel
theorem d_M_replace_2 : decode b_M_replace 2 = .ok (.invokevirtual 137, 3) := by decide +kernel
theorem d_M_replace_5 : decode b_M_replace 5 = .ok (.ifCond .ne 21, 3) := by decide +kernel
theorem d_M_replace_8 : decode b_M_replace 8 = .ok (.iload_n 2, 1) := by decide +kernel
theorem d_M_replace_9 : decode b_M_replace 9 = .ok (.iconst (-1), 1) := by decide +kernel
theorem d_M_replace_10 : decode b_M_replace 10 = .ok (.if_icmp .lt 16, 3) := by decide +kernel
theorem d_M_replace_13 : decode b_M_replace 13 = .ok (.iload_n 2, 1) := by decide +kernel
theorem d_M_replace_14 : decode b_M_replace 14 = .ok (.aload_n 0, 1) := by decide +kernel
theorem d_M_replace_15 : decode b_M_replace 15 = .ok (.getfield 115, 3) := by decide +kernel
theorem d_M_replace_18 : decode b_M_replace 18 = .ok (.if_icmp .ge 8, 3) := by decide +kernel
theorem d_M_replace_21 : decode b_M_replace 21 = .ok (.iload_n 2, 1) := by decide +kernel
theorem d_M_replace_22 : decode b_M_replace 22 = .ok (.iload_n 1, 1) := by decide +kernel
theorem d_M_replace_23 : decode b_M_replace 23 = .ok (.if_icmp .ne 5, 3) := by decide +kernel
theorem d_M_replace_26 : decode b_M_replace 26 = .ok (.iconst (-1), 1) := by decide +kernel
theorem d_M_replace_27 : decode b_M_replace 27 = .ok (.ireturn, 1) := by decide +kernel
theorem d_M_replace_28 : decode b_M_replace 28 = .ok (.aload_n 0, 1) := by decide +kernel
theorem d_M_replace_29 : decode b_M_replace 29 = .ok (.getfield 51, 3) := by decide +kernel
theorem d_M_replace_32 : decode b_M_replace 32 = .ok (.iload_n 1, 1) := by decide +kernel
theorem d_M_replace_33 : decode b_M_replace 33 = .ok (.iload_n 2, 1) := by decide +kernel
theorem d_M_replace_34 : decode b_M_replace 34 = .ok (.iastore, 1) := by decide +kernel
theorem d_M_replace_35 : decode b_M_replace 35 = .ok (.iconst 0, 1) := by decide +kernel
theorem d_M_replace_36 : decode b_M_replace 36 = .ok (.ireturn, 1) := by decide +kernel
theorem d_M_noInstance_0 : decode b_M_noInstance 0 = .ok (.aload_n 0, 1) := by decide +kernel
theorem d_M_noInstance_1 : decode b_M_noInstance 1 = .ok (.iload_n 1, 1) := by decide +kernel
theorem d_M_noInstance_2 : decode b_M_noInstance 2 = .ok (.aload_n 0, 1) := by decide +kernel
theorem d_M_noInstance_3 : decode b_M_noInstance 3 = .ok (.getfield 115, 3) := by decide +kernel
theorem d_M_noInstance_6 : decode b_M_noInstance 6 = .ok (.invokevirtual 92, 3) := by decide +kernel
theorem d_M_noInstance_9 : decode b_M_noInstance 9 = .ok (.ifCond .ne 12, 3) := by decide +kernel
theorem d_M_noInstance_12 : decode b_M_noInstance 12 = .ok (.aload_n 0, 1) := by decide +kernel
theorem d_M_noInstance_13 : decode b_M_noInstance 13 = .ok (.getfield 36, 3) := by decide +kernel
theorem d_M_noInstance_16 : decode b_M_noInstance 16 = .ok (.iload_n 1, 1) := by decide +kernel
theorem d_M_noInstance_17 : decode b_M_noInstance 17 = .ok (.iaload, 1) := by decide +kernel
theorem d_M_noInstance_18 : decode b_M_noInstance 18 = .ok (.ifCond .eq 7, 3) := by decide +kernel
theorem d_M_noInstance_21 : decode b_M_noInstance 21 = .ok (.iconst 1, 1) := by decide +kernel
theorem d_M_noInstance_22 : decode b_M_noInstance 22 = .ok (.goto 4, 3) := by decide +kernel
theorem d_M_noInstance_25 : decode b_M_noInstance 25 = .ok (.iconst 0, 1) := by decide +kernel
theorem d_M_noInstance_26 : decode b_M_noInstance 26 = .ok (.ireturn, 1) := by decide +kernel
theorem d_M_extra_0 : decode b_M_extra 0 = .ok (.aload_n 0, 1) := by decide +kernel
theorem d_M_extra_1 : decode b_M_extra 1 = .ok (.iload_n 1, 1) := by decide +kernel
theorem d_M_extra_2 : decode b_M_extra 2 = .ok (.invokevirtual 137, 3) := by decide +kernel
theorem d_M_extra_5 : decode b_M_extra 5 = .ok (.ifCond .eq 5, 3) := by decide +kernel
theorem d_M_extra_8 : decode b_M_extra 8 = .ok (.iconst (-1), 1) := by decide +kernel
theorem d_M_extra_9 : decode b_M_extra 9 = .ok (.ireturn, 1) := by decide +kernel
theorem d_M_extra_10 : decode b_M_extra 10 = .ok (.aload_n 0, 1) := by decide +kernel
theorem d_M_extra_11 : decode b_M_extra 11 = .ok (.getfield 54, 3) := by decide +kernel
theorem d_M_extra_14 : decode b_M_extra 14 = .ok (.iload_n 1, 1) := by decide +kernel
theorem d_M_extra_15 : decode b_M_extra 15 = .ok (.iload_n 2, 1) := by decide +kernel
theorem d_M_extra_16 : decode b_M_extra 16 = .ok (.iastore, 1) := by decide +kernel
theorem d_M_extra_17 : decode b_M_extra 17 = .ok (.iconst 0, 1) := by decide +kernel
theorem d_M_extra_18 : decode b_M_extra 18 = .ok (.ireturn, 1) := by decide +kernel
theorem d_M_data_0 : decode b_M_data 0 = .ok (.iload_n 3, 1) := by decide +kernel
theorem d_M_data_1 : decode b_M_data 1 = .ok (.iconst 1, 1) := by decide +kernel
theorem d_M_data_2 : decode b_M_data 2 = .ok (.if_icmp .lt 9, 3) := by decide +kernel
theorem d_M_data_5 : decode b_M_data 5 = .ok (.iload_n 3, 1) := by decide +kernel
theorem d_M_data_6 : decode b_M_data 6 = .ok (.bipush 8, 2) := by decide +kernel
theorem d_M_data_8 : decode b_M_data 8 = .ok (.if_icmp .le 5, 3) := by decide +kernel
theorem d_M_data_11 : decode b_M_data 11 = .ok (.iconst (-1), 1) := by decide +kernel
theorem d_M_data_12 : decode b_M_data 12 = .ok (.ireturn, 1) := by decide +kernel
theorem d_M_data_13 : decode b_M_data 13 = .ok (.aload_n 0, 1) := by decide +kernel
theorem d_M_data_14 : decode b_M_data 14 = .ok (.getfield 106, 3) := by decide +kernel
theorem d_M_data_17 : decode b_M_data 17 = .ok (.iload_n 3, 1) := by decide +kernel
theorem d_M_data_18 : decode b_M_data 18 = .ok (.iadd, 1) := by decide +kernel
theorem d_M_data_19 : decode b_M_data 19 = .ok (.istore 4, 2) := by decide +kernel
theorem d_M_data_21 : decode b_M_data 21 = .ok (.aload_n 0, 1) := by decide +kernel
theorem d_M_data_22 : decode b_M_data 22 = .ok (.getfield 96, 3) := by decide +kernel
theorem d_M_data_25 : decode b_M_data 25 = .ok (.iload 4, 2) := by decide +kernel
theorem d_M_data_27 : decode b_M_data 27 = .ok (.iadd, 1) := by decide +kernel
theorem d_M_data_28 : decode b_M_data 28 = .ok (.iload 4, 2) := by decide +kernel
theorem d_M_data_30 : decode b_M_data 30 = .ok (.sipush 255, 3) := by decide +kernel
theorem d_M_data_33 : decode b_M_data 33 = .ok (.if_icmp .lt 7, 3) := by decide +kernel
theorem d_M_data_36 : decode b_M_data 36 = .ok (.iconst 2, 1) := by decide +kernel
theorem d_M_data_37 : decode b_M_data 37 = .ok (.goto 4, 3) := by decide +kernel
theorem d_M_data_40 : decode b_M_data 40 = .ok (.iconst 0, 1) := by decide +kernel
theorem d_M_data_41 : decode b_M_data 41 = .ok (.iadd, 1) := by decide +kernel
theorem d_M_data_42 : decode b_M_data 42 = .ok (.istore 5, 2) := by decide +kernel
theorem d_M_data_44 : decode b_M_data 44 = .ok (.iload 5, 2) := by decide +kernel
theorem d_M_data_46 : decode b_M_data 46 = .ok (.sipush 1400, 3) := by decide +kernel
theorem d_M_data_49 : decode b_M_data 49 = .ok (.if_icmp .le 6, 3) := by decide +kernel
theorem d_M_data_52 : decode b_M_data 52 = .ok (.bipush (-2), 2) := by decide +kernel
theorem d_M_data_54 : decode b_M_data 54 = .ok (.ireturn, 1) := by decide +kernel
theorem d_M_data_55 : decode b_M_data 55 = .ok (.iload_n 3, 1) := by decide +kernel
theorem d_M_data_56 : decode b_M_data 56 = .ok (.iconst 1, 1) := by decide +kernel
theorem d_M_data_57 : decode b_M_data 57 = .ok (.isub, 1) := by decide +kernel
theorem d_M_data_58 : decode b_M_data 58 = .ok (.istore 6, 2) := by decide +kernel
theorem d_M_data_60 : decode b_M_data 60 = .ok (.iload 6, 2) := by decide +kernel
theorem d_M_data_62 : decode b_M_data 62 = .ok (.ifCond .lt 54, 3) := by decide +kernel
theorem d_M_data_65 : decode b_M_data 65 = .ok (.aload_n 0, 1) := by decide +kernel
theorem d_M_data_66 : decode b_M_data 66 = .ok (.getfield 60, 3) := by decide +kernel
theorem d_M_data_69 : decode b_M_data 69 = .ok (.aload_n 0, 1) := by decide +kernel
theorem d_M_data_70 : decode b_M_data 70 = .ok (.getfield 106, 3) := by decide +kernel
theorem d_M_data_73 : decode b_M_data 73 = .ok (.lload_n 1, 1) := by decide +kernel
theorem d_M_data_74 : decode b_M_data 74 = .ok (.bipush 8, 2) := by decide +kernel
theorem d_M_data_76 : decode b_M_data 76 = .ok (.iload 6, 2) := by decide +kernel
theorem d_M_data_78 : decode b_M_data 78 = .ok (.imul, 1) := by decide +kernel
theorem d_M_data_79 : decode b_M_data 79 = .ok (.lshr, 1) := by decide +kernel
theorem d_M_data_80 : decode b_M_data 80 = .ok (.l2i, 1) := by decide +kernel
theorem d_M_data_81 : decode b_M_data 81 = .ok (.sipush 255, 3) := by decide +kernel
theorem d_M_data_84 : decode b_M_data 84 = .ok (.iand, 1) := by decide +kernel
theorem d_M_data_85 : decode b_M_data 85 = .ok (.iastore, 1) := by decide +kernel
theorem d_M_data_86 : decode b_M_data 86 = .ok (.aload_n 0, 1) := by decide +kernel
theorem d_M_data_87 : decode b_M_data 87 = .ok (.dup, 1) := by decide +kernel
theorem d_M_data_88 : decode b_M_data 88 = .ok (.getfield 106, 3) := by decide +kernel
theorem d_M_data_91 : decode b_M_data 91 = .ok (.iconst 1, 1) := by decide +kernel
theorem d_M_data_92 : decode b_M_data 92 = .ok (.iadd, 1) := by decide +kernel
theorem d_M_data_93 : decode b_M_data 93 = .ok (.putfield 106, 3) := by decide +kernel
theorem d_M_data_96 : decode b_M_data 96 = .ok (.aload_n 0, 1) := by decide +kernel
theorem d_M_data_97 : decode b_M_data 97 = .ok (.getfield 106, 3) := by decide +kernel
theorem d_M_data_100 : decode b_M_data 100 = .ok (.sipush 255, 3) := by decide +kernel
theorem d_M_data_103 : decode b_M_data 103 = .ok (.if_icmp .ne 7, 3) := by decide +kernel
theorem d_M_data_106 : decode b_M_data 106 = .ok (.aload_n 0, 1) := by decide +kernel
theorem d_M_data_107 : decode b_M_data 107 = .ok (.invokevirtual 149, 3) := by decide +kernel
theorem d_M_data_110 : decode b_M_data 110 = .ok (.iinc 6 (-1), 3) := by decide +kernel
theorem d_M_data_113 : decode b_M_data 113 = .ok (.goto (-53), 3) := by decide +kernel
theorem d_M_data_116 : decode b_M_data 116 = .ok (.aload_n 0, 1) := by decide +kernel
theorem d_M_data_117 : decode b_M_data 117 = .ok (.getfield 106, 3) := by decide +kernel
theorem d_M_data_120 : decode b_M_data 120 = .ok (.ireturn, 1) := by decide +kernel
theorem d_M_flush_0 : decode b_M_flush 0 = .ok (.aload_n 0, 1) := by decide +kernel
theorem d_M_flush_1 : decode b_M_flush 1 = .ok (.getfield 106, 3) := by decide +kernel
theorem d_M_flush_4 : decode b_M_flush 4 = .ok (.ifCond .ne 4, 3) := by decide +kernel
theorem d_M_flush_7 : decode b_M_flush 7 = .ok (.return_, 1) := by decide +kernel
theorem d_M_flush_8 : decode b_M_flush 8 = .ok (.aload_n 0, 1) := by decide +kernel
theorem d_M_flush_9 : decode b_M_flush 9 = .ok (.ldc2_w 109, 3) := by decide +kernel
theorem d_M_flush_12 : decode b_M_flush 12 = .ok (.iconst 1, 1) := by decide +kernel
theorem d_M_flush_13 : decode b_M_flush 13 = .ok (.invokevirtual 83, 3) := by decide +kernel
theorem d_M_flush_16 : decode b_M_flush 16 = .ok (.aload_n 0, 1) := by decide +kernel
theorem d_M_flush_17 : decode b_M_flush 17 = .ok (.aload_n 0, 1) := by decide +kernel
theorem d_M_flush_18 : decode b_M_flush 18 = .ok (.getfield 106, 3) := by decide +kernel
theorem d_M_flush_21 : decode b_M_flush 21 = .ok (.i2l, 1) := by decide +kernel
theorem d_M_flush_22 : decode b_M_flush 22 = .ok (.iconst 1, 1) := by decide +kernel
theorem d_M_flush_23 : decode b_M_flush 23 = .ok (.invokevirtual 83, 3) := by decide +kernel
theorem d_M_flush_26 : decode b_M_flush 26 = .ok (.iconst 0, 1) := by decide +kernel
theorem d_M_flush_27 : decode b_M_flush 27 = .ok (.istore_n 1, 1) := by decide +kernel
theorem d_M_flush_28 : decode b_M_flush 28 = .ok (.iload_n 1, 1) := by decide +kernel
theorem d_M_flush_29 : decode b_M_flush 29 = .ok (.aload_n 0, 1) := by decide +kernel
theorem d_M_flush_30 : decode b_M_flush 30 = .ok (.getfield 106, 3) := by decide +kernel
theorem d_M_flush_33 : decode b_M_flush 33 = .ok (.if_icmp .ge 21, 3) := by decide +kernel
theorem d_M_flush_36 : decode b_M_flush 36 = .ok (.aload_n 0, 1) := by decide +kernel
theorem d_M_flush_37 : decode b_M_flush 37 = .ok (.aload_n 0, 1) := by decide +kernel
theorem d_M_flush_38 : decode b_M_flush 38 = .ok (.getfield 60, 3) := by decide +kernel
theorem d_M_flush_41 : decode b_M_flush 41 = .ok (.iload_n 1, 1) := by decide +kernel
theorem d_M_flush_42 : decode b_M_flush 42 = .ok (.iaload, 1) := by decide +kernel
theorem d_M_flush_43 : decode b_M_flush 43 = .ok (.i2l, 1) := by decide +kernel
theorem d_M_flush_44 : decode b_M_flush 44 = .ok (.iconst 1, 1) := by decide +kernel
theorem d_M_flush_45 : decode b_M_flush 45 = .ok (.invokevirtual 83, 3) := by decide +kernel
theorem d_M_flush_48 : decode b_M_flush 48 = .ok (.iinc 1 1, 3) := by decide +kernel
theorem d_M_flush_51 : decode b_M_flush 51 = .ok (.goto (-23), 3) := by decide +kernel
theorem d_M_flush_54 : decode b_M_flush 54 = .ok (.aload_n 0, 1) := by decide +kernel
theorem d_M_flush_55 : decode b_M_flush 55 = .ok (.iconst 0, 1) := by decide +kernel
theorem d_M_flush_56 : decode b_M_flush 56 = .ok (.putfield 106, 3) := by decide +kernel
theorem d_M_flush_59 : decode b_M_flush 59 = .ok (.return_, 1) := by decide +kernel
theorem d_M_write_0 : decode b_M_write 0 = .ok (.iload_n 1, 1) := by decide +kernel
theorem d_M_write_1 : decode b_M_write 1 = .ok (.iconst (-1), 1) := by decide +kernel
theorem d_M_write_2 : decode b_M_write 2 = .ok (.if_icmp .lt 11, 3) := by decide +kernel
theorem d_M_write_5 : decode b_M_write 5 = .ok (.iload_n 1, 1) := by decide +kernel
theorem d_M_write_6 : decode b_M_write 6 = .ok (.aload_n 0, 1) := by decide +kernel
theorem d_M_write_7 : decode b_M_write 7 = .ok (.getfield 115, 3) := by decide +kernel
theorem d_M_write_10 : decode b_M_write 10 = .ok (.if_icmp .lt 5, 3) := by decide +kernel
theorem d_M_write_13 : decode b_M_write 13 = .ok (.iconst (-1), 1) := by decide +kernel
theorem d_M_write_14 : decode b_M_write 14 = .ok (.ireturn, 1) := by decide +kernel
theorem d_M_write_15 : decode b_M_write 15 = .ok (.aload_n 0, 1) := by decide +kernel
theorem d_M_write_16 : decode b_M_write 16 = .ok (.invokevirtual 282, 3) := by decide +kernel
theorem d_M_write_19 : decode b_M_write 19 = .ok (.aload_n 0, 1) := by decide +kernel
theorem d_M_write_20 : decode b_M_write 20 = .ok (.invokevirtual 149, 3) := by decide +kernel
theorem d_M_write_23 : decode b_M_write 23 = .ok (.aload_n 0, 1) := by decide +kernel
theorem d_M_write_24 : decode b_M_write 24 = .ok (.iconst 0, 1) := by decide +kernel
theorem d_M_write_25 : decode b_M_write 25 = .ok (.putfield 152, 3) := by decide +kernel
theorem d_M_write_28 : decode b_M_write 28 = .ok (.aload_n 0, 1) := by decide +kernel
theorem d_M_write_29 : decode b_M_write 29 = .ok (.iload_n 1, 1) := by decide +kernel
theorem d_M_write_30 : decode b_M_write 30 = .ok (.iload_n 2, 1) := by decide +kernel
theorem d_M_write_31 : decode b_M_write 31 = .ok (.invokevirtual 273, 3) := by decide +kernel
theorem d_M_write_34 : decode b_M_write 34 = .ok (.istore_n 3, 1) := by decide +kernel
theorem d_M_write_35 : decode b_M_write 35 = .ok (.aload_n 0, 1) := by decide +kernel
theorem d_M_write_36 : decode b_M_write 36 = .ok (.getfield 152, 3) := by decide +kernel
theorem d_M_write_39 : decode b_M_write 39 = .ok (.ifCond .le 33, 3) := by decide +kernel
theorem d_M_write_42 : decode b_M_write 42 = .ok (.aload_n 0, 1) := by decide +kernel
theorem d_M_write_43 : decode b_M_write 43 = .ok (.getfield 96, 3) := by decide +kernel
theorem d_M_write_46 : decode b_M_write 46 = .ok (.sipush 1400, 3) := by decide +kernel
theorem d_M_write_49 : decode b_M_write 49 = .ok (.if_icmp .gt 23, 3) := by decide +kernel
theorem d_M_write_52 : decode b_M_write 52 = .ok (.aload_n 0, 1) := by decide +kernel
theorem d_M_write_53 : decode b_M_write 53 = .ok (.invokevirtual 285, 3) := by decide +kernel
theorem d_M_write_56 : decode b_M_write 56 = .ok (.ifCond .eq 11, 3) := by decide +kernel
theorem d_M_write_59 : decode b_M_write 59 = .ok (.iload_n 3, 1) := by decide +kernel
theorem d_M_write_60 : decode b_M_write 60 = .ok (.ifCond .eq 7, 3) := by decide +kernel
theorem d_M_write_63 : decode b_M_write 63 = .ok (.iconst 1, 1) := by decide +kernel
theorem d_M_write_64 : decode b_M_write 64 = .ok (.goto 4, 3) := by decide +kernel
theorem d_M_write_67 : decode b_M_write 67 = .ok (.iconst 0, 1) := by decide +kernel
theorem d_M_write_68 : decode b_M_write 68 = .ok (.istore_n 3, 1) := by decide +kernel
theorem d_M_write_69 : decode b_M_write 69 = .ok (.goto (-34), 3) := by decide +kernel
theorem d_M_write_72 : decode b_M_write 72 = .ok (.aload_n 0, 1) := by decide +kernel
theorem d_M_write_73 : decode b_M_write 73 = .ok (.invokevirtual 289, 3) := by decide +kernel
theorem d_M_write_76 : decode b_M_write 76 = .ok (.ifCond .eq 6, 3) := by decide +kernel
theorem d_M_write_79 : decode b_M_write 79 = .ok (.bipush (-2), 2) := by decide +kernel
theorem d_M_write_81 : decode b_M_write 81 = .ok (.ireturn, 1) := by decide +kernel
theorem d_M_write_82 : decode b_M_write 82 = .ok (.iload_n 3, 1) := by decide +kernel
theorem d_M_write_83 : decode b_M_write 83 = .ok (.ifCond .eq 10, 3) := by decide +kernel
theorem d_M_write_86 : decode b_M_write 86 = .ok (.aload_n 0, 1) := by decide +kernel
theorem d_M_write_87 : decode b_M_write 87 = .ok (.getfield 96, 3) := by decide +kernel
theorem d_M_write_90 : decode b_M_write 90 = .ok (.goto 5, 3) := by decide +kernel
theorem d_M_write_93 : decode b_M_write 93 = .ok (.bipush (-3), 2) := by decide +kernel
theorem d_M_write_95 : decode b_M_write 95 = .ok (.ireturn, 1) := by decide +kernel
theorem d_M_remember_0 : decode b_M_remember 0 = .ok (.aload_n 0, 1) := by decide +kernel
theorem d_M_remember_1 : decode b_M_remember 1 = .ok (.aload_n 0, 1) := by decide +kernel
theorem d_M_remember_2 : decode b_M_remember 2 = .ok (.getfield 96, 3) := by decide +kernel
theorem d_M_remember_5 : decode b_M_remember 5 = .ok (.putfield 140, 3) := by decide +kernel
theorem d_M_remember_8 : decode b_M_remember 8 = .ok (.aload_n 0, 1) := by decide +kernel
theorem d_M_remember_9 : decode b_M_remember 9 = .ok (.aload_n 0, 1) := by decide +kernel
theorem d_M_remember_10 : decode b_M_remember 10 = .ok (.getfield 106, 3) := by decide +kernel
theorem d_M_remember_13 : decode b_M_remember 13 = .ok (.putfield 143, 3) := by decide +kernel
theorem d_M_remember_16 : decode b_M_remember 16 = .ok (.aload_n 0, 1) := by decide +kernel
theorem d_M_remember_17 : decode b_M_remember 17 = .ok (.aload_n 0, 1) := by decide +kernel
theorem d_M_remember_18 : decode b_M_remember 18 = .ok (.getfield 100, 3) := by decide +kernel
theorem d_M_remember_21 : decode b_M_remember 21 = .ok (.putfield 146, 3) := by decide +kernel
theorem d_M_remember_24 : decode b_M_remember 24 = .ok (.iconst 0, 1) := by decide +kernel
theorem d_M_remember_25 : decode b_M_remember 25 = .ok (.istore_n 1, 1) := by decide +kernel
theorem d_M_remember_26 : decode b_M_remember 26 = .ok (.iload_n 1, 1) := by decide +kernel
theorem d_M_remember_27 : decode b_M_remember 27 = .ok (.bipush 51, 2) := by decide +kernel
theorem d_M_remember_29 : decode b_M_remember 29 = .ok (.if_icmp .ge 21, 3) := by decide +kernel
theorem d_M_remember_32 : decode b_M_remember 32 = .ok (.aload_n 0, 1) := by decide +kernel
theorem d_M_remember_33 : decode b_M_remember 33 = .ok (.getfield 78, 3) := by decide +kernel
theorem d_M_remember_36 : decode b_M_remember 36 = .ok (.iload_n 1, 1) := by decide +kernel
theorem d_M_remember_37 : decode b_M_remember 37 = .ok (.aload_n 0, 1) := by decide +kernel
theorem d_M_remember_38 : decode b_M_remember 38 = .ok (.getfield 63, 3) := by decide +kernel
theorem d_M_remember_41 : decode b_M_remember 41 = .ok (.iload_n 1, 1) := by decide +kernel
theorem d_M_remember_42 : decode b_M_remember 42 = .ok (.iaload, 1) := by decide +kernel
theorem d_M_remember_43 : decode b_M_remember 43 = .ok (.iastore, 1) := by decide +kernel
theorem d_M_remember_44 : decode b_M_remember 44 = .ok (.iinc 1 1, 3) := by decide +kernel
theorem d_M_remember_47 : decode b_M_remember 47 = .ok (.goto (-21), 3) := by decide +kernel
theorem d_M_remember_50 : decode b_M_remember 50 = .ok (.return_, 1) := by decide +kernel
theorem d_M_writeObject_0 : decode b_M_writeObject 0 = .ok (.iload_n 1, 1) := by decide +kernel
theorem d_M_writeObject_1 : decode b_M_writeObject 1 = .ok (.ifCond .ge 7, 3) := by decide +kernel
theorem d_M_writeObject_4 : decode b_M_writeObject 4 = .ok (.iconst (-1), 1) := by decide +kernel
theorem d_M_writeObject_5 : decode b_M_writeObject 5 = .ok (.goto 8, 3) := by decide +kernel
theorem d_M_writeObject_8 : decode b_M_writeObject 8 = .ok (.aload_n 0, 1) := by decide +kernel
theorem d_M_writeObject_9 : decode b_M_writeObject 9 = .ok (.iload_n 1, 1) := by decide +kernel
theorem d_M_writeObject_10 : decode b_M_writeObject 10 = .ok (.invokevirtual 252, 3) := by decide +kernel
theorem d_M_writeObject_13 : decode b_M_writeObject 13 = .ok (.istore_n 3, 1) := by decide +kernel
theorem d_M_writeObject_14 : decode b_M_writeObject 14 = .ok (.iload_n 3, 1) := by decide +kernel
theorem d_M_writeObject_15 : decode b_M_writeObject 15 = .ok (.ifCond .ge 13, 3) := by decide +kernel
theorem d_M_writeObject_18 : decode b_M_writeObject 18 = .ok (.aload_n 0, 1) := by decide +kernel
theorem d_M_writeObject_19 : decode b_M_writeObject 19 = .ok (.ldc2_w 212, 3) := by decide +kernel
theorem d_M_writeObject_22 : decode b_M_writeObject 22 = .ok (.iconst 1, 1) := by decide +kernel
theorem d_M_writeObject_23 : decode b_M_writeObject 23 = .ok (.invokevirtual 83, 3) := by decide +kernel
theorem d_M_writeObject_26 : decode b_M_writeObject 26 = .ok (.iconst 1, 1) := by decide +kernel
theorem d_M_writeObject_27 : decode b_M_writeObject 27 = .ok (.ireturn, 1) := by decide +kernel
theorem d_M_writeObject_28 : decode b_M_writeObject 28 = .ok (.aload_n 0, 1) := by decide +kernel
theorem d_M_writeObject_29 : decode b_M_writeObject 29 = .ok (.getfield 63, 3) := by decide +kernel
theorem d_M_writeObject_32 : decode b_M_writeObject 32 = .ok (.iload_n 3, 1) := by decide +kernel
theorem d_M_writeObject_33 : decode b_M_writeObject 33 = .ok (.iaload, 1) := by decide +kernel
theorem d_M_writeObject_34 : decode b_M_writeObject 34 = .ok (.ifCond .lt 14, 3) := by decide +kernel
theorem d_M_writeObject_37 : decode b_M_writeObject 37 = .ok (.iload_n 2, 1) := by decide +kernel
theorem d_M_writeObject_38 : decode b_M_writeObject 38 = .ok (.ifCond .ne 10, 3) := by decide +kernel
theorem d_M_writeObject_41 : decode b_M_writeObject 41 = .ok (.aload_n 0, 1) := by decide +kernel
theorem d_M_writeObject_42 : decode b_M_writeObject 42 = .ok (.iload_n 3, 1) := by decide +kernel
theorem d_M_writeObject_43 : decode b_M_writeObject 43 = .ok (.invokevirtual 187, 3) := by decide +kernel
theorem d_M_writeObject_46 : decode b_M_writeObject 46 = .ok (.iconst 1, 1) := by decide +kernel
theorem d_M_writeObject_47 : decode b_M_writeObject 47 = .ok (.ireturn, 1) := by decide +kernel
theorem d_M_writeObject_48 : decode b_M_writeObject 48 = .ok (.aload_n 0, 1) := by decide +kernel
theorem d_M_writeObject_49 : decode b_M_writeObject 49 = .ok (.getfield 36, 3) := by decide +kernel
theorem d_M_writeObject_52 : decode b_M_writeObject 52 = .ok (.iload_n 3, 1) := by decide +kernel
theorem d_M_writeObject_53 : decode b_M_writeObject 53 = .ok (.iaload, 1) := by decide +kernel
theorem d_M_writeObject_54 : decode b_M_writeObject 54 = .ok (.iconst 1, 1) := by decide +kernel
theorem d_M_writeObject_55 : decode b_M_writeObject 55 = .ok (.if_icmp .ne 68, 3) := by decide +kernel
theorem d_M_writeObject_58 : decode b_M_writeObject 58 = .ok (.aload_n 0, 1) := by decide +kernel
theorem d_M_writeObject_59 : decode b_M_writeObject 59 = .ok (.ldc2_w 190, 3) := by decide +kernel
theorem d_M_writeObject_62 : decode b_M_writeObject 62 = .ok (.iconst 1, 1) := by decide +kernel
theorem d_M_writeObject_63 : decode b_M_writeObject 63 = .ok (.invokevirtual 83, 3) := by decide +kernel
theorem d_M_writeObject_66 : decode b_M_writeObject 66 = .ok (.aload_n 0, 1) := by decide +kernel
theorem d_M_writeObject_67 : decode b_M_writeObject 67 = .ok (.iload_n 3, 1) := by decide +kernel
theorem d_M_writeObject_68 : decode b_M_writeObject 68 = .ok (.invokevirtual 192, 3) := by decide +kernel
theorem d_M_writeObject_71 : decode b_M_writeObject 71 = .ok (.aload_n 0, 1) := by decide +kernel
theorem d_M_writeObject_72 : decode b_M_writeObject 72 = .ok (.aload_n 0, 1) := by decide +kernel
theorem d_M_writeObject_73 : decode b_M_writeObject 73 = .ok (.getfield 45, 3) := by decide +kernel
theorem d_M_writeObject_76 : decode b_M_writeObject 76 = .ok (.iload_n 3, 1) := by decide +kernel
theorem d_M_writeObject_77 : decode b_M_writeObject 77 = .ok (.iaload, 1) := by decide +kernel
theorem d_M_writeObject_78 : decode b_M_writeObject 78 = .ok (.i2l, 1) := by decide +kernel
theorem d_M_writeObject_79 : decode b_M_writeObject 79 = .ok (.iconst 2, 1) := by decide +kernel
theorem d_M_writeObject_80 : decode b_M_writeObject 80 = .ok (.invokevirtual 83, 3) := by decide +kernel
theorem d_M_writeObject_83 : decode b_M_writeObject 83 = .ok (.iconst 0, 1) := by decide +kernel
theorem d_M_writeObject_84 : decode b_M_writeObject 84 = .ok (.istore 4, 2) := by decide +kernel
theorem d_M_writeObject_86 : decode b_M_writeObject 86 = .ok (.iload 4, 2) := by decide +kernel
theorem d_M_writeObject_88 : decode b_M_writeObject 88 = .ok (.aload_n 0, 1) := by decide +kernel
theorem d_M_writeObject_89 : decode b_M_writeObject 89 = .ok (.getfield 45, 3) := by decide +kernel
theorem d_M_writeObject_92 : decode b_M_writeObject 92 = .ok (.iload_n 3, 1) := by decide +kernel
theorem d_M_writeObject_93 : decode b_M_writeObject 93 = .ok (.iaload, 1) := by decide +kernel
theorem d_M_writeObject_94 : decode b_M_writeObject 94 = .ok (.if_icmp .ge 26, 3) := by decide +kernel
theorem d_M_writeObject_97 : decode b_M_writeObject 97 = .ok (.aload_n 0, 1) := by decide +kernel
theorem d_M_writeObject_98 : decode b_M_writeObject 98 = .ok (.aload_n 0, 1) := by decide +kernel
theorem d_M_writeObject_99 : decode b_M_writeObject 99 = .ok (.getfield 48, 3) := by decide +kernel
theorem d_M_writeObject_102 : decode b_M_writeObject 102 = .ok (.bipush 24, 2) := by decide +kernel
theorem d_M_writeObject_104 : decode b_M_writeObject 104 = .ok (.iload_n 3, 1) := by decide +kernel
theorem d_M_writeObject_105 : decode b_M_writeObject 105 = .ok (.imul, 1) := by decide +kernel
theorem d_M_writeObject_106 : decode b_M_writeObject 106 = .ok (.iload 4, 2) := by decide +kernel
theorem d_M_writeObject_108 : decode b_M_writeObject 108 = .ok (.iadd, 1) := by decide +kernel
theorem d_M_writeObject_109 : decode b_M_writeObject 109 = .ok (.laload, 1) := by decide +kernel
theorem d_M_writeObject_110 : decode b_M_writeObject 110 = .ok (.iconst 1, 1) := by decide +kernel
theorem d_M_writeObject_111 : decode b_M_writeObject 111 = .ok (.invokevirtual 83, 3) := by decide +kernel
theorem d_M_writeObject_114 : decode b_M_writeObject 114 = .ok (.iinc 4 1, 3) := by decide +kernel
theorem d_M_writeObject_117 : decode b_M_writeObject 117 = .ok (.goto (-31), 3) := by decide +kernel
theorem d_M_writeObject_120 : decode b_M_writeObject 120 = .ok (.goto 103, 3) := by decide +kernel
theorem d_M_writeObject_123 : decode b_M_writeObject 123 = .ok (.aload_n 0, 1) := by decide +kernel
theorem d_M_writeObject_124 : decode b_M_writeObject 124 = .ok (.getfield 36, 3) := by decide +kernel
theorem d_M_writeObject_127 : decode b_M_writeObject 127 = .ok (.iload_n 3, 1) := by decide +kernel
theorem d_M_writeObject_128 : decode b_M_writeObject 128 = .ok (.iaload, 1) := by decide +kernel
theorem d_M_writeObject_129 : decode b_M_writeObject 129 = .ok (.iconst 2, 1) := by decide +kernel
theorem d_M_writeObject_130 : decode b_M_writeObject 130 = .ok (.if_icmp .eq 13, 3) := by decide +kernel
theorem d_M_writeObject_133 : decode b_M_writeObject 133 = .ok (.aload_n 0, 1) := by decide +kernel
theorem d_M_writeObject_134 : decode b_M_writeObject 134 = .ok (.getfield 36, 3) := by decide +kernel
theorem d_M_writeObject_137 : decode b_M_writeObject 137 = .ok (.iload_n 3, 1) := by decide +kernel
theorem d_M_writeObject_138 : decode b_M_writeObject 138 = .ok (.iaload, 1) := by decide +kernel
theorem d_M_writeObject_139 : decode b_M_writeObject 139 = .ok (.iconst 3, 1) := by decide +kernel
theorem d_M_writeObject_140 : decode b_M_writeObject 140 = .ok (.if_icmp .ne 11, 3) := by decide +kernel
theorem d_M_writeObject_143 : decode b_M_writeObject 143 = .ok (.aload_n 0, 1) := by decide +kernel
theorem d_M_writeObject_144 : decode b_M_writeObject 144 = .ok (.iload_n 3, 1) := by decide +kernel
theorem d_M_writeObject_145 : decode b_M_writeObject 145 = .ok (.invokevirtual 255, 3) := by decide +kernel
theorem d_M_writeObject_148 : decode b_M_writeObject 148 = .ok (.goto 75, 3) := by decide +kernel
theorem d_M_writeObject_151 : decode b_M_writeObject 151 = .ok (.aload_n 0, 1) := by decide +kernel
theorem d_M_writeObject_152 : decode b_M_writeObject 152 = .ok (.getfield 36, 3) := by decide +kernel
theorem d_M_writeObject_155 : decode b_M_writeObject 155 = .ok (.iload_n 3, 1) := by decide +kernel
theorem d_M_writeObject_156 : decode b_M_writeObject 156 = .ok (.iaload, 1) := by decide +kernel
theorem d_M_writeObject_157 : decode b_M_writeObject 157 = .ok (.iconst 4, 1) := by decide +kernel
theorem d_M_writeObject_158 : decode b_M_writeObject 158 = .ok (.if_icmp .ne 11, 3) := by decide +kernel
theorem d_M_writeObject_161 : decode b_M_writeObject 161 = .ok (.aload_n 0, 1) := by decide +kernel
theorem d_M_writeObject_162 : decode b_M_writeObject 162 = .ok (.iload_n 3, 1) := by decide +kernel
theorem d_M_writeObject_163 : decode b_M_writeObject 163 = .ok (.invokevirtual 258, 3) := by decide +kernel
theorem d_M_writeObject_166 : decode b_M_writeObject 166 = .ok (.goto 57, 3) := by decide +kernel
theorem d_M_writeObject_169 : decode b_M_writeObject 169 = .ok (.aload_n 0, 1) := by decide +kernel
theorem d_M_writeObject_170 : decode b_M_writeObject 170 = .ok (.getfield 13, 3) := by decide +kernel
theorem d_M_writeObject_173 : decode b_M_writeObject 173 = .ok (.aload_n 0, 1) := by decide +kernel
theorem d_M_writeObject_174 : decode b_M_writeObject 174 = .ok (.getfield 39, 3) := by decide +kernel
theorem d_M_writeObject_177 : decode b_M_writeObject 177 = .ok (.iload_n 3, 1) := by decide +kernel
theorem d_M_writeObject_178 : decode b_M_writeObject 178 = .ok (.iaload, 1) := by decide +kernel
theorem d_M_writeObject_179 : decode b_M_writeObject 179 = .ok (.iaload, 1) := by decide +kernel
theorem d_M_writeObject_180 : decode b_M_writeObject 180 = .ok (.ifCond .ne 15, 3) := by decide +kernel
theorem d_M_writeObject_183 : decode b_M_writeObject 183 = .ok (.aload_n 0, 1) := by decide +kernel
theorem d_M_writeObject_184 : decode b_M_writeObject 184 = .ok (.aload_n 0, 1) := by decide +kernel
theorem d_M_writeObject_185 : decode b_M_writeObject 185 = .ok (.getfield 39, 3) := by decide +kernel
theorem d_M_writeObject_188 : decode b_M_writeObject 188 = .ok (.iload_n 3, 1) := by decide +kernel
theorem d_M_writeObject_189 : decode b_M_writeObject 189 = .ok (.iaload, 1) := by decide +kernel
theorem d_M_writeObject_190 : decode b_M_writeObject 190 = .ok (.invokevirtual 261, 3) := by decide +kernel
theorem d_M_writeObject_193 : decode b_M_writeObject 193 = .ok (.iconst 0, 1) := by decide +kernel
theorem d_M_writeObject_194 : decode b_M_writeObject 194 = .ok (.ireturn, 1) := by decide +kernel
theorem d_M_writeObject_195 : decode b_M_writeObject 195 = .ok (.aload_n 0, 1) := by decide +kernel
theorem d_M_writeObject_196 : decode b_M_writeObject 196 = .ok (.ldc2_w 264, 3) := by decide +kernel
theorem d_M_writeObject_199 : decode b_M_writeObject 199 = .ok (.iconst 1, 1) := by decide +kernel
theorem d_M_writeObject_200 : decode b_M_writeObject 200 = .ok (.invokevirtual 83, 3) := by decide +kernel
theorem d_M_writeObject_203 : decode b_M_writeObject 203 = .ok (.aload_n 0, 1) := by decide +kernel
theorem d_M_writeObject_204 : decode b_M_writeObject 204 = .ok (.aload_n 0, 1) := by decide +kernel
theorem d_M_writeObject_205 : decode b_M_writeObject 205 = .ok (.getfield 39, 3) := by decide +kernel
theorem d_M_writeObject_208 : decode b_M_writeObject 208 = .ok (.iload_n 3, 1) := by decide +kernel
theorem d_M_writeObject_209 : decode b_M_writeObject 209 = .ok (.iaload, 1) := by decide +kernel
theorem d_M_writeObject_210 : decode b_M_writeObject 210 = .ok (.invokevirtual 249, 3) := by decide +kernel
theorem d_M_writeObject_213 : decode b_M_writeObject 213 = .ok (.aload_n 0, 1) := by decide +kernel
theorem d_M_writeObject_214 : decode b_M_writeObject 214 = .ok (.iload_n 3, 1) := by decide +kernel
theorem d_M_writeObject_215 : decode b_M_writeObject 215 = .ok (.invokevirtual 192, 3) := by decide +kernel
theorem d_M_writeObject_218 : decode b_M_writeObject 218 = .ok (.aload_n 0, 1) := by decide +kernel
theorem d_M_writeObject_219 : decode b_M_writeObject 219 = .ok (.iload_n 3, 1) := by decide +kernel
theorem d_M_writeObject_220 : decode b_M_writeObject 220 = .ok (.invokevirtual 266, 3) := by decide +kernel
theorem d_M_writeObject_223 : decode b_M_writeObject 223 = .ok (.iconst 1, 1) := by decide +kernel
theorem d_M_writeObject_224 : decode b_M_writeObject 224 = .ok (.ireturn, 1) := by decide +kernel
theorem d_M_standing_0 : decode b_M_standing 0 = .ok (.iconst 1, 1) := by decide +kernel
theorem d_M_standing_1 : decode b_M_standing 1 = .ok (.iload_n 1, 1) := by decide +kernel
theorem d_M_standing_2 : decode b_M_standing 2 = .ok (.ishl, 1) := by decide +kernel
theorem d_M_standing_3 : decode b_M_standing 3 = .ok (.istore_n 2, 1) := by decide +kernel
theorem d_M_standing_4 : decode b_M_standing 4 = .ok (.iload_n 1, 1) := by decide +kernel
theorem d_M_standing_5 : decode b_M_standing 5 = .ok (.istore_n 3, 1) := by decide +kernel
theorem d_M_standing_6 : decode b_M_standing 6 = .ok (.iconst 0, 1) := by decide +kernel
theorem d_M_standing_7 : decode b_M_standing 7 = .ok (.istore 4, 2) := by decide +kernel
theorem d_M_standing_9 : decode b_M_standing 9 = .ok (.iload 4, 2) := by decide +kernel
theorem d_M_standing_11 : decode b_M_standing 11 = .ok (.bipush 20, 2) := by decide +kernel
theorem d_M_standing_13 : decode b_M_standing 13 = .ok (.if_icmp .ge 56, 3) := by decide +kernel
theorem d_M_standing_16 : decode b_M_standing 16 = .ok (.aload_n 0, 1) := by decide +kernel
theorem d_M_standing_17 : decode b_M_standing 17 = .ok (.getfield 36, 3) := by decide +kernel
theorem d_M_standing_20 : decode b_M_standing 20 = .ok (.iload_n 3, 1) := by decide +kernel
theorem d_M_standing_21 : decode b_M_standing 21 = .ok (.iaload, 1) := by decide +kernel
theorem d_M_standing_22 : decode b_M_standing 22 = .ok (.ifCond .ne 12, 3) := by decide +kernel
theorem d_M_standing_25 : decode b_M_standing 25 = .ok (.aload_n 0, 1) := by decide +kernel
theorem d_M_standing_26 : decode b_M_standing 26 = .ok (.getfield 51, 3) := by decide +kernel
theorem d_M_standing_29 : decode b_M_standing 29 = .ok (.iload_n 3, 1) := by decide +kernel
theorem d_M_standing_30 : decode b_M_standing 30 = .ok (.iaload, 1) := by decide +kernel
theorem d_M_standing_31 : decode b_M_standing 31 = .ok (.goto 4, 3) := by decide +kernel
theorem d_M_standing_34 : decode b_M_standing 34 = .ok (.iconst (-1), 1) := by decide +kernel
theorem d_M_standing_35 : decode b_M_standing 35 = .ok (.istore 5, 2) := by decide +kernel
theorem d_M_standing_37 : decode b_M_standing 37 = .ok (.iload 5, 2) := by decide +kernel
theorem d_M_standing_39 : decode b_M_standing 39 = .ok (.ifCond .lt 13, 3) := by decide +kernel
theorem d_M_standing_42 : decode b_M_standing 42 = .ok (.iload_n 2, 1) := by decide +kernel
theorem d_M_standing_43 : decode b_M_standing 43 = .ok (.iload 5, 2) := by decide +kernel
theorem d_M_standing_45 : decode b_M_standing 45 = .ok (.ishr, 1) := by decide +kernel
theorem d_M_standing_46 : decode b_M_standing 46 = .ok (.iconst 1, 1) := by decide +kernel
theorem d_M_standing_47 : decode b_M_standing 47 = .ok (.iand, 1) := by decide +kernel
theorem d_M_standing_48 : decode b_M_standing 48 = .ok (.iconst 1, 1) := by decide +kernel
theorem d_M_standing_49 : decode b_M_standing 49 = .ok (.if_icmp .ne 5, 3) := by decide +kernel
theorem d_M_standing_52 : decode b_M_standing 52 = .ok (.iload_n 3, 1) := by decide +kernel
theorem d_M_standing_53 : decode b_M_standing 53 = .ok (.ireturn, 1) := by decide +kernel
theorem d_M_standing_54 : decode b_M_standing 54 = .ok (.iload 5, 2) := by decide +kernel
theorem d_M_standing_56 : decode b_M_standing 56 = .ok (.istore_n 3, 1) := by decide +kernel
theorem d_M_standing_57 : decode b_M_standing 57 = .ok (.iload_n 2, 1) := by decide +kernel
theorem d_M_standing_58 : decode b_M_standing 58 = .ok (.iconst 1, 1) := by decide +kernel
theorem d_M_standing_59 : decode b_M_standing 59 = .ok (.iload_n 3, 1) := by decide +kernel
theorem d_M_standing_60 : decode b_M_standing 60 = .ok (.ishl, 1) := by decide +kernel
theorem d_M_standing_61 : decode b_M_standing 61 = .ok (.ior, 1) := by decide +kernel
theorem d_M_standing_62 : decode b_M_standing 62 = .ok (.istore_n 2, 1) := by decide +kernel
theorem d_M_standing_63 : decode b_M_standing 63 = .ok (.iinc 4 1, 3) := by decide +kernel
theorem d_M_standing_66 : decode b_M_standing 66 = .ok (.goto (-57), 3) := by decide +kernel
theorem d_M_standing_69 : decode b_M_standing 69 = .ok (.iload_n 3, 1) := by decide +kernel
theorem d_M_standing_70 : decode b_M_standing 70 = .ok (.ireturn, 1) := by decide +kernel
theorem d_M_refer_0 : decode b_M_refer 0 = .ok (.aload_n 0, 1) := by decide +kernel
theorem d_M_refer_1 : decode b_M_refer 1 = .ok (.ldc2_w 103, 3) := by decide +kernel
theorem d_M_refer_4 : decode b_M_refer 4 = .ok (.iconst 1, 1) := by decide +kernel
theorem d_M_refer_5 : decode b_M_refer 5 = .ok (.invokevirtual 83, 3) := by decide +kernel
theorem d_M_refer_8 : decode b_M_refer 8 = .ok (.aload_n 0, 1) := by decide +kernel
theorem d_M_refer_9 : decode b_M_refer 9 = .ok (.ldc 105, 2) := by decide +kernel
theorem d_M_refer_11 : decode b_M_refer 11 = .ok (.aload_n 0, 1) := by decide +kernel
theorem d_M_refer_12 : decode b_M_refer 12 = .ok (.getfield 63, 3) := by decide +kernel
theorem d_M_refer_15 : decode b_M_refer 15 = .ok (.iload_n 1, 1) := by decide +kernel
theorem d_M_refer_16 : decode b_M_refer 16 = .ok (.iaload, 1) := by decide +kernel
theorem d_M_refer_17 : decode b_M_refer 17 = .ok (.iadd, 1) := by decide +kernel
theorem d_M_refer_18 : decode b_M_refer 18 = .ok (.i2l, 1) := by decide +kernel
theorem d_M_refer_19 : decode b_M_refer 19 = .ok (.iconst 4, 1) := by decide +kernel
theorem d_M_refer_20 : decode b_M_refer 20 = .ok (.invokevirtual 83, 3) := by decide +kernel
theorem d_M_refer_23 : decode b_M_refer 23 = .ok (.return_, 1) := by decide +kernel
theorem d_M_give_0 : decode b_M_give 0 = .ok (.aload_n 0, 1) := by decide +kernel
theorem d_M_give_1 : decode b_M_give 1 = .ok (.getfield 63, 3) := by decide +kernel
theorem d_M_give_4 : decode b_M_give 4 = .ok (.iload_n 1, 1) := by decide +kernel
theorem d_M_give_5 : decode b_M_give 5 = .ok (.aload_n 0, 1) := by decide +kernel
theorem d_M_give_6 : decode b_M_give 6 = .ok (.getfield 100, 3) := by decide +kernel
theorem d_M_give_9 : decode b_M_give 9 = .ok (.iastore, 1) := by decide +kernel
theorem d_M_give_10 : decode b_M_give 10 = .ok (.aload_n 0, 1) := by decide +kernel
theorem d_M_give_11 : decode b_M_give 11 = .ok (.dup, 1) := by decide +kernel
theorem d_M_give_12 : decode b_M_give 12 = .ok (.getfield 100, 3) := by decide +kernel
theorem d_M_give_15 : decode b_M_give 15 = .ok (.iconst 1, 1) := by decide +kernel
theorem d_M_give_16 : decode b_M_give 16 = .ok (.iadd, 1) := by decide +kernel
theorem d_M_give_17 : decode b_M_give 17 = .ok (.putfield 100, 3) := by decide +kernel
theorem d_M_give_20 : decode b_M_give 20 = .ok (.return_, 1) := by decide +kernel
theorem d_M_writeArray_0 : decode b_M_writeArray 0 = .ok (.aload_n 0, 1) := by decide +kernel
theorem d_M_writeArray_1 : decode b_M_writeArray 1 = .ok (.getfield 36, 3) := by decide +kernel
theorem d_M_writeArray_4 : decode b_M_writeArray 4 = .ok (.iload_n 1, 1) := by decide +kernel
theorem d_M_writeArray_5 : decode b_M_writeArray 5 = .ok (.iaload, 1) := by decide +kernel
theorem d_M_writeArray_6 : decode b_M_writeArray 6 = .ok (.iconst 3, 1) := by decide +kernel
theorem d_M_writeArray_7 : decode b_M_writeArray 7 = .ok (.if_icmp .ne 7, 3) := by decide +kernel
theorem d_M_writeArray_10 : decode b_M_writeArray 10 = .ok (.iconst 1, 1) := by decide +kernel
theorem d_M_writeArray_11 : decode b_M_writeArray 11 = .ok (.goto 4, 3) := by decide +kernel
theorem d_M_writeArray_14 : decode b_M_writeArray 14 = .ok (.iconst 0, 1) := by decide +kernel
theorem d_M_writeArray_15 : decode b_M_writeArray 15 = .ok (.istore_n 2, 1) := by decide +kernel
theorem d_M_writeArray_16 : decode b_M_writeArray 16 = .ok (.aload_n 0, 1) := by decide +kernel
theorem d_M_writeArray_17 : decode b_M_writeArray 17 = .ok (.ldc2_w 241, 3) := by decide +kernel
theorem d_M_writeArray_20 : decode b_M_writeArray 20 = .ok (.iconst 1, 1) := by decide +kernel
theorem d_M_writeArray_21 : decode b_M_writeArray 21 = .ok (.invokevirtual 83, 3) := by decide +kernel
theorem d_M_writeArray_24 : decode b_M_writeArray 24 = .ok (.aload_n 0, 1) := by decide +kernel
theorem d_M_writeArray_25 : decode b_M_writeArray 25 = .ok (.iload_n 2, 1) := by decide +kernel
theorem d_M_writeArray_26 : decode b_M_writeArray 26 = .ok (.invokevirtual 243, 3) := by decide +kernel
theorem d_M_writeArray_29 : decode b_M_writeArray 29 = .ok (.aload_n 0, 1) := by decide +kernel
theorem d_M_writeArray_30 : decode b_M_writeArray 30 = .ok (.iload_n 1, 1) := by decide +kernel
theorem d_M_writeArray_31 : decode b_M_writeArray 31 = .ok (.invokevirtual 192, 3) := by decide +kernel
theorem d_M_writeArray_34 : decode b_M_writeArray 34 = .ok (.aload_n 0, 1) := by decide +kernel
theorem d_M_writeArray_35 : decode b_M_writeArray 35 = .ok (.aload_n 0, 1) := by decide +kernel
theorem d_M_writeArray_36 : decode b_M_writeArray 36 = .ok (.getfield 45, 3) := by decide +kernel
theorem d_M_writeArray_39 : decode b_M_writeArray 39 = .ok (.iload_n 1, 1) := by decide +kernel
theorem d_M_writeArray_40 : decode b_M_writeArray 40 = .ok (.iaload, 1) := by decide +kernel
theorem d_M_writeArray_41 : decode b_M_writeArray 41 = .ok (.i2l, 1) := by decide +kernel
theorem d_M_writeArray_42 : decode b_M_writeArray 42 = .ok (.iconst 4, 1) := by decide +kernel
theorem d_M_writeArray_43 : decode b_M_writeArray 43 = .ok (.invokevirtual 83, 3) := by decide +kernel
theorem d_M_writeArray_46 : decode b_M_writeArray 46 = .ok (.iconst 0, 1) := by decide +kernel
theorem d_M_writeArray_47 : decode b_M_writeArray 47 = .ok (.istore_n 3, 1) := by decide +kernel
theorem d_M_writeArray_48 : decode b_M_writeArray 48 = .ok (.iload_n 2, 1) := by decide +kernel
theorem d_M_writeArray_49 : decode b_M_writeArray 49 = .ok (.ifCond .ne 35, 3) := by decide +kernel
theorem d_M_writeArray_52 : decode b_M_writeArray 52 = .ok (.iload_n 3, 1) := by decide +kernel
theorem d_M_writeArray_53 : decode b_M_writeArray 53 = .ok (.aload_n 0, 1) := by decide +kernel
theorem d_M_writeArray_54 : decode b_M_writeArray 54 = .ok (.getfield 45, 3) := by decide +kernel
theorem d_M_writeArray_57 : decode b_M_writeArray 57 = .ok (.iload_n 1, 1) := by decide +kernel
theorem d_M_writeArray_58 : decode b_M_writeArray 58 = .ok (.iaload, 1) := by decide +kernel
theorem d_M_writeArray_59 : decode b_M_writeArray 59 = .ok (.if_icmp .ge 25, 3) := by decide +kernel
theorem d_M_writeArray_62 : decode b_M_writeArray 62 = .ok (.aload_n 0, 1) := by decide +kernel
theorem d_M_writeArray_63 : decode b_M_writeArray 63 = .ok (.aload_n 0, 1) := by decide +kernel
theorem d_M_writeArray_64 : decode b_M_writeArray 64 = .ok (.getfield 48, 3) := by decide +kernel
theorem d_M_writeArray_67 : decode b_M_writeArray 67 = .ok (.bipush 24, 2) := by decide +kernel
theorem d_M_writeArray_69 : decode b_M_writeArray 69 = .ok (.iload_n 1, 1) := by decide +kernel
theorem d_M_writeArray_70 : decode b_M_writeArray 70 = .ok (.imul, 1) := by decide +kernel
theorem d_M_writeArray_71 : decode b_M_writeArray 71 = .ok (.iload_n 3, 1) := by decide +kernel
theorem d_M_writeArray_72 : decode b_M_writeArray 72 = .ok (.iadd, 1) := by decide +kernel
theorem d_M_writeArray_73 : decode b_M_writeArray 73 = .ok (.laload, 1) := by decide +kernel
theorem d_M_writeArray_74 : decode b_M_writeArray 74 = .ok (.iconst 4, 1) := by decide +kernel
theorem d_M_writeArray_75 : decode b_M_writeArray 75 = .ok (.invokevirtual 83, 3) := by decide +kernel
theorem d_M_writeArray_78 : decode b_M_writeArray 78 = .ok (.iinc 3 1, 3) := by decide +kernel
theorem d_M_writeArray_81 : decode b_M_writeArray 81 = .ok (.goto (-33), 3) := by decide +kernel
theorem d_M_writeArray_84 : decode b_M_writeArray 84 = .ok (.aload_n 0, 1) := by decide +kernel
theorem d_M_writeArray_85 : decode b_M_writeArray 85 = .ok (.getfield 45, 3) := by decide +kernel
theorem d_M_writeArray_88 : decode b_M_writeArray 88 = .ok (.iload_n 1, 1) := by decide +kernel
theorem d_M_writeArray_89 : decode b_M_writeArray 89 = .ok (.iaload, 1) := by decide +kernel
theorem d_M_writeArray_90 : decode b_M_writeArray 90 = .ok (.iconst 1, 1) := by decide +kernel
theorem d_M_writeArray_91 : decode b_M_writeArray 91 = .ok (.isub, 1) := by decide +kernel
theorem d_M_writeArray_92 : decode b_M_writeArray 92 = .ok (.istore_n 3, 1) := by decide +kernel
theorem d_M_writeArray_93 : decode b_M_writeArray 93 = .ok (.iload_n 2, 1) := by decide +kernel
theorem d_M_writeArray_94 : decode b_M_writeArray 94 = .ok (.ifCond .eq 31, 3) := by decide +kernel
theorem d_M_writeArray_97 : decode b_M_writeArray 97 = .ok (.iload_n 3, 1) := by decide +kernel
theorem d_M_writeArray_98 : decode b_M_writeArray 98 = .ok (.ifCond .lt 27, 3) := by decide +kernel
theorem d_M_writeArray_101 : decode b_M_writeArray 101 = .ok (.aload_n 0, 1) := by decide +kernel
theorem d_M_writeArray_102 : decode b_M_writeArray 102 = .ok (.iconst 0, 1) := by decide +kernel
theorem d_M_writeArray_103 : decode b_M_writeArray 103 = .ok (.aload_n 0, 1) := by decide +kernel
theorem d_M_writeArray_104 : decode b_M_writeArray 104 = .ok (.getfield 48, 3) := by decide +kernel
theorem d_M_writeArray_107 : decode b_M_writeArray 107 = .ok (.bipush 24, 2) := by decide +kernel
theorem d_M_writeArray_109 : decode b_M_writeArray 109 = .ok (.iload_n 1, 1) := by decide +kernel
theorem d_M_writeArray_110 : decode b_M_writeArray 110 = .ok (.imul, 1) := by decide +kernel
theorem d_M_writeArray_111 : decode b_M_writeArray 111 = .ok (.iload_n 3, 1) := by decide +kernel
theorem d_M_writeArray_112 : decode b_M_writeArray 112 = .ok (.iadd, 1) := by decide +kernel
theorem d_M_writeArray_113 : decode b_M_writeArray 113 = .ok (.laload, 1) := by decide +kernel
theorem d_M_writeArray_114 : decode b_M_writeArray 114 = .ok (.l2i, 1) := by decide +kernel
theorem d_M_writeArray_115 : decode b_M_writeArray 115 = .ok (.iconst 0, 1) := by decide +kernel
theorem d_M_writeArray_116 : decode b_M_writeArray 116 = .ok (.invokevirtual 237, 3) := by decide +kernel
theorem d_M_writeArray_119 : decode b_M_writeArray 119 = .ok (.iinc 3 (-1), 3) := by decide +kernel
theorem d_M_writeArray_122 : decode b_M_writeArray 122 = .ok (.goto (-29), 3) := by decide +kernel
theorem d_M_writeArray_125 : decode b_M_writeArray 125 = .ok (.return_, 1) := by decide +kernel
theorem d_M_arrayDescriptor_0 : decode b_M_arrayDescriptor 0 = .ok (.iload_n 1, 1) := by decide +kernel
theorem d_M_arrayDescriptor_1 : decode b_M_arrayDescriptor 1 = .ok (.ifCond .eq 8, 3) := by decide +kernel
theorem d_M_arrayDescriptor_4 : decode b_M_arrayDescriptor 4 = .ok (.bipush 47, 2) := by decide +kernel
theorem d_M_arrayDescriptor_6 : decode b_M_arrayDescriptor 6 = .ok (.goto 5, 3) := by decide +kernel
theorem d_M_arrayDescriptor_9 : decode b_M_arrayDescriptor 9 = .ok (.bipush 46, 2) := by decide +kernel
theorem d_M_arrayDescriptor_11 : decode b_M_arrayDescriptor 11 = .ok (.istore_n 2, 1) := by decide +kernel
theorem d_M_arrayDescriptor_12 : decode b_M_arrayDescriptor 12 = .ok (.aload_n 0, 1) := by decide +kernel
theorem d_M_arrayDescriptor_13 : decode b_M_arrayDescriptor 13 = .ok (.getfield 63, 3) := by decide +kernel
theorem d_M_arrayDescriptor_16 : decode b_M_arrayDescriptor 16 = .ok (.iload_n 2, 1) := by decide +kernel
theorem d_M_arrayDescriptor_17 : decode b_M_arrayDescriptor 17 = .ok (.iaload, 1) := by decide +kernel
theorem d_M_arrayDescriptor_18 : decode b_M_arrayDescriptor 18 = .ok (.ifCond .lt 9, 3) := by decide +kernel
theorem d_M_arrayDescriptor_21 : decode b_M_arrayDescriptor 21 = .ok (.aload_n 0, 1) := by decide +kernel
theorem d_M_arrayDescriptor_22 : decode b_M_arrayDescriptor 22 = .ok (.iload_n 2, 1) := by decide +kernel
theorem d_M_arrayDescriptor_23 : decode b_M_arrayDescriptor 23 = .ok (.invokevirtual 187, 3) := by decide +kernel
theorem d_M_arrayDescriptor_26 : decode b_M_arrayDescriptor 26 = .ok (.return_, 1) := by decide +kernel
theorem d_M_arrayDescriptor_27 : decode b_M_arrayDescriptor 27 = .ok (.aload_n 0, 1) := by decide +kernel
theorem d_M_arrayDescriptor_28 : decode b_M_arrayDescriptor 28 = .ok (.ldc2_w 200, 3) := by decide +kernel
theorem d_M_arrayDescriptor_31 : decode b_M_arrayDescriptor 31 = .ok (.iconst 1, 1) := by decide +kernel
theorem d_M_arrayDescriptor_32 : decode b_M_arrayDescriptor 32 = .ok (.invokevirtual 83, 3) := by decide +kernel
theorem d_M_arrayDescriptor_35 : decode b_M_arrayDescriptor 35 = .ok (.iload_n 1, 1) := by decide +kernel
theorem d_M_arrayDescriptor_36 : decode b_M_arrayDescriptor 36 = .ok (.ifCond .eq 40, 3) := by decide +kernel
theorem d_M_arrayDescriptor_39 : decode b_M_arrayDescriptor 39 = .ok (.aload_n 0, 1) := by decide +kernel
theorem d_M_arrayDescriptor_40 : decode b_M_arrayDescriptor 40 = .ok (.ldc2_w 225, 3) := by decide +kernel
theorem d_M_arrayDescriptor_43 : decode b_M_arrayDescriptor 43 = .ok (.iconst 2, 1) := by decide +kernel
theorem d_M_arrayDescriptor_44 : decode b_M_arrayDescriptor 44 = .ok (.invokevirtual 83, 3) := by decide +kernel
theorem d_M_arrayDescriptor_47 : decode b_M_arrayDescriptor 47 = .ok (.aload_n 0, 1) := by decide +kernel
theorem d_M_arrayDescriptor_48 : decode b_M_arrayDescriptor 48 = .ok (.ldc2_w 227, 3) := by decide +kernel
theorem d_M_arrayDescriptor_51 : decode b_M_arrayDescriptor 51 = .ok (.bipush 8, 2) := by decide +kernel
theorem d_M_arrayDescriptor_53 : decode b_M_arrayDescriptor 53 = .ok (.invokevirtual 83, 3) := by decide +kernel
theorem d_M_arrayDescriptor_56 : decode b_M_arrayDescriptor 56 = .ok (.aload_n 0, 1) := by decide +kernel
theorem d_M_arrayDescriptor_57 : decode b_M_arrayDescriptor 57 = .ok (.ldc2_w 229, 3) := by decide +kernel
theorem d_M_arrayDescriptor_60 : decode b_M_arrayDescriptor 60 = .ok (.bipush 8, 2) := by decide +kernel
theorem d_M_arrayDescriptor_62 : decode b_M_arrayDescriptor 62 = .ok (.invokevirtual 83, 3) := by decide +kernel
theorem d_M_arrayDescriptor_65 : decode b_M_arrayDescriptor 65 = .ok (.aload_n 0, 1) := by decide +kernel
theorem d_M_arrayDescriptor_66 : decode b_M_arrayDescriptor 66 = .ok (.ldc2_w 231, 3) := by decide +kernel
theorem d_M_arrayDescriptor_69 : decode b_M_arrayDescriptor 69 = .ok (.iconst 3, 1) := by decide +kernel
theorem d_M_arrayDescriptor_70 : decode b_M_arrayDescriptor 70 = .ok (.invokevirtual 83, 3) := by decide +kernel
theorem d_M_arrayDescriptor_73 : decode b_M_arrayDescriptor 73 = .ok (.goto 19, 3) := by decide +kernel
theorem d_M_arrayDescriptor_76 : decode b_M_arrayDescriptor 76 = .ok (.aload_n 0, 1) := by decide +kernel
theorem d_M_arrayDescriptor_77 : decode b_M_arrayDescriptor 77 = .ok (.ldc2_w 155, 3) := by decide +kernel
theorem d_M_arrayDescriptor_80 : decode b_M_arrayDescriptor 80 = .ok (.iconst 2, 1) := by decide +kernel
theorem d_M_arrayDescriptor_81 : decode b_M_arrayDescriptor 81 = .ok (.invokevirtual 83, 3) := by decide +kernel
theorem d_M_arrayDescriptor_84 : decode b_M_arrayDescriptor 84 = .ok (.aload_n 0, 1) := by decide +kernel
theorem d_M_arrayDescriptor_85 : decode b_M_arrayDescriptor 85 = .ok (.ldc2_w 157, 3) := by decide +kernel
theorem d_M_arrayDescriptor_88 : decode b_M_arrayDescriptor 88 = .ok (.iconst 2, 1) := by decide +kernel
theorem d_M_arrayDescriptor_89 : decode b_M_arrayDescriptor 89 = .ok (.invokevirtual 83, 3) := by decide +kernel
theorem d_M_arrayDescriptor_92 : decode b_M_arrayDescriptor 92 = .ok (.aload_n 0, 1) := by decide +kernel
theorem d_M_arrayDescriptor_93 : decode b_M_arrayDescriptor 93 = .ok (.iload_n 1, 1) := by decide +kernel
theorem d_M_arrayDescriptor_94 : decode b_M_arrayDescriptor 94 = .ok (.ifCond .eq 9, 3) := by decide +kernel
theorem d_M_arrayDescriptor_97 : decode b_M_arrayDescriptor 97 = .ok (.ldc2_w 233, 3) := by decide +kernel
theorem d_M_arrayDescriptor_100 : decode b_M_arrayDescriptor 100 = .ok (.goto 6, 3) := by decide +kernel
theorem d_M_arrayDescriptor_103 : decode b_M_arrayDescriptor 103 = .ok (.ldc2_w 235, 3) := by decide +kernel
theorem d_M_arrayDescriptor_106 : decode b_M_arrayDescriptor 106 = .ok (.bipush 8, 2) := by decide +kernel
theorem d_M_arrayDescriptor_108 : decode b_M_arrayDescriptor 108 = .ok (.invokevirtual 83, 3) := by decide +kernel
theorem d_M_arrayDescriptor_111 : decode b_M_arrayDescriptor 111 = .ok (.aload_n 0, 1) := by decide +kernel
theorem d_M_arrayDescriptor_112 : decode b_M_arrayDescriptor 112 = .ok (.iload_n 2, 1) := by decide +kernel
theorem d_M_arrayDescriptor_113 : decode b_M_arrayDescriptor 113 = .ok (.iconst 2, 1) := by decide +kernel
theorem d_M_arrayDescriptor_114 : decode b_M_arrayDescriptor 114 = .ok (.invokevirtual 208, 3) := by decide +kernel
theorem d_M_arrayDescriptor_117 : decode b_M_arrayDescriptor 117 = .ok (.aload_n 0, 1) := by decide +kernel
theorem d_M_arrayDescriptor_118 : decode b_M_arrayDescriptor 118 = .ok (.ldc2_w 212, 3) := by decide +kernel
theorem d_M_arrayDescriptor_121 : decode b_M_arrayDescriptor 121 = .ok (.iconst 1, 1) := by decide +kernel
theorem d_M_arrayDescriptor_122 : decode b_M_arrayDescriptor 122 = .ok (.invokevirtual 83, 3) := by decide +kernel
theorem d_M_arrayDescriptor_125 : decode b_M_arrayDescriptor 125 = .ok (.return_, 1) := by decide +kernel
theorem d_M_plainEnd_0 : decode b_M_plainEnd 0 = .ok (.aload_n 0, 1) := by decide +kernel
theorem d_M_plainEnd_1 : decode b_M_plainEnd 1 = .ok (.iload_n 1, 1) := by decide +kernel
theorem d_M_plainEnd_2 : decode b_M_plainEnd 2 = .ok (.invokevirtual 192, 3) := by decide +kernel
theorem d_M_plainEnd_5 : decode b_M_plainEnd 5 = .ok (.aload_n 0, 1) := by decide +kernel
theorem d_M_plainEnd_6 : decode b_M_plainEnd 6 = .ok (.iload_n 2, 1) := by decide +kernel
theorem d_M_plainEnd_7 : decode b_M_plainEnd 7 = .ok (.i2l, 1) := by decide +kernel
theorem d_M_plainEnd_8 : decode b_M_plainEnd 8 = .ok (.iconst 1, 1) := by decide +kernel
theorem d_M_plainEnd_9 : decode b_M_plainEnd 9 = .ok (.invokevirtual 83, 3) := by decide +kernel
theorem d_M_plainEnd_12 : decode b_M_plainEnd 12 = .ok (.aload_n 0, 1) := by decide +kernel
theorem d_M_plainEnd_13 : decode b_M_plainEnd 13 = .ok (.lconst 0, 1) := by decide +kernel
theorem d_M_plainEnd_14 : decode b_M_plainEnd 14 = .ok (.iconst 2, 1) := by decide +kernel
theorem d_M_plainEnd_15 : decode b_M_plainEnd 15 = .ok (.invokevirtual 83, 3) := by decide +kernel
theorem d_M_plainEnd_18 : decode b_M_plainEnd 18 = .ok (.aload_n 0, 1) := by decide +kernel
theorem d_M_plainEnd_19 : decode b_M_plainEnd 19 = .ok (.ldc2_w 198, 3) := by decide +kernel
theorem d_M_plainEnd_22 : decode b_M_plainEnd 22 = .ok (.iconst 1, 1) := by decide +kernel
theorem d_M_plainEnd_23 : decode b_M_plainEnd 23 = .ok (.invokevirtual 83, 3) := by decide +kernel
theorem d_M_plainEnd_26 : decode b_M_plainEnd 26 = .ok (.return_, 1) := by decide +kernel
theorem d_M_push_0 : decode b_M_push 0 = .ok (.aload_n 0, 1) := by decide +kernel
theorem d_M_push_1 : decode b_M_push 1 = .ok (.getfield 66, 3) := by decide +kernel
theorem d_M_push_4 : decode b_M_push 4 = .ok (.aload_n 0, 1) := by decide +kernel
theorem d_M_push_5 : decode b_M_push 5 = .ok (.getfield 152, 3) := by decide +kernel
theorem d_M_push_8 : decode b_M_push 8 = .ok (.iload_n 1, 1) := by decide +kernel
theorem d_M_push_9 : decode b_M_push 9 = .ok (.iastore, 1) := by decide +kernel
theorem d_M_push_10 : decode b_M_push 10 = .ok (.aload_n 0, 1) := by decide +kernel
theorem d_M_push_11 : decode b_M_push 11 = .ok (.getfield 69, 3) := by decide +kernel
theorem d_M_push_14 : decode b_M_push 14 = .ok (.aload_n 0, 1) := by decide +kernel
theorem d_M_push_15 : decode b_M_push 15 = .ok (.getfield 152, 3) := by decide +kernel
theorem d_M_push_18 : decode b_M_push 18 = .ok (.iload_n 2, 1) := by decide +kernel
theorem d_M_push_19 : decode b_M_push 19 = .ok (.iastore, 1) := by decide +kernel
theorem d_M_push_20 : decode b_M_push 20 = .ok (.aload_n 0, 1) := by decide +kernel
theorem d_M_push_21 : decode b_M_push 21 = .ok (.getfield 72, 3) := by decide +kernel
theorem d_M_push_24 : decode b_M_push 24 = .ok (.aload_n 0, 1) := by decide +kernel
theorem d_M_push_25 : decode b_M_push 25 = .ok (.getfield 152, 3) := by decide +kernel
theorem d_M_push_28 : decode b_M_push 28 = .ok (.iload_n 3, 1) := by decide +kernel
theorem d_M_push_29 : decode b_M_push 29 = .ok (.iastore, 1) := by decide +kernel
theorem d_M_push_30 : decode b_M_push 30 = .ok (.aload_n 0, 1) := by decide +kernel
theorem d_M_push_31 : decode b_M_push 31 = .ok (.dup, 1) := by decide +kernel
theorem d_M_push_32 : decode b_M_push 32 = .ok (.getfield 152, 3) := by decide +kernel
theorem d_M_push_35 : decode b_M_push 35 = .ok (.iconst 1, 1) := by decide +kernel
theorem d_M_push_36 : decode b_M_push 36 = .ok (.iadd, 1) := by decide +kernel
theorem d_M_push_37 : decode b_M_push 37 = .ok (.putfield 152, 3) := by decide +kernel
theorem d_M_push_40 : decode b_M_push 40 = .ok (.return_, 1) := by decide +kernel
theorem d_M_writeConstant_0 : decode b_M_writeConstant 0 = .ok (.aload_n 0, 1) := by decide +kernel
theorem d_M_writeConstant_1 : decode b_M_writeConstant 1 = .ok (.ldc2_w 247, 3) := by decide +kernel
theorem d_M_writeConstant_4 : decode b_M_writeConstant 4 = .ok (.iconst 1, 1) := by decide +kernel
theorem d_M_writeConstant_5 : decode b_M_writeConstant 5 = .ok (.invokevirtual 83, 3) := by decide +kernel
theorem d_M_writeConstant_8 : decode b_M_writeConstant 8 = .ok (.aload_n 0, 1) := by decide +kernel
theorem d_M_writeConstant_9 : decode b_M_writeConstant 9 = .ok (.aload_n 0, 1) := by decide +kernel
theorem d_M_writeConstant_10 : decode b_M_writeConstant 10 = .ok (.getfield 39, 3) := by decide +kernel
theorem d_M_writeConstant_13 : decode b_M_writeConstant 13 = .ok (.iload_n 1, 1) := by decide +kernel
theorem d_M_writeConstant_14 : decode b_M_writeConstant 14 = .ok (.iaload, 1) := by decide +kernel
theorem d_M_writeConstant_15 : decode b_M_writeConstant 15 = .ok (.invokevirtual 249, 3) := by decide +kernel
theorem d_M_writeConstant_18 : decode b_M_writeConstant 18 = .ok (.aload_n 0, 1) := by decide +kernel
theorem d_M_writeConstant_19 : decode b_M_writeConstant 19 = .ok (.iload_n 1, 1) := by decide +kernel
theorem d_M_writeConstant_20 : decode b_M_writeConstant 20 = .ok (.invokevirtual 192, 3) := by decide +kernel
theorem d_M_writeConstant_23 : decode b_M_writeConstant 23 = .ok (.aload_n 0, 1) := by decide +kernel
theorem d_M_writeConstant_24 : decode b_M_writeConstant 24 = .ok (.getfield 63, 3) := by decide +kernel
theorem d_M_writeConstant_27 : decode b_M_writeConstant 27 = .ok (.bipush 20, 2) := by decide +kernel
theorem d_M_writeConstant_29 : decode b_M_writeConstant 29 = .ok (.iload_n 1, 1) := by decide +kernel
theorem d_M_writeConstant_30 : decode b_M_writeConstant 30 = .ok (.iadd, 1) := by decide +kernel
theorem d_M_writeConstant_31 : decode b_M_writeConstant 31 = .ok (.iaload, 1) := by decide +kernel
theorem d_M_writeConstant_32 : decode b_M_writeConstant 32 = .ok (.ifCond .lt 12, 3) := by decide +kernel
theorem d_M_writeConstant_35 : decode b_M_writeConstant 35 = .ok (.aload_n 0, 1) := by decide +kernel
theorem d_M_writeConstant_36 : decode b_M_writeConstant 36 = .ok (.bipush 20, 2) := by decide +kernel
theorem d_M_writeConstant_38 : decode b_M_writeConstant 38 = .ok (.iload_n 1, 1) := by decide +kernel
theorem d_M_writeConstant_39 : decode b_M_writeConstant 39 = .ok (.iadd, 1) := by decide +kernel
theorem d_M_writeConstant_40 : decode b_M_writeConstant 40 = .ok (.invokevirtual 187, 3) := by decide +kernel
theorem d_M_writeConstant_43 : decode b_M_writeConstant 43 = .ok (.return_, 1) := by decide +kernel
theorem d_M_writeConstant_44 : decode b_M_writeConstant 44 = .ok (.aload_n 0, 1) := by decide +kernel
theorem d_M_writeConstant_45 : decode b_M_writeConstant 45 = .ok (.ldc2_w 190, 3) := by decide +kernel
theorem d_M_writeConstant_48 : decode b_M_writeConstant 48 = .ok (.iconst 1, 1) := by decide +kernel
theorem d_M_writeConstant_49 : decode b_M_writeConstant 49 = .ok (.invokevirtual 83, 3) := by decide +kernel
theorem d_M_writeConstant_52 : decode b_M_writeConstant 52 = .ok (.aload_n 0, 1) := by decide +kernel
theorem d_M_writeConstant_53 : decode b_M_writeConstant 53 = .ok (.bipush 20, 2) := by decide +kernel
theorem d_M_writeConstant_55 : decode b_M_writeConstant 55 = .ok (.iload_n 1, 1) := by decide +kernel
theorem d_M_writeConstant_56 : decode b_M_writeConstant 56 = .ok (.iadd, 1) := by decide +kernel
theorem d_M_writeConstant_57 : decode b_M_writeConstant 57 = .ok (.invokevirtual 192, 3) := by decide +kernel
theorem d_M_writeConstant_60 : decode b_M_writeConstant 60 = .ok (.aload_n 0, 1) := by decide +kernel
theorem d_M_writeConstant_61 : decode b_M_writeConstant 61 = .ok (.bipush 97, 2) := by decide +kernel
theorem d_M_writeConstant_63 : decode b_M_writeConstant 63 = .ok (.aload_n 0, 1) := by decide +kernel
theorem d_M_writeConstant_64 : decode b_M_writeConstant 64 = .ok (.getfield 42, 3) := by decide +kernel
theorem d_M_writeConstant_67 : decode b_M_writeConstant 67 = .ok (.iload_n 1, 1) := by decide +kernel
theorem d_M_writeConstant_68 : decode b_M_writeConstant 68 = .ok (.iaload, 1) := by decide +kernel
theorem d_M_writeConstant_69 : decode b_M_writeConstant 69 = .ok (.iadd, 1) := by decide +kernel
theorem d_M_writeConstant_70 : decode b_M_writeConstant 70 = .ok (.invokevirtual 183, 3) := by decide +kernel
theorem d_M_writeConstant_73 : decode b_M_writeConstant 73 = .ok (.return_, 1) := by decide +kernel
theorem d_M_descriptor_0 : decode b_M_descriptor 0 = .ok (.iload_n 1, 1) := by decide +kernel
theorem d_M_descriptor_1 : decode b_M_descriptor 1 = .ok (.istore_n 2, 1) := by decide +kernel
theorem d_M_descriptor_2 : decode b_M_descriptor 2 = .ok (.iconst 0, 1) := by decide +kernel
theorem d_M_descriptor_3 : decode b_M_descriptor 3 = .ok (.istore_n 3, 1) := by decide +kernel
theorem d_M_descriptor_4 : decode b_M_descriptor 4 = .ok (.iload_n 3, 1) := by decide +kernel
theorem d_M_descriptor_5 : decode b_M_descriptor 5 = .ok (.bipush 7, 2) := by decide +kernel
theorem d_M_descriptor_7 : decode b_M_descriptor 7 = .ok (.if_icmp .ge 208, 3) := by decide +kernel
theorem d_M_descriptor_10 : decode b_M_descriptor 10 = .ok (.iload_n 2, 1) := by decide +kernel
theorem d_M_descriptor_11 : decode b_M_descriptor 11 = .ok (.ifCond .lt 12, 3) := by decide +kernel
theorem d_M_descriptor_14 : decode b_M_descriptor 14 = .ok (.aload_n 0, 1) := by decide +kernel
theorem d_M_descriptor_15 : decode b_M_descriptor 15 = .ok (.getfield 13, 3) := by decide +kernel
theorem d_M_descriptor_18 : decode b_M_descriptor 18 = .ok (.iload_n 2, 1) := by decide +kernel
theorem d_M_descriptor_19 : decode b_M_descriptor 19 = .ok (.iaload, 1) := by decide +kernel
theorem d_M_descriptor_20 : decode b_M_descriptor 20 = .ok (.ifCond .ne 12, 3) := by decide +kernel
theorem d_M_descriptor_23 : decode b_M_descriptor 23 = .ok (.aload_n 0, 1) := by decide +kernel
theorem d_M_descriptor_24 : decode b_M_descriptor 24 = .ok (.ldc2_w 212, 3) := by decide +kernel
theorem d_M_descriptor_27 : decode b_M_descriptor 27 = .ok (.iconst 1, 1) := by decide +kernel
theorem d_M_descriptor_28 : decode b_M_descriptor 28 = .ok (.invokevirtual 83, 3) := by decide +kernel
theorem d_M_descriptor_31 : decode b_M_descriptor 31 = .ok (.return_, 1) := by decide +kernel
theorem d_M_descriptor_32 : decode b_M_descriptor 32 = .ok (.aload_n 0, 1) := by decide +kernel
theorem d_M_descriptor_33 : decode b_M_descriptor 33 = .ok (.getfield 63, 3) := by decide +kernel
theorem d_M_descriptor_36 : decode b_M_descriptor 36 = .ok (.bipush 40, 2) := by decide +kernel
theorem d_M_descriptor_38 : decode b_M_descriptor 38 = .ok (.iload_n 2, 1) := by decide +kernel
theorem d_M_descriptor_39 : decode b_M_descriptor 39 = .ok (.iadd, 1) := by decide +kernel
theorem d_M_descriptor_40 : decode b_M_descriptor 40 = .ok (.iaload, 1) := by decide +kernel
theorem d_M_descriptor_41 : decode b_M_descriptor 41 = .ok (.ifCond .lt 12, 3) := by decide +kernel
theorem d_M_descriptor_44 : decode b_M_descriptor 44 = .ok (.aload_n 0, 1) := by decide +kernel
theorem d_M_descriptor_45 : decode b_M_descriptor 45 = .ok (.bipush 40, 2) := by decide +kernel
theorem d_M_descriptor_47 : decode b_M_descriptor 47 = .ok (.iload_n 2, 1) := by decide +kernel
theorem d_M_descriptor_48 : decode b_M_descriptor 48 = .ok (.iadd, 1) := by decide +kernel
theorem d_M_descriptor_49 : decode b_M_descriptor 49 = .ok (.invokevirtual 187, 3) := by decide +kernel
theorem d_M_descriptor_52 : decode b_M_descriptor 52 = .ok (.return_, 1) := by decide +kernel
theorem d_M_descriptor_53 : decode b_M_descriptor 53 = .ok (.aload_n 0, 1) := by decide +kernel
theorem d_M_descriptor_54 : decode b_M_descriptor 54 = .ok (.ldc2_w 200, 3) := by decide +kernel
theorem d_M_descriptor_57 : decode b_M_descriptor 57 = .ok (.iconst 1, 1) := by decide +kernel
theorem d_M_descriptor_58 : decode b_M_descriptor 58 = .ok (.invokevirtual 83, 3) := by decide +kernel
theorem d_M_descriptor_61 : decode b_M_descriptor 61 = .ok (.aload_n 0, 1) := by decide +kernel
theorem d_M_descriptor_62 : decode b_M_descriptor 62 = .ok (.bipush 65, 2) := by decide +kernel
theorem d_M_descriptor_64 : decode b_M_descriptor 64 = .ok (.iload_n 2, 1) := by decide +kernel
theorem d_M_descriptor_65 : decode b_M_descriptor 65 = .ok (.iadd, 1) := by decide +kernel
theorem d_M_descriptor_66 : decode b_M_descriptor 66 = .ok (.invokevirtual 183, 3) := by decide +kernel
theorem d_M_descriptor_69 : decode b_M_descriptor 69 = .ok (.aload_n 0, 1) := by decide +kernel
theorem d_M_descriptor_70 : decode b_M_descriptor 70 = .ok (.aload_n 0, 1) := by decide +kernel
theorem d_M_descriptor_71 : decode b_M_descriptor 71 = .ok (.getfield 13, 3) := by decide +kernel
theorem d_M_descriptor_74 : decode b_M_descriptor 74 = .ok (.iload_n 2, 1) := by decide +kernel
theorem d_M_descriptor_75 : decode b_M_descriptor 75 = .ok (.iaload, 1) := by decide +kernel
theorem d_M_descriptor_76 : decode b_M_descriptor 76 = .ok (.iconst 3, 1) := by decide +kernel
theorem d_M_descriptor_77 : decode b_M_descriptor 77 = .ok (.if_icmp .ne 7, 3) := by decide +kernel
theorem d_M_descriptor_80 : decode b_M_descriptor 80 = .ok (.lconst 0, 1) := by decide +kernel
theorem d_M_descriptor_81 : decode b_M_descriptor 81 = .ok (.goto 9, 3) := by decide +kernel
theorem d_M_descriptor_84 : decode b_M_descriptor 84 = .ok (.aload_n 0, 1) := by decide +kernel
theorem d_M_descriptor_85 : decode b_M_descriptor 85 = .ok (.getfield 20, 3) := by decide +kernel
theorem d_M_descriptor_88 : decode b_M_descriptor 88 = .ok (.iload_n 2, 1) := by decide +kernel
theorem d_M_descriptor_89 : decode b_M_descriptor 89 = .ok (.laload, 1) := by decide +kernel
theorem d_M_descriptor_90 : decode b_M_descriptor 90 = .ok (.bipush 8, 2) := by decide +kernel
theorem d_M_descriptor_92 : decode b_M_descriptor 92 = .ok (.invokevirtual 83, 3) := by decide +kernel
theorem d_M_descriptor_95 : decode b_M_descriptor 95 = .ok (.aload_n 0, 1) := by decide +kernel
theorem d_M_descriptor_96 : decode b_M_descriptor 96 = .ok (.getfield 13, 3) := by decide +kernel
theorem d_M_descriptor_99 : decode b_M_descriptor 99 = .ok (.iload_n 2, 1) := by decide +kernel
theorem d_M_descriptor_100 : decode b_M_descriptor 100 = .ok (.iaload, 1) := by decide +kernel
theorem d_M_descriptor_101 : decode b_M_descriptor 101 = .ok (.iconst 3, 1) := by decide +kernel
theorem d_M_descriptor_102 : decode b_M_descriptor 102 = .ok (.if_icmp .ne 18, 3) := by decide +kernel
theorem d_M_descriptor_105 : decode b_M_descriptor 105 = .ok (.aload_n 0, 1) := by decide +kernel
theorem d_M_descriptor_106 : decode b_M_descriptor 106 = .ok (.bipush 40, 2) := by decide +kernel
theorem d_M_descriptor_108 : decode b_M_descriptor 108 = .ok (.iload_n 2, 1) := by decide +kernel
theorem d_M_descriptor_109 : decode b_M_descriptor 109 = .ok (.iadd, 1) := by decide +kernel
theorem d_M_descriptor_110 : decode b_M_descriptor 110 = .ok (.bipush 18, 2) := by decide +kernel
theorem d_M_descriptor_112 : decode b_M_descriptor 112 = .ok (.invokevirtual 208, 3) := by decide +kernel
theorem d_M_descriptor_115 : decode b_M_descriptor 115 = .ok (.aload_n 0, 1) := by decide +kernel
theorem d_M_descriptor_116 : decode b_M_descriptor 116 = .ok (.invokevirtual 214, 3) := by decide +kernel
theorem d_M_descriptor_119 : decode b_M_descriptor 119 = .ok (.return_, 1) := by decide +kernel
theorem d_M_descriptor_120 : decode b_M_descriptor 120 = .ok (.aload_n 0, 1) := by decide +kernel
theorem d_M_descriptor_121 : decode b_M_descriptor 121 = .ok (.bipush 40, 2) := by decide +kernel
theorem d_M_descriptor_123 : decode b_M_descriptor 123 = .ok (.iload_n 2, 1) := by decide +kernel
theorem d_M_descriptor_124 : decode b_M_descriptor 124 = .ok (.iadd, 1) := by decide +kernel
theorem d_M_descriptor_125 : decode b_M_descriptor 125 = .ok (.invokevirtual 192, 3) := by decide +kernel
theorem d_M_descriptor_128 : decode b_M_descriptor 128 = .ok (.aload_n 0, 1) := by decide +kernel
theorem d_M_descriptor_129 : decode b_M_descriptor 129 = .ok (.aload_n 0, 1) := by decide +kernel
theorem d_M_descriptor_130 : decode b_M_descriptor 130 = .ok (.getfield 13, 3) := by decide +kernel
theorem d_M_descriptor_133 : decode b_M_descriptor 133 = .ok (.iload_n 2, 1) := by decide +kernel
theorem d_M_descriptor_134 : decode b_M_descriptor 134 = .ok (.iaload, 1) := by decide +kernel
theorem d_M_descriptor_135 : decode b_M_descriptor 135 = .ok (.iconst 2, 1) := by decide +kernel
theorem d_M_descriptor_136 : decode b_M_descriptor 136 = .ok (.if_icmp .ne 9, 3) := by decide +kernel
theorem d_M_descriptor_139 : decode b_M_descriptor 139 = .ok (.ldc2_w 217, 3) := by decide +kernel
theorem d_M_descriptor_142 : decode b_M_descriptor 142 = .ok (.goto 6, 3) := by decide +kernel
theorem d_M_descriptor_145 : decode b_M_descriptor 145 = .ok (.ldc2_w 155, 3) := by decide +kernel
theorem d_M_descriptor_148 : decode b_M_descriptor 148 = .ok (.iconst 1, 1) := by decide +kernel
theorem d_M_descriptor_149 : decode b_M_descriptor 149 = .ok (.invokevirtual 83, 3) := by decide +kernel
theorem d_M_descriptor_152 : decode b_M_descriptor 152 = .ok (.aload_n 0, 1) := by decide +kernel
theorem d_M_descriptor_153 : decode b_M_descriptor 153 = .ok (.iload_n 2, 1) := by decide +kernel
theorem d_M_descriptor_154 : decode b_M_descriptor 154 = .ok (.invokevirtual 219, 3) := by decide +kernel
theorem d_M_descriptor_157 : decode b_M_descriptor 157 = .ok (.istore 4, 2) := by decide +kernel
theorem d_M_descriptor_159 : decode b_M_descriptor 159 = .ok (.aload_n 0, 1) := by decide +kernel
theorem d_M_descriptor_160 : decode b_M_descriptor 160 = .ok (.iload 4, 2) := by decide +kernel
theorem d_M_descriptor_162 : decode b_M_descriptor 162 = .ok (.i2l, 1) := by decide +kernel
theorem d_M_descriptor_163 : decode b_M_descriptor 163 = .ok (.iconst 2, 1) := by decide +kernel
theorem d_M_descriptor_164 : decode b_M_descriptor 164 = .ok (.invokevirtual 83, 3) := by decide +kernel
theorem d_M_descriptor_167 : decode b_M_descriptor 167 = .ok (.iconst 0, 1) := by decide +kernel
theorem d_M_descriptor_168 : decode b_M_descriptor 168 = .ok (.istore 5, 2) := by decide +kernel
theorem d_M_descriptor_170 : decode b_M_descriptor 170 = .ok (.iload 5, 2) := by decide +kernel
theorem d_M_descriptor_172 : decode b_M_descriptor 172 = .ok (.iload 4, 2) := by decide +kernel
theorem d_M_descriptor_174 : decode b_M_descriptor 174 = .ok (.if_icmp .ge 20, 3) := by decide +kernel
theorem d_M_descriptor_177 : decode b_M_descriptor 177 = .ok (.aload_n 0, 1) := by decide +kernel
theorem d_M_descriptor_178 : decode b_M_descriptor 178 = .ok (.aload_n 0, 1) := by decide +kernel
theorem d_M_descriptor_179 : decode b_M_descriptor 179 = .ok (.getfield 75, 3) := by decide +kernel
theorem d_M_descriptor_182 : decode b_M_descriptor 182 = .ok (.iload 5, 2) := by decide +kernel
theorem d_M_descriptor_184 : decode b_M_descriptor 184 = .ok (.iaload, 1) := by decide +kernel
theorem d_M_descriptor_185 : decode b_M_descriptor 185 = .ok (.invokevirtual 222, 3) := by decide +kernel
theorem d_M_descriptor_188 : decode b_M_descriptor 188 = .ok (.iinc 5 1, 3) := by decide +kernel
theorem d_M_descriptor_191 : decode b_M_descriptor 191 = .ok (.goto (-21), 3) := by decide +kernel
theorem d_M_descriptor_194 : decode b_M_descriptor 194 = .ok (.aload_n 0, 1) := by decide +kernel
theorem d_M_descriptor_195 : decode b_M_descriptor 195 = .ok (.ldc2_w 198, 3) := by decide +kernel
theorem d_M_descriptor_198 : decode b_M_descriptor 198 = .ok (.iconst 1, 1) := by decide +kernel
theorem d_M_descriptor_199 : decode b_M_descriptor 199 = .ok (.invokevirtual 83, 3) := by decide +kernel
theorem d_M_descriptor_202 : decode b_M_descriptor 202 = .ok (.aload_n 0, 1) := by decide +kernel
theorem d_M_descriptor_203 : decode b_M_descriptor 203 = .ok (.getfield 17, 3) := by decide +kernel
theorem d_M_descriptor_206 : decode b_M_descriptor 206 = .ok (.iload_n 2, 1) := by decide +kernel
theorem d_M_descriptor_207 : decode b_M_descriptor 207 = .ok (.iaload, 1) := by decide +kernel
theorem d_M_descriptor_208 : decode b_M_descriptor 208 = .ok (.istore_n 2, 1) := by decide +kernel
theorem d_M_descriptor_209 : decode b_M_descriptor 209 = .ok (.iinc 3 1, 3) := by decide +kernel
theorem d_M_descriptor_212 : decode b_M_descriptor 212 = .ok (.goto (-208), 3) := by decide +kernel
theorem d_M_descriptor_215 : decode b_M_descriptor 215 = .ok (.return_, 1) := by decide +kernel
theorem d_M_letter_0 : decode b_M_letter 0 = .ok (.aload_n 0, 1) := by decide +kernel
theorem d_M_letter_1 : decode b_M_letter 1 = .ok (.lconst 1, 1) := by decide +kernel
theorem d_M_letter_2 : decode b_M_letter 2 = .ok (.iconst 2, 1) := by decide +kernel
theorem d_M_letter_3 : decode b_M_letter 3 = .ok (.invokevirtual 83, 3) := by decide +kernel
theorem d_M_letter_6 : decode b_M_letter 6 = .ok (.aload_n 0, 1) := by decide +kernel
theorem d_M_letter_7 : decode b_M_letter 7 = .ok (.iload_n 1, 1) := by decide +kernel
theorem d_M_letter_8 : decode b_M_letter 8 = .ok (.i2l, 1) := by decide +kernel
theorem d_M_letter_9 : decode b_M_letter 9 = .ok (.iconst 1, 1) := by decide +kernel
theorem d_M_letter_10 : decode b_M_letter 10 = .ok (.invokevirtual 83, 3) := by decide +kernel
theorem d_M_letter_13 : decode b_M_letter 13 = .ok (.return_, 1) := by decide +kernel
theorem d_M_enumBase_0 : decode b_M_enumBase 0 = .ok (.aload_n 0, 1) := by decide +kernel
theorem d_M_enumBase_1 : decode b_M_enumBase 1 = .ok (.getfield 63, 3) := by decide +kernel
theorem d_M_enumBase_4 : decode b_M_enumBase 4 = .ok (.bipush 48, 2) := by decide +kernel
theorem d_M_enumBase_6 : decode b_M_enumBase 6 = .ok (.iaload, 1) := by decide +kernel
theorem d_M_enumBase_7 : decode b_M_enumBase 7 = .ok (.ifCond .lt 10, 3) := by decide +kernel
theorem d_M_enumBase_10 : decode b_M_enumBase 10 = .ok (.aload_n 0, 1) := by decide +kernel
theorem d_M_enumBase_11 : decode b_M_enumBase 11 = .ok (.bipush 48, 2) := by decide +kernel
theorem d_M_enumBase_13 : decode b_M_enumBase 13 = .ok (.invokevirtual 187, 3) := by decide +kernel
theorem d_M_enumBase_16 : decode b_M_enumBase 16 = .ok (.return_, 1) := by decide +kernel
theorem d_M_enumBase_17 : decode b_M_enumBase 17 = .ok (.aload_n 0, 1) := by decide +kernel
theorem d_M_enumBase_18 : decode b_M_enumBase 18 = .ok (.ldc2_w 200, 3) := by decide +kernel
theorem d_M_enumBase_21 : decode b_M_enumBase 21 = .ok (.iconst 1, 1) := by decide +kernel
theorem d_M_enumBase_22 : decode b_M_enumBase 22 = .ok (.invokevirtual 83, 3) := by decide +kernel
theorem d_M_enumBase_25 : decode b_M_enumBase 25 = .ok (.aload_n 0, 1) := by decide +kernel
theorem d_M_enumBase_26 : decode b_M_enumBase 26 = .ok (.ldc2_w 202, 3) := by decide +kernel
theorem d_M_enumBase_29 : decode b_M_enumBase 29 = .ok (.iconst 2, 1) := by decide +kernel
theorem d_M_enumBase_30 : decode b_M_enumBase 30 = .ok (.invokevirtual 83, 3) := by decide +kernel
theorem d_M_enumBase_33 : decode b_M_enumBase 33 = .ok (.aload_n 0, 1) := by decide +kernel
theorem d_M_enumBase_34 : decode b_M_enumBase 34 = .ok (.ldc2_w 204, 3) := by decide +kernel
theorem d_M_enumBase_37 : decode b_M_enumBase 37 = .ok (.bipush 8, 2) := by decide +kernel
theorem d_M_enumBase_39 : decode b_M_enumBase 39 = .ok (.invokevirtual 83, 3) := by decide +kernel
theorem d_M_enumBase_42 : decode b_M_enumBase 42 = .ok (.aload_n 0, 1) := by decide +kernel
theorem d_M_enumBase_43 : decode b_M_enumBase 43 = .ok (.ldc2_w 206, 3) := by decide +kernel
theorem d_M_enumBase_46 : decode b_M_enumBase 46 = .ok (.bipush 6, 2) := by decide +kernel
theorem d_M_enumBase_48 : decode b_M_enumBase 48 = .ok (.invokevirtual 83, 3) := by decide +kernel
theorem d_M_enumBase_51 : decode b_M_enumBase 51 = .ok (.aload_n 0, 1) := by decide +kernel
theorem d_M_enumBase_52 : decode b_M_enumBase 52 = .ok (.lconst 0, 1) := by decide +kernel
theorem d_M_enumBase_53 : decode b_M_enumBase 53 = .ok (.bipush 8, 2) := by decide +kernel
theorem d_M_enumBase_55 : decode b_M_enumBase 55 = .ok (.invokevirtual 83, 3) := by decide +kernel
theorem d_M_enumBase_58 : decode b_M_enumBase 58 = .ok (.aload_n 0, 1) := by decide +kernel
theorem d_M_enumBase_59 : decode b_M_enumBase 59 = .ok (.bipush 48, 2) := by decide +kernel
theorem d_M_enumBase_61 : decode b_M_enumBase 61 = .ok (.bipush 18, 2) := by decide +kernel
theorem d_M_enumBase_63 : decode b_M_enumBase 63 = .ok (.invokevirtual 208, 3) := by decide +kernel
theorem d_M_enumBase_66 : decode b_M_enumBase 66 = .ok (.aload_n 0, 1) := by decide +kernel
theorem d_M_enumBase_67 : decode b_M_enumBase 67 = .ok (.ldc2_w 212, 3) := by decide +kernel
theorem d_M_enumBase_70 : decode b_M_enumBase 70 = .ok (.iconst 1, 1) := by decide +kernel
theorem d_M_enumBase_71 : decode b_M_enumBase 71 = .ok (.invokevirtual 83, 3) := by decide +kernel
theorem d_M_enumBase_74 : decode b_M_enumBase 74 = .ok (.return_, 1) := by decide +kernel
theorem d_M_arrange_0 : decode b_M_arrange 0 = .ok (.iconst 0, 1) := by decide +kernel
theorem d_M_arrange_1 : decode b_M_arrange 1 = .ok (.istore_n 2, 1) := by decide +kernel
theorem d_M_arrange_2 : decode b_M_arrange 2 = .ok (.iconst 0, 1) := by decide +kernel
theorem d_M_arrange_3 : decode b_M_arrange 3 = .ok (.istore_n 3, 1) := by decide +kernel
theorem d_M_arrange_4 : decode b_M_arrange 4 = .ok (.iload_n 3, 1) := by decide +kernel
theorem d_M_arrange_5 : decode b_M_arrange 5 = .ok (.iconst 2, 1) := by decide +kernel
theorem d_M_arrange_6 : decode b_M_arrange 6 = .ok (.if_icmp .ge 113, 3) := by decide +kernel
theorem d_M_arrange_9 : decode b_M_arrange 9 = .ok (.iconst 0, 1) := by decide +kernel
theorem d_M_arrange_10 : decode b_M_arrange 10 = .ok (.istore 4, 2) := by decide +kernel
theorem d_M_arrange_12 : decode b_M_arrange 12 = .ok (.iload 4, 2) := by decide +kernel
theorem d_M_arrange_14 : decode b_M_arrange 14 = .ok (.bipush 26, 2) := by decide +kernel
theorem d_M_arrange_16 : decode b_M_arrange 16 = .ok (.if_icmp .ge 97, 3) := by decide +kernel
theorem d_M_arrange_19 : decode b_M_arrange 19 = .ok (.iconst 4, 1) := by decide +kernel
theorem d_M_arrange_20 : decode b_M_arrange 20 = .ok (.iload_n 1, 1) := by decide +kernel
theorem d_M_arrange_21 : decode b_M_arrange 21 = .ok (.imul, 1) := by decide +kernel
theorem d_M_arrange_22 : decode b_M_arrange 22 = .ok (.istore 5, 2) := by decide +kernel
theorem d_M_arrange_24 : decode b_M_arrange 24 = .ok (.iload 5, 2) := by decide +kernel
theorem d_M_arrange_26 : decode b_M_arrange 26 = .ok (.iconst 4, 1) := by decide +kernel
theorem d_M_arrange_27 : decode b_M_arrange 27 = .ok (.iload_n 1, 1) := by decide +kernel
theorem d_M_arrange_28 : decode b_M_arrange 28 = .ok (.imul, 1) := by decide +kernel
end
section
theorem d_M_arrange_29 : decode b_M_arrange 29 = .ok (.aload_n 0, 1) := by decide +kernel
theorem d_M_arrange_30 : decode b_M_arrange 30 = .ok (.getfield 24, 3) := by decide +kernel
theorem d_M_arrange_33 : decode b_M_arrange 33 = .ok (.iload_n 1, 1) := by decide +kernel
theorem d_M_arrange_34 : decode b_M_arrange 34 = .ok (.iaload, 1) := by decide +kernel
theorem d_M_arrange_35 : decode b_M_arrange 35 = .ok (.iadd, 1) := by decide +kernel
theorem d_M_arrange_36 : decode b_M_arrange 36 = .ok (.if_icmp .ge 71, 3) := by decide +kernel
theorem d_M_arrange_39 : decode b_M_arrange 39 = .ok (.aload_n 0, 1) := by decide +kernel
theorem d_M_arrange_40 : decode b_M_arrange 40 = .ok (.getfield 27, 3) := by decide +kernel
theorem d_M_arrange_43 : decode b_M_arrange 43 = .ok (.iload 5, 2) := by decide +kernel
theorem d_M_arrange_45 : decode b_M_arrange 45 = .ok (.iaload, 1) := by decide +kernel
theorem d_M_arrange_46 : decode b_M_arrange 46 = .ok (.iload 4, 2) := by decide +kernel
theorem d_M_arrange_48 : decode b_M_arrange 48 = .ok (.if_icmp .ne 53, 3) := by decide +kernel
theorem d_M_arrange_51 : decode b_M_arrange 51 = .ok (.aload_n 0, 1) := by decide +kernel
theorem d_M_arrange_52 : decode b_M_arrange 52 = .ok (.getfield 33, 3) := by decide +kernel
theorem d_M_arrange_55 : decode b_M_arrange 55 = .ok (.iload 5, 2) := by decide +kernel
theorem d_M_arrange_57 : decode b_M_arrange 57 = .ok (.baload, 1) := by decide +kernel
theorem d_M_arrange_58 : decode b_M_arrange 58 = .ok (.ifCond .ne 43, 3) := by decide +kernel
theorem d_M_arrange_61 : decode b_M_arrange 61 = .ok (.aload_n 0, 1) := by decide +kernel
theorem d_M_arrange_62 : decode b_M_arrange 62 = .ok (.getfield 30, 3) := by decide +kernel
theorem d_M_arrange_65 : decode b_M_arrange 65 = .ok (.iload 5, 2) := by decide +kernel
theorem d_M_arrange_67 : decode b_M_arrange 67 = .ok (.iaload, 1) := by decide +kernel
theorem d_M_arrange_68 : decode b_M_arrange 68 = .ok (.iconst 5, 1) := by decide +kernel
theorem d_M_arrange_69 : decode b_M_arrange 69 = .ok (.if_icmp .le 7, 3) := by decide +kernel
theorem d_M_arrange_72 : decode b_M_arrange 72 = .ok (.iconst 1, 1) := by decide +kernel
theorem d_M_arrange_73 : decode b_M_arrange 73 = .ok (.goto 4, 3) := by decide +kernel
theorem d_M_arrange_76 : decode b_M_arrange 76 = .ok (.iconst 0, 1) := by decide +kernel
theorem d_M_arrange_77 : decode b_M_arrange 77 = .ok (.iload_n 3, 1) := by decide +kernel
theorem d_M_arrange_78 : decode b_M_arrange 78 = .ok (.iconst 1, 1) := by decide +kernel
theorem d_M_arrange_79 : decode b_M_arrange 79 = .ok (.if_icmp .ne 7, 3) := by decide +kernel
theorem d_M_arrange_82 : decode b_M_arrange 82 = .ok (.iconst 1, 1) := by decide +kernel
theorem d_M_arrange_83 : decode b_M_arrange 83 = .ok (.goto 4, 3) := by decide +kernel
theorem d_M_arrange_86 : decode b_M_arrange 86 = .ok (.iconst 0, 1) := by decide +kernel
theorem d_M_arrange_87 : decode b_M_arrange 87 = .ok (.if_icmp .ne 14, 3) := by decide +kernel
theorem d_M_arrange_90 : decode b_M_arrange 90 = .ok (.aload_n 0, 1) := by decide +kernel
theorem d_M_arrange_91 : decode b_M_arrange 91 = .ok (.getfield 75, 3) := by decide +kernel
theorem d_M_arrange_94 : decode b_M_arrange 94 = .ok (.iload_n 2, 1) := by decide +kernel
theorem d_M_arrange_95 : decode b_M_arrange 95 = .ok (.iload 5, 2) := by decide +kernel
theorem d_M_arrange_97 : decode b_M_arrange 97 = .ok (.iastore, 1) := by decide +kernel
theorem d_M_arrange_98 : decode b_M_arrange 98 = .ok (.iinc 2 1, 3) := by decide +kernel
theorem d_M_arrange_101 : decode b_M_arrange 101 = .ok (.iinc 5 1, 3) := by decide +kernel
theorem d_M_arrange_104 : decode b_M_arrange 104 = .ok (.goto (-80), 3) := by decide +kernel
theorem d_M_arrange_107 : decode b_M_arrange 107 = .ok (.iinc 4 1, 3) := by decide +kernel
theorem d_M_arrange_110 : decode b_M_arrange 110 = .ok (.goto (-98), 3) := by decide +kernel
theorem d_M_arrange_113 : decode b_M_arrange 113 = .ok (.iinc 3 1, 3) := by decide +kernel
theorem d_M_arrange_116 : decode b_M_arrange 116 = .ok (.goto (-112), 3) := by decide +kernel
theorem d_M_arrange_119 : decode b_M_arrange 119 = .ok (.iload_n 2, 1) := by decide +kernel
theorem d_M_arrange_120 : decode b_M_arrange 120 = .ok (.ireturn, 1) := by decide +kernel
theorem d_M_fieldEntry_0 : decode b_M_fieldEntry 0 = .ok (.aload_n 0, 1) := by decide +kernel
theorem d_M_fieldEntry_1 : decode b_M_fieldEntry 1 = .ok (.getfield 30, 3) := by decide +kernel
theorem d_M_fieldEntry_4 : decode b_M_fieldEntry 4 = .ok (.iload_n 1, 1) := by decide +kernel
theorem d_M_fieldEntry_5 : decode b_M_fieldEntry 5 = .ok (.iaload, 1) := by decide +kernel
theorem d_M_fieldEntry_6 : decode b_M_fieldEntry 6 = .ok (.istore_n 2, 1) := by decide +kernel
theorem d_M_fieldEntry_7 : decode b_M_fieldEntry 7 = .ok (.aload_n 0, 1) := by decide +kernel
theorem d_M_fieldEntry_8 : decode b_M_fieldEntry 8 = .ok (.iload_n 2, 1) := by decide +kernel
theorem d_M_fieldEntry_9 : decode b_M_fieldEntry 9 = .ok (.ifCond .ne 9, 3) := by decide +kernel
theorem d_M_fieldEntry_12 : decode b_M_fieldEntry 12 = .ok (.ldc2_w 167, 3) := by decide +kernel
theorem d_M_fieldEntry_15 : decode b_M_fieldEntry 15 = .ok (.goto 73, 3) := by decide +kernel
theorem d_M_fieldEntry_18 : decode b_M_fieldEntry 18 = .ok (.iload_n 2, 1) := by decide +kernel
theorem d_M_fieldEntry_19 : decode b_M_fieldEntry 19 = .ok (.iconst 1, 1) := by decide +kernel
theorem d_M_fieldEntry_20 : decode b_M_fieldEntry 20 = .ok (.if_icmp .ne 9, 3) := by decide +kernel
theorem d_M_fieldEntry_23 : decode b_M_fieldEntry 23 = .ok (.ldc2_w 169, 3) := by decide +kernel
theorem d_M_fieldEntry_26 : decode b_M_fieldEntry 26 = .ok (.goto 62, 3) := by decide +kernel
theorem d_M_fieldEntry_29 : decode b_M_fieldEntry 29 = .ok (.iload_n 2, 1) := by decide +kernel
theorem d_M_fieldEntry_30 : decode b_M_fieldEntry 30 = .ok (.iconst 2, 1) := by decide +kernel
theorem d_M_fieldEntry_31 : decode b_M_fieldEntry 31 = .ok (.if_icmp .ne 9, 3) := by decide +kernel
theorem d_M_fieldEntry_34 : decode b_M_fieldEntry 34 = .ok (.ldc2_w 171, 3) := by decide +kernel
theorem d_M_fieldEntry_37 : decode b_M_fieldEntry 37 = .ok (.goto 51, 3) := by decide +kernel
theorem d_M_fieldEntry_40 : decode b_M_fieldEntry 40 = .ok (.iload_n 2, 1) := by decide +kernel
theorem d_M_fieldEntry_41 : decode b_M_fieldEntry 41 = .ok (.iconst 3, 1) := by decide +kernel
theorem d_M_fieldEntry_42 : decode b_M_fieldEntry 42 = .ok (.if_icmp .ne 9, 3) := by decide +kernel
theorem d_M_fieldEntry_45 : decode b_M_fieldEntry 45 = .ok (.ldc2_w 173, 3) := by decide +kernel
theorem d_M_fieldEntry_48 : decode b_M_fieldEntry 48 = .ok (.goto 40, 3) := by decide +kernel
theorem d_M_fieldEntry_51 : decode b_M_fieldEntry 51 = .ok (.iload_n 2, 1) := by decide +kernel
theorem d_M_fieldEntry_52 : decode b_M_fieldEntry 52 = .ok (.iconst 4, 1) := by decide +kernel
theorem d_M_fieldEntry_53 : decode b_M_fieldEntry 53 = .ok (.if_icmp .ne 9, 3) := by decide +kernel
theorem d_M_fieldEntry_56 : decode b_M_fieldEntry 56 = .ok (.ldc2_w 175, 3) := by decide +kernel
theorem d_M_fieldEntry_59 : decode b_M_fieldEntry 59 = .ok (.goto 29, 3) := by decide +kernel
theorem d_M_fieldEntry_62 : decode b_M_fieldEntry 62 = .ok (.iload_n 2, 1) := by decide +kernel
theorem d_M_fieldEntry_63 : decode b_M_fieldEntry 63 = .ok (.iconst 5, 1) := by decide +kernel
theorem d_M_fieldEntry_64 : decode b_M_fieldEntry 64 = .ok (.if_icmp .ne 9, 3) := by decide +kernel
theorem d_M_fieldEntry_67 : decode b_M_fieldEntry 67 = .ok (.ldc2_w 177, 3) := by decide +kernel
theorem d_M_fieldEntry_70 : decode b_M_fieldEntry 70 = .ok (.goto 18, 3) := by decide +kernel
theorem d_M_fieldEntry_73 : decode b_M_fieldEntry 73 = .ok (.iload_n 2, 1) := by decide +kernel
theorem d_M_fieldEntry_74 : decode b_M_fieldEntry 74 = .ok (.bipush 6, 2) := by decide +kernel
theorem d_M_fieldEntry_76 : decode b_M_fieldEntry 76 = .ok (.if_icmp .ne 9, 3) := by decide +kernel
theorem d_M_fieldEntry_79 : decode b_M_fieldEntry 79 = .ok (.ldc2_w 179, 3) := by decide +kernel
theorem d_M_fieldEntry_82 : decode b_M_fieldEntry 82 = .ok (.goto 6, 3) := by decide +kernel
theorem d_M_fieldEntry_85 : decode b_M_fieldEntry 85 = .ok (.ldc2_w 181, 3) := by decide +kernel
theorem d_M_fieldEntry_88 : decode b_M_fieldEntry 88 = .ok (.iconst 1, 1) := by decide +kernel
theorem d_M_fieldEntry_89 : decode b_M_fieldEntry 89 = .ok (.invokevirtual 83, 3) := by decide +kernel
theorem d_M_fieldEntry_92 : decode b_M_fieldEntry 92 = .ok (.aload_n 0, 1) := by decide +kernel
theorem d_M_fieldEntry_93 : decode b_M_fieldEntry 93 = .ok (.bipush 97, 2) := by decide +kernel
theorem d_M_fieldEntry_95 : decode b_M_fieldEntry 95 = .ok (.aload_n 0, 1) := by decide +kernel
theorem d_M_fieldEntry_96 : decode b_M_fieldEntry 96 = .ok (.getfield 27, 3) := by decide +kernel
theorem d_M_fieldEntry_99 : decode b_M_fieldEntry 99 = .ok (.iload_n 1, 1) := by decide +kernel
theorem d_M_fieldEntry_100 : decode b_M_fieldEntry 100 = .ok (.iaload, 1) := by decide +kernel
theorem d_M_fieldEntry_101 : decode b_M_fieldEntry 101 = .ok (.iadd, 1) := by decide +kernel
theorem d_M_fieldEntry_102 : decode b_M_fieldEntry 102 = .ok (.invokevirtual 183, 3) := by decide +kernel
theorem d_M_fieldEntry_105 : decode b_M_fieldEntry 105 = .ok (.iload_n 2, 1) := by decide +kernel
theorem d_M_fieldEntry_106 : decode b_M_fieldEntry 106 = .ok (.bipush 6, 2) := by decide +kernel
theorem d_M_fieldEntry_108 : decode b_M_fieldEntry 108 = .ok (.if_icmp .ge 4, 3) := by decide +kernel
theorem d_M_fieldEntry_111 : decode b_M_fieldEntry 111 = .ok (.return_, 1) := by decide +kernel
theorem d_M_fieldEntry_112 : decode b_M_fieldEntry 112 = .ok (.iload_n 2, 1) := by decide +kernel
theorem d_M_fieldEntry_113 : decode b_M_fieldEntry 113 = .ok (.bipush 43, 2) := by decide +kernel
theorem d_M_fieldEntry_115 : decode b_M_fieldEntry 115 = .ok (.iadd, 1) := by decide +kernel
theorem d_M_fieldEntry_116 : decode b_M_fieldEntry 116 = .ok (.istore_n 3, 1) := by decide +kernel
theorem d_M_fieldEntry_117 : decode b_M_fieldEntry 117 = .ok (.aload_n 0, 1) := by decide +kernel
theorem d_M_fieldEntry_118 : decode b_M_fieldEntry 118 = .ok (.getfield 63, 3) := by decide +kernel
theorem d_M_fieldEntry_121 : decode b_M_fieldEntry 121 = .ok (.iload_n 3, 1) := by decide +kernel
theorem d_M_fieldEntry_122 : decode b_M_fieldEntry 122 = .ok (.iaload, 1) := by decide +kernel
theorem d_M_fieldEntry_123 : decode b_M_fieldEntry 123 = .ok (.ifCond .lt 11, 3) := by decide +kernel
theorem d_M_fieldEntry_126 : decode b_M_fieldEntry 126 = .ok (.aload_n 0, 1) := by decide +kernel
theorem d_M_fieldEntry_127 : decode b_M_fieldEntry 127 = .ok (.iload_n 3, 1) := by decide +kernel
theorem d_M_fieldEntry_128 : decode b_M_fieldEntry 128 = .ok (.invokevirtual 187, 3) := by decide +kernel
theorem d_M_fieldEntry_131 : decode b_M_fieldEntry 131 = .ok (.goto 21, 3) := by decide +kernel
theorem d_M_fieldEntry_134 : decode b_M_fieldEntry 134 = .ok (.aload_n 0, 1) := by decide +kernel
theorem d_M_fieldEntry_135 : decode b_M_fieldEntry 135 = .ok (.ldc2_w 190, 3) := by decide +kernel
theorem d_M_fieldEntry_138 : decode b_M_fieldEntry 138 = .ok (.iconst 1, 1) := by decide +kernel
theorem d_M_fieldEntry_139 : decode b_M_fieldEntry 139 = .ok (.invokevirtual 83, 3) := by decide +kernel
theorem d_M_fieldEntry_142 : decode b_M_fieldEntry 142 = .ok (.aload_n 0, 1) := by decide +kernel
theorem d_M_fieldEntry_143 : decode b_M_fieldEntry 143 = .ok (.iload_n 3, 1) := by decide +kernel
theorem d_M_fieldEntry_144 : decode b_M_fieldEntry 144 = .ok (.invokevirtual 192, 3) := by decide +kernel
theorem d_M_fieldEntry_147 : decode b_M_fieldEntry 147 = .ok (.aload_n 0, 1) := by decide +kernel
theorem d_M_fieldEntry_148 : decode b_M_fieldEntry 148 = .ok (.iload_n 2, 1) := by decide +kernel
theorem d_M_fieldEntry_149 : decode b_M_fieldEntry 149 = .ok (.invokevirtual 195, 3) := by decide +kernel
theorem d_M_fieldEntry_152 : decode b_M_fieldEntry 152 = .ok (.return_, 1) := by decide +kernel
theorem d_M_typeSigns_0 : decode b_M_typeSigns 0 = .ok (.iload_n 1, 1) := by decide +kernel
theorem d_M_typeSigns_1 : decode b_M_typeSigns 1 = .ok (.bipush 6, 2) := by decide +kernel
theorem d_M_typeSigns_3 : decode b_M_typeSigns 3 = .ok (.if_icmp .ne 22, 3) := by decide +kernel
theorem d_M_typeSigns_6 : decode b_M_typeSigns 6 = .ok (.aload_n 0, 1) := by decide +kernel
theorem d_M_typeSigns_7 : decode b_M_typeSigns 7 = .ok (.ldc2_w 155, 3) := by decide +kernel
theorem d_M_typeSigns_10 : decode b_M_typeSigns 10 = .ok (.iconst 2, 1) := by decide +kernel
theorem d_M_typeSigns_11 : decode b_M_typeSigns 11 = .ok (.invokevirtual 83, 3) := by decide +kernel
theorem d_M_typeSigns_14 : decode b_M_typeSigns 14 = .ok (.aload_n 0, 1) := by decide +kernel
theorem d_M_typeSigns_15 : decode b_M_typeSigns 15 = .ok (.ldc2_w 157, 3) := by decide +kernel
theorem d_M_typeSigns_18 : decode b_M_typeSigns 18 = .ok (.iconst 2, 1) := by decide +kernel
theorem d_M_typeSigns_19 : decode b_M_typeSigns 19 = .ok (.invokevirtual 83, 3) := by decide +kernel
theorem d_M_typeSigns_22 : decode b_M_typeSigns 22 = .ok (.goto 37, 3) := by decide +kernel
theorem d_M_typeSigns_25 : decode b_M_typeSigns 25 = .ok (.aload_n 0, 1) := by decide +kernel
theorem d_M_typeSigns_26 : decode b_M_typeSigns 26 = .ok (.ldc2_w 159, 3) := by decide +kernel
theorem d_M_typeSigns_29 : decode b_M_typeSigns 29 = .ok (.iconst 2, 1) := by decide +kernel
theorem d_M_typeSigns_30 : decode b_M_typeSigns 30 = .ok (.invokevirtual 83, 3) := by decide +kernel
theorem d_M_typeSigns_33 : decode b_M_typeSigns 33 = .ok (.aload_n 0, 1) := by decide +kernel
theorem d_M_typeSigns_34 : decode b_M_typeSigns 34 = .ok (.ldc2_w 161, 3) := by decide +kernel
theorem d_M_typeSigns_37 : decode b_M_typeSigns 37 = .ok (.bipush 8, 2) := by decide +kernel
theorem d_M_typeSigns_39 : decode b_M_typeSigns 39 = .ok (.invokevirtual 83, 3) := by decide +kernel
theorem d_M_typeSigns_42 : decode b_M_typeSigns 42 = .ok (.aload_n 0, 1) := by decide +kernel
theorem d_M_typeSigns_43 : decode b_M_typeSigns 43 = .ok (.ldc2_w 163, 3) := by decide +kernel
theorem d_M_typeSigns_46 : decode b_M_typeSigns 46 = .ok (.bipush 8, 2) := by decide +kernel
theorem d_M_typeSigns_48 : decode b_M_typeSigns 48 = .ok (.invokevirtual 83, 3) := by decide +kernel
theorem d_M_typeSigns_51 : decode b_M_typeSigns 51 = .ok (.aload_n 0, 1) := by decide +kernel
theorem d_M_typeSigns_52 : decode b_M_typeSigns 52 = .ok (.ldc2_w 165, 3) := by decide +kernel
theorem d_M_typeSigns_55 : decode b_M_typeSigns 55 = .ok (.iconst 2, 1) := by decide +kernel
theorem d_M_typeSigns_56 : decode b_M_typeSigns 56 = .ok (.invokevirtual 83, 3) := by decide +kernel
theorem d_M_typeSigns_59 : decode b_M_typeSigns 59 = .ok (.return_, 1) := by decide +kernel
theorem d_M_abort_0 : decode b_M_abort 0 = .ok (.aload_n 0, 1) := by decide +kernel
theorem d_M_abort_1 : decode b_M_abort 1 = .ok (.ldc2_w 269, 3) := by decide +kernel
theorem d_M_abort_4 : decode b_M_abort 4 = .ok (.iconst 2, 1) := by decide +kernel
theorem d_M_abort_5 : decode b_M_abort 5 = .ok (.invokevirtual 83, 3) := by decide +kernel
theorem d_M_abort_8 : decode b_M_abort 8 = .ok (.aload_n 0, 1) := by decide +kernel
theorem d_M_abort_9 : decode b_M_abort 9 = .ok (.ldc2_w 190, 3) := by decide +kernel
theorem d_M_abort_12 : decode b_M_abort 12 = .ok (.iconst 1, 1) := by decide +kernel
theorem d_M_abort_13 : decode b_M_abort 13 = .ok (.invokevirtual 83, 3) := by decide +kernel
theorem d_M_abort_16 : decode b_M_abort 16 = .ok (.aload_n 0, 1) := by decide +kernel
theorem d_M_abort_17 : decode b_M_abort 17 = .ok (.bipush 65, 2) := by decide +kernel
theorem d_M_abort_19 : decode b_M_abort 19 = .ok (.iload_n 1, 1) := by decide +kernel
theorem d_M_abort_20 : decode b_M_abort 20 = .ok (.iadd, 1) := by decide +kernel
theorem d_M_abort_21 : decode b_M_abort 21 = .ok (.invokevirtual 183, 3) := by decide +kernel
theorem d_M_abort_24 : decode b_M_abort 24 = .ok (.aload_n 0, 1) := by decide +kernel
theorem d_M_abort_25 : decode b_M_abort 25 = .ok (.ldc2_w 271, 3) := by decide +kernel
theorem d_M_abort_28 : decode b_M_abort 28 = .ok (.iconst 1, 1) := by decide +kernel
theorem d_M_abort_29 : decode b_M_abort 29 = .ok (.invokevirtual 83, 3) := by decide +kernel
theorem d_M_abort_32 : decode b_M_abort 32 = .ok (.aload_n 0, 1) := by decide +kernel
theorem d_M_abort_33 : decode b_M_abort 33 = .ok (.invokevirtual 89, 3) := by decide +kernel
theorem d_M_abort_36 : decode b_M_abort 36 = .ok (.aload_n 0, 1) := by decide +kernel
theorem d_M_abort_37 : decode b_M_abort 37 = .ok (.iconst 0, 1) := by decide +kernel
theorem d_M_abort_38 : decode b_M_abort 38 = .ok (.putfield 152, 3) := by decide +kernel
theorem d_M_abort_41 : decode b_M_abort 41 = .ok (.return_, 1) := by decide +kernel
theorem d_M_parts_0 : decode b_M_parts 0 = .ok (.aload_n 0, 1) := by decide +kernel
theorem d_M_parts_1 : decode b_M_parts 1 = .ok (.getfield 39, 3) := by decide +kernel
theorem d_M_parts_4 : decode b_M_parts 4 = .ok (.iload_n 1, 1) := by decide +kernel
theorem d_M_parts_5 : decode b_M_parts 5 = .ok (.iaload, 1) := by decide +kernel
theorem d_M_parts_6 : decode b_M_parts 6 = .ok (.istore_n 2, 1) := by decide +kernel
theorem d_M_parts_7 : decode b_M_parts 7 = .ok (.iload_n 2, 1) := by decide +kernel
theorem d_M_parts_8 : decode b_M_parts 8 = .ok (.ifCond .lt 126, 3) := by decide +kernel
theorem d_M_parts_11 : decode b_M_parts 11 = .ok (.aload_n 0, 1) := by decide +kernel
theorem d_M_parts_12 : decode b_M_parts 12 = .ok (.getfield 13, 3) := by decide +kernel
theorem d_M_parts_15 : decode b_M_parts 15 = .ok (.iload_n 2, 1) := by decide +kernel
theorem d_M_parts_16 : decode b_M_parts 16 = .ok (.iaload, 1) := by decide +kernel
theorem d_M_parts_17 : decode b_M_parts 17 = .ok (.ifCond .eq 117, 3) := by decide +kernel
theorem d_M_parts_20 : decode b_M_parts 20 = .ok (.aload_n 0, 1) := by decide +kernel
theorem d_M_parts_21 : decode b_M_parts 21 = .ok (.getfield 13, 3) := by decide +kernel
theorem d_M_parts_24 : decode b_M_parts 24 = .ok (.iload_n 2, 1) := by decide +kernel
theorem d_M_parts_25 : decode b_M_parts 25 = .ok (.iaload, 1) := by decide +kernel
theorem d_M_parts_26 : decode b_M_parts 26 = .ok (.iconst 2, 1) := by decide +kernel
theorem d_M_parts_27 : decode b_M_parts 27 = .ok (.if_icmp .ne 10, 3) := by decide +kernel
theorem d_M_parts_30 : decode b_M_parts 30 = .ok (.aload_n 0, 1) := by decide +kernel
theorem d_M_parts_31 : decode b_M_parts 31 = .ok (.iconst 2, 1) := by decide +kernel
theorem d_M_parts_32 : decode b_M_parts 32 = .ok (.iload_n 1, 1) := by decide +kernel
theorem d_M_parts_33 : decode b_M_parts 33 = .ok (.iload_n 2, 1) := by decide +kernel
theorem d_M_parts_34 : decode b_M_parts 34 = .ok (.invokevirtual 237, 3) := by decide +kernel
theorem d_M_parts_37 : decode b_M_parts 37 = .ok (.aload_n 0, 1) := by decide +kernel
theorem d_M_parts_38 : decode b_M_parts 38 = .ok (.iload_n 2, 1) := by decide +kernel
theorem d_M_parts_39 : decode b_M_parts 39 = .ok (.invokevirtual 219, 3) := by decide +kernel
theorem d_M_parts_42 : decode b_M_parts 42 = .ok (.istore_n 3, 1) := by decide +kernel
theorem d_M_parts_43 : decode b_M_parts 43 = .ok (.iload_n 3, 1) := by decide +kernel
theorem d_M_parts_44 : decode b_M_parts 44 = .ok (.iconst 1, 1) := by decide +kernel
theorem d_M_parts_45 : decode b_M_parts 45 = .ok (.isub, 1) := by decide +kernel
theorem d_M_parts_46 : decode b_M_parts 46 = .ok (.istore 4, 2) := by decide +kernel
theorem d_M_parts_48 : decode b_M_parts 48 = .ok (.iload 4, 2) := by decide +kernel
theorem d_M_parts_50 : decode b_M_parts 50 = .ok (.ifCond .lt 74, 3) := by decide +kernel
theorem d_M_parts_53 : decode b_M_parts 53 = .ok (.aload_n 0, 1) := by decide +kernel
theorem d_M_parts_54 : decode b_M_parts 54 = .ok (.iload_n 2, 1) := by decide +kernel
theorem d_M_parts_55 : decode b_M_parts 55 = .ok (.invokevirtual 121, 3) := by decide +kernel
theorem d_M_parts_58 : decode b_M_parts 58 = .ok (.aload_n 0, 1) := by decide +kernel
theorem d_M_parts_59 : decode b_M_parts 59 = .ok (.getfield 75, 3) := by decide +kernel
theorem d_M_parts_62 : decode b_M_parts 62 = .ok (.iload 4, 2) := by decide +kernel
theorem d_M_parts_64 : decode b_M_parts 64 = .ok (.iaload, 1) := by decide +kernel
theorem d_M_parts_65 : decode b_M_parts 65 = .ok (.iadd, 1) := by decide +kernel
theorem d_M_parts_66 : decode b_M_parts 66 = .ok (.iconst 4, 1) := by decide +kernel
theorem d_M_parts_67 : decode b_M_parts 67 = .ok (.iload_n 2, 1) := by decide +kernel
theorem d_M_parts_68 : decode b_M_parts 68 = .ok (.imul, 1) := by decide +kernel
theorem d_M_parts_69 : decode b_M_parts 69 = .ok (.isub, 1) := by decide +kernel
theorem d_M_parts_70 : decode b_M_parts 70 = .ok (.istore 5, 2) := by decide +kernel
theorem d_M_parts_72 : decode b_M_parts 72 = .ok (.aload_n 0, 1) := by decide +kernel
theorem d_M_parts_73 : decode b_M_parts 73 = .ok (.getfield 30, 3) := by decide +kernel
theorem d_M_parts_76 : decode b_M_parts 76 = .ok (.aload_n 0, 1) := by decide +kernel
theorem d_M_parts_77 : decode b_M_parts 77 = .ok (.getfield 75, 3) := by decide +kernel
theorem d_M_parts_80 : decode b_M_parts 80 = .ok (.iload 4, 2) := by decide +kernel
theorem d_M_parts_82 : decode b_M_parts 82 = .ok (.iaload, 1) := by decide +kernel
theorem d_M_parts_83 : decode b_M_parts 83 = .ok (.iaload, 1) := by decide +kernel
theorem d_M_parts_84 : decode b_M_parts 84 = .ok (.iconst 5, 1) := by decide +kernel
theorem d_M_parts_85 : decode b_M_parts 85 = .ok (.if_icmp .le 25, 3) := by decide +kernel
theorem d_M_parts_88 : decode b_M_parts 88 = .ok (.aload_n 0, 1) := by decide +kernel
theorem d_M_parts_89 : decode b_M_parts 89 = .ok (.iconst 0, 1) := by decide +kernel
theorem d_M_parts_90 : decode b_M_parts 90 = .ok (.aload_n 0, 1) := by decide +kernel
theorem d_M_parts_91 : decode b_M_parts 91 = .ok (.getfield 48, 3) := by decide +kernel
theorem d_M_parts_94 : decode b_M_parts 94 = .ok (.bipush 24, 2) := by decide +kernel
theorem d_M_parts_96 : decode b_M_parts 96 = .ok (.iload_n 1, 1) := by decide +kernel
theorem d_M_parts_97 : decode b_M_parts 97 = .ok (.imul, 1) := by decide +kernel
theorem d_M_parts_98 : decode b_M_parts 98 = .ok (.iload 5, 2) := by decide +kernel
theorem d_M_parts_100 : decode b_M_parts 100 = .ok (.iadd, 1) := by decide +kernel
theorem d_M_parts_101 : decode b_M_parts 101 = .ok (.laload, 1) := by decide +kernel
theorem d_M_parts_102 : decode b_M_parts 102 = .ok (.l2i, 1) := by decide +kernel
theorem d_M_parts_103 : decode b_M_parts 103 = .ok (.iconst 0, 1) := by decide +kernel
theorem d_M_parts_104 : decode b_M_parts 104 = .ok (.invokevirtual 237, 3) := by decide +kernel
theorem d_M_parts_107 : decode b_M_parts 107 = .ok (.goto 11, 3) := by decide +kernel
theorem d_M_parts_110 : decode b_M_parts 110 = .ok (.aload_n 0, 1) := by decide +kernel
theorem d_M_parts_111 : decode b_M_parts 111 = .ok (.iconst 1, 1) := by decide +kernel
theorem d_M_parts_112 : decode b_M_parts 112 = .ok (.iload_n 1, 1) := by decide +kernel
theorem d_M_parts_113 : decode b_M_parts 113 = .ok (.iload 5, 2) := by decide +kernel
theorem d_M_parts_115 : decode b_M_parts 115 = .ok (.invokevirtual 237, 3) := by decide +kernel
theorem d_M_parts_118 : decode b_M_parts 118 = .ok (.iinc 4 (-1), 3) := by decide +kernel
theorem d_M_parts_121 : decode b_M_parts 121 = .ok (.goto (-73), 3) := by decide +kernel
theorem d_M_parts_124 : decode b_M_parts 124 = .ok (.aload_n 0, 1) := by decide +kernel
theorem d_M_parts_125 : decode b_M_parts 125 = .ok (.getfield 17, 3) := by decide +kernel
theorem d_M_parts_128 : decode b_M_parts 128 = .ok (.iload_n 2, 1) := by decide +kernel
theorem d_M_parts_129 : decode b_M_parts 129 = .ok (.iaload, 1) := by decide +kernel
theorem d_M_parts_130 : decode b_M_parts 130 = .ok (.istore_n 2, 1) := by decide +kernel
theorem d_M_parts_131 : decode b_M_parts 131 = .ok (.goto (-124), 3) := by decide +kernel
theorem d_M_parts_134 : decode b_M_parts 134 = .ok (.return_, 1) := by decide +kernel
theorem d_M_doOne_0 : decode b_M_doOne 0 = .ok (.aload_n 0, 1) := by decide +kernel
theorem d_M_doOne_1 : decode b_M_doOne 1 = .ok (.dup, 1) := by decide +kernel
theorem d_M_doOne_2 : decode b_M_doOne 2 = .ok (.getfield 152, 3) := by decide +kernel
theorem d_M_doOne_5 : decode b_M_doOne 5 = .ok (.iconst 1, 1) := by decide +kernel
theorem d_M_doOne_6 : decode b_M_doOne 6 = .ok (.isub, 1) := by decide +kernel
theorem d_M_doOne_7 : decode b_M_doOne 7 = .ok (.putfield 152, 3) := by decide +kernel
theorem d_M_doOne_10 : decode b_M_doOne 10 = .ok (.aload_n 0, 1) := by decide +kernel
theorem d_M_doOne_11 : decode b_M_doOne 11 = .ok (.getfield 69, 3) := by decide +kernel
theorem d_M_doOne_14 : decode b_M_doOne 14 = .ok (.aload_n 0, 1) := by decide +kernel
theorem d_M_doOne_15 : decode b_M_doOne 15 = .ok (.getfield 152, 3) := by decide +kernel
theorem d_M_doOne_18 : decode b_M_doOne 18 = .ok (.iaload, 1) := by decide +kernel
theorem d_M_doOne_19 : decode b_M_doOne 19 = .ok (.istore_n 1, 1) := by decide +kernel
theorem d_M_doOne_20 : decode b_M_doOne 20 = .ok (.aload_n 0, 1) := by decide +kernel
theorem d_M_doOne_21 : decode b_M_doOne 21 = .ok (.getfield 72, 3) := by decide +kernel
theorem d_M_doOne_24 : decode b_M_doOne 24 = .ok (.aload_n 0, 1) := by decide +kernel
theorem d_M_doOne_25 : decode b_M_doOne 25 = .ok (.getfield 152, 3) := by decide +kernel
theorem d_M_doOne_28 : decode b_M_doOne 28 = .ok (.iaload, 1) := by decide +kernel
theorem d_M_doOne_29 : decode b_M_doOne 29 = .ok (.istore_n 2, 1) := by decide +kernel
theorem d_M_doOne_30 : decode b_M_doOne 30 = .ok (.aload_n 0, 1) := by decide +kernel
theorem d_M_doOne_31 : decode b_M_doOne 31 = .ok (.getfield 66, 3) := by decide +kernel
theorem d_M_doOne_34 : decode b_M_doOne 34 = .ok (.aload_n 0, 1) := by decide +kernel
theorem d_M_doOne_35 : decode b_M_doOne 35 = .ok (.getfield 152, 3) := by decide +kernel
theorem d_M_doOne_38 : decode b_M_doOne 38 = .ok (.iaload, 1) := by decide +kernel
theorem d_M_doOne_39 : decode b_M_doOne 39 = .ok (.ifCond .ne 10, 3) := by decide +kernel
theorem d_M_doOne_42 : decode b_M_doOne 42 = .ok (.aload_n 0, 1) := by decide +kernel
theorem d_M_doOne_43 : decode b_M_doOne 43 = .ok (.iload_n 1, 1) := by decide +kernel
theorem d_M_doOne_44 : decode b_M_doOne 44 = .ok (.iconst 0, 1) := by decide +kernel
theorem d_M_doOne_45 : decode b_M_doOne 45 = .ok (.invokevirtual 273, 3) := by decide +kernel
theorem d_M_doOne_48 : decode b_M_doOne 48 = .ok (.ireturn, 1) := by decide +kernel
theorem d_M_doOne_49 : decode b_M_doOne 49 = .ok (.aload_n 0, 1) := by decide +kernel
theorem d_M_doOne_50 : decode b_M_doOne 50 = .ok (.getfield 66, 3) := by decide +kernel
theorem d_M_doOne_53 : decode b_M_doOne 53 = .ok (.aload_n 0, 1) := by decide +kernel
theorem d_M_doOne_54 : decode b_M_doOne 54 = .ok (.getfield 152, 3) := by decide +kernel
theorem d_M_doOne_57 : decode b_M_doOne 57 = .ok (.iaload, 1) := by decide +kernel
theorem d_M_doOne_58 : decode b_M_doOne 58 = .ok (.iconst 1, 1) := by decide +kernel
theorem d_M_doOne_59 : decode b_M_doOne 59 = .ok (.if_icmp .ne 49, 3) := by decide +kernel
theorem d_M_doOne_62 : decode b_M_doOne 62 = .ok (.aload_n 0, 1) := by decide +kernel
theorem d_M_doOne_63 : decode b_M_doOne 63 = .ok (.iload_n 1, 1) := by decide +kernel
theorem d_M_doOne_64 : decode b_M_doOne 64 = .ok (.iload_n 2, 1) := by decide +kernel
theorem d_M_doOne_65 : decode b_M_doOne 65 = .ok (.invokevirtual 132, 3) := by decide +kernel
theorem d_M_doOne_68 : decode b_M_doOne 68 = .ok (.istore_n 3, 1) := by decide +kernel
theorem d_M_doOne_69 : decode b_M_doOne 69 = .ok (.aload_n 0, 1) := by decide +kernel
theorem d_M_doOne_70 : decode b_M_doOne 70 = .ok (.getfield 48, 3) := by decide +kernel
theorem d_M_doOne_73 : decode b_M_doOne 73 = .ok (.bipush 24, 2) := by decide +kernel
theorem d_M_doOne_75 : decode b_M_doOne 75 = .ok (.iload_n 1, 1) := by decide +kernel
theorem d_M_doOne_76 : decode b_M_doOne 76 = .ok (.imul, 1) := by decide +kernel
theorem d_M_doOne_77 : decode b_M_doOne 77 = .ok (.iload_n 2, 1) := by decide +kernel
theorem d_M_doOne_78 : decode b_M_doOne 78 = .ok (.iadd, 1) := by decide +kernel
theorem d_M_doOne_79 : decode b_M_doOne 79 = .ok (.laload, 1) := by decide +kernel
theorem d_M_doOne_80 : decode b_M_doOne 80 = .ok (.lstore 4, 2) := by decide +kernel
theorem d_M_doOne_82 : decode b_M_doOne 82 = .ok (.aload_n 0, 1) := by decide +kernel
theorem d_M_doOne_83 : decode b_M_doOne 83 = .ok (.iload_n 3, 1) := by decide +kernel
theorem d_M_doOne_84 : decode b_M_doOne 84 = .ok (.iconst 5, 1) := by decide +kernel
theorem d_M_doOne_85 : decode b_M_doOne 85 = .ok (.if_icmp .ne 10, 3) := by decide +kernel
theorem d_M_doOne_88 : decode b_M_doOne 88 = .ok (.lload 4, 2) := by decide +kernel
theorem d_M_doOne_90 : decode b_M_doOne 90 = .ok (.lconst 1, 1) := by decide +kernel
theorem d_M_doOne_91 : decode b_M_doOne 91 = .ok (.land, 1) := by decide +kernel
theorem d_M_doOne_92 : decode b_M_doOne 92 = .ok (.goto 5, 3) := by decide +kernel
theorem d_M_doOne_95 : decode b_M_doOne 95 = .ok (.lload 4, 2) := by decide +kernel
theorem d_M_doOne_97 : decode b_M_doOne 97 = .ok (.aload_n 0, 1) := by decide +kernel
theorem d_M_doOne_98 : decode b_M_doOne 98 = .ok (.iload_n 3, 1) := by decide +kernel
theorem d_M_doOne_99 : decode b_M_doOne 99 = .ok (.invokevirtual 277, 3) := by decide +kernel
theorem d_M_doOne_102 : decode b_M_doOne 102 = .ok (.invokevirtual 83, 3) := by decide +kernel
theorem d_M_doOne_105 : decode b_M_doOne 105 = .ok (.goto 33, 3) := by decide +kernel
theorem d_M_doOne_108 : decode b_M_doOne 108 = .ok (.aload_n 0, 1) := by decide +kernel
theorem d_M_doOne_109 : decode b_M_doOne 109 = .ok (.ldc2_w 280, 3) := by decide +kernel
theorem d_M_doOne_112 : decode b_M_doOne 112 = .ok (.iconst 2, 1) := by decide +kernel
theorem d_M_doOne_113 : decode b_M_doOne 113 = .ok (.invokevirtual 83, 3) := by decide +kernel
theorem d_M_doOne_116 : decode b_M_doOne 116 = .ok (.aload_n 0, 1) := by decide +kernel
theorem d_M_doOne_117 : decode b_M_doOne 117 = .ok (.aload_n 0, 1) := by decide +kernel
theorem d_M_doOne_118 : decode b_M_doOne 118 = .ok (.getfield 54, 3) := by decide +kernel
theorem d_M_doOne_121 : decode b_M_doOne 121 = .ok (.iload_n 1, 1) := by decide +kernel
theorem d_M_doOne_122 : decode b_M_doOne 122 = .ok (.iaload, 1) := by decide +kernel
theorem d_M_doOne_123 : decode b_M_doOne 123 = .ok (.iload_n 2, 1) := by decide +kernel
theorem d_M_doOne_124 : decode b_M_doOne 124 = .ok (.iadd, 1) := by decide +kernel
theorem d_M_doOne_125 : decode b_M_doOne 125 = .ok (.i2l, 1) := by decide +kernel
theorem d_M_doOne_126 : decode b_M_doOne 126 = .ok (.iconst 4, 1) := by decide +kernel
theorem d_M_doOne_127 : decode b_M_doOne 127 = .ok (.invokevirtual 83, 3) := by decide +kernel
theorem d_M_doOne_130 : decode b_M_doOne 130 = .ok (.aload_n 0, 1) := by decide +kernel
theorem d_M_doOne_131 : decode b_M_doOne 131 = .ok (.ldc2_w 198, 3) := by decide +kernel
theorem d_M_doOne_134 : decode b_M_doOne 134 = .ok (.iconst 1, 1) := by decide +kernel
theorem d_M_doOne_135 : decode b_M_doOne 135 = .ok (.invokevirtual 83, 3) := by decide +kernel
theorem d_M_doOne_138 : decode b_M_doOne 138 = .ok (.iconst 1, 1) := by decide +kernel
theorem d_M_doOne_139 : decode b_M_doOne 139 = .ok (.ireturn, 1) := by decide +kernel
theorem d_M_width_0 : decode b_M_width 0 = .ok (.iload_n 1, 1) := by decide +kernel
theorem d_M_width_1 : decode b_M_width 1 = .ok (.ifCond .eq 8, 3) := by decide +kernel
theorem d_M_width_4 : decode b_M_width 4 = .ok (.iload_n 1, 1) := by decide +kernel
theorem d_M_width_5 : decode b_M_width 5 = .ok (.iconst 5, 1) := by decide +kernel
theorem d_M_width_6 : decode b_M_width 6 = .ok (.if_icmp .ne 7, 3) := by decide +kernel
theorem d_M_width_9 : decode b_M_width 9 = .ok (.iconst 1, 1) := by decide +kernel
theorem d_M_width_10 : decode b_M_width 10 = .ok (.goto 28, 3) := by decide +kernel
theorem d_M_width_13 : decode b_M_width 13 = .ok (.iload_n 1, 1) := by decide +kernel
theorem d_M_width_14 : decode b_M_width 14 = .ok (.iconst 1, 1) := by decide +kernel
theorem d_M_width_15 : decode b_M_width 15 = .ok (.if_icmp .eq 8, 3) := by decide +kernel
theorem d_M_width_18 : decode b_M_width 18 = .ok (.iload_n 1, 1) := by decide +kernel
theorem d_M_width_19 : decode b_M_width 19 = .ok (.iconst 4, 1) := by decide +kernel
theorem d_M_width_20 : decode b_M_width 20 = .ok (.if_icmp .ne 7, 3) := by decide +kernel
theorem d_M_width_23 : decode b_M_width 23 = .ok (.iconst 2, 1) := by decide +kernel
theorem d_M_width_24 : decode b_M_width 24 = .ok (.goto 14, 3) := by decide +kernel
theorem d_M_width_27 : decode b_M_width 27 = .ok (.iload_n 1, 1) := by decide +kernel
theorem d_M_width_28 : decode b_M_width 28 = .ok (.iconst 3, 1) := by decide +kernel
theorem d_M_width_29 : decode b_M_width 29 = .ok (.if_icmp .ne 8, 3) := by decide +kernel
theorem d_M_width_32 : decode b_M_width 32 = .ok (.bipush 8, 2) := by decide +kernel
theorem d_M_width_34 : decode b_M_width 34 = .ok (.goto 4, 3) := by decide +kernel
theorem d_M_width_37 : decode b_M_width 37 = .ok (.iconst 4, 1) := by decide +kernel
theorem d_M_width_38 : decode b_M_width 38 = .ok (.ireturn, 1) := by decide +kernel
theorem d_M_tooLong_0 : decode b_M_tooLong 0 = .ok (.aload_n 0, 1) := by decide +kernel
theorem d_M_tooLong_1 : decode b_M_tooLong 1 = .ok (.getfield 96, 3) := by decide +kernel
theorem d_M_tooLong_4 : decode b_M_tooLong 4 = .ok (.aload_n 0, 1) := by decide +kernel
theorem d_M_tooLong_5 : decode b_M_tooLong 5 = .ok (.getfield 106, 3) := by decide +kernel
theorem d_M_tooLong_8 : decode b_M_tooLong 8 = .ok (.iadd, 1) := by decide +kernel
theorem d_M_tooLong_9 : decode b_M_tooLong 9 = .ok (.sipush 1400, 3) := by decide +kernel
theorem d_M_tooLong_12 : decode b_M_tooLong 12 = .ok (.if_icmp .gt 5, 3) := by decide +kernel
theorem d_M_tooLong_15 : decode b_M_tooLong 15 = .ok (.iconst 0, 1) := by decide +kernel
theorem d_M_tooLong_16 : decode b_M_tooLong 16 = .ok (.ireturn, 1) := by decide +kernel
theorem d_M_tooLong_17 : decode b_M_tooLong 17 = .ok (.aload_n 0, 1) := by decide +kernel
theorem d_M_tooLong_18 : decode b_M_tooLong 18 = .ok (.aload_n 0, 1) := by decide +kernel
theorem d_M_tooLong_19 : decode b_M_tooLong 19 = .ok (.getfield 140, 3) := by decide +kernel
theorem d_M_tooLong_22 : decode b_M_tooLong 22 = .ok (.putfield 96, 3) := by decide +kernel
theorem d_M_tooLong_25 : decode b_M_tooLong 25 = .ok (.aload_n 0, 1) := by decide +kernel
theorem d_M_tooLong_26 : decode b_M_tooLong 26 = .ok (.aload_n 0, 1) := by decide +kernel
theorem d_M_tooLong_27 : decode b_M_tooLong 27 = .ok (.getfield 143, 3) := by decide +kernel
theorem d_M_tooLong_30 : decode b_M_tooLong 30 = .ok (.putfield 106, 3) := by decide +kernel
theorem d_M_tooLong_33 : decode b_M_tooLong 33 = .ok (.aload_n 0, 1) := by decide +kernel
theorem d_M_tooLong_34 : decode b_M_tooLong 34 = .ok (.aload_n 0, 1) := by decide +kernel
theorem d_M_tooLong_35 : decode b_M_tooLong 35 = .ok (.getfield 146, 3) := by decide +kernel
theorem d_M_tooLong_38 : decode b_M_tooLong 38 = .ok (.putfield 100, 3) := by decide +kernel
theorem d_M_tooLong_41 : decode b_M_tooLong 41 = .ok (.iconst 0, 1) := by decide +kernel
theorem d_M_tooLong_42 : decode b_M_tooLong 42 = .ok (.istore_n 1, 1) := by decide +kernel
theorem d_M_tooLong_43 : decode b_M_tooLong 43 = .ok (.iload_n 1, 1) := by decide +kernel
theorem d_M_tooLong_44 : decode b_M_tooLong 44 = .ok (.bipush 51, 2) := by decide +kernel
theorem d_M_tooLong_46 : decode b_M_tooLong 46 = .ok (.if_icmp .ge 21, 3) := by decide +kernel
theorem d_M_tooLong_49 : decode b_M_tooLong 49 = .ok (.aload_n 0, 1) := by decide +kernel
theorem d_M_tooLong_50 : decode b_M_tooLong 50 = .ok (.getfield 63, 3) := by decide +kernel
theorem d_M_tooLong_53 : decode b_M_tooLong 53 = .ok (.iload_n 1, 1) := by decide +kernel
theorem d_M_tooLong_54 : decode b_M_tooLong 54 = .ok (.aload_n 0, 1) := by decide +kernel
theorem d_M_tooLong_55 : decode b_M_tooLong 55 = .ok (.getfield 78, 3) := by decide +kernel
theorem d_M_tooLong_58 : decode b_M_tooLong 58 = .ok (.iload_n 1, 1) := by decide +kernel
theorem d_M_tooLong_59 : decode b_M_tooLong 59 = .ok (.iaload, 1) := by decide +kernel
theorem d_M_tooLong_60 : decode b_M_tooLong 60 = .ok (.iastore, 1) := by decide +kernel
theorem d_M_tooLong_61 : decode b_M_tooLong 61 = .ok (.iinc 1 1, 3) := by decide +kernel
theorem d_M_tooLong_64 : decode b_M_tooLong 64 = .ok (.goto (-21), 3) := by decide +kernel
theorem d_M_tooLong_67 : decode b_M_tooLong 67 = .ok (.iconst 1, 1) := by decide +kernel
theorem d_M_tooLong_68 : decode b_M_tooLong 68 = .ok (.ireturn, 1) := by decide +kernel
theorem d_M_reset_0 : decode b_M_reset 0 = .ok (.aload_n 0, 1) := by decide +kernel
theorem d_M_reset_1 : decode b_M_reset 1 = .ok (.invokevirtual 282, 3) := by decide +kernel
theorem d_M_reset_4 : decode b_M_reset 4 = .ok (.aload_n 0, 1) := by decide +kernel
theorem d_M_reset_5 : decode b_M_reset 5 = .ok (.invokevirtual 149, 3) := by decide +kernel
theorem d_M_reset_8 : decode b_M_reset 8 = .ok (.aload_n 0, 1) := by decide +kernel
theorem d_M_reset_9 : decode b_M_reset 9 = .ok (.ldc2_w 271, 3) := by decide +kernel
theorem d_M_reset_12 : decode b_M_reset 12 = .ok (.iconst 1, 1) := by decide +kernel
theorem d_M_reset_13 : decode b_M_reset 13 = .ok (.invokevirtual 83, 3) := by decide +kernel
theorem d_M_reset_16 : decode b_M_reset 16 = .ok (.aload_n 0, 1) := by decide +kernel
theorem d_M_reset_17 : decode b_M_reset 17 = .ok (.invokevirtual 89, 3) := by decide +kernel
theorem d_M_reset_20 : decode b_M_reset 20 = .ok (.aload_n 0, 1) := by decide +kernel
theorem d_M_reset_21 : decode b_M_reset 21 = .ok (.invokevirtual 289, 3) := by decide +kernel
theorem d_M_reset_24 : decode b_M_reset 24 = .ok (.ifCond .eq 8, 3) := by decide +kernel
theorem d_M_reset_27 : decode b_M_reset 27 = .ok (.bipush (-2), 2) := by decide +kernel
theorem d_M_reset_29 : decode b_M_reset 29 = .ok (.goto 7, 3) := by decide +kernel
theorem d_M_reset_32 : decode b_M_reset 32 = .ok (.aload_n 0, 1) := by decide +kernel
theorem d_M_reset_33 : decode b_M_reset 33 = .ok (.getfield 96, 3) := by decide +kernel
theorem d_M_reset_36 : decode b_M_reset 36 = .ok (.ireturn, 1) := by decide +kernel
theorem d_M_byteAt_0 : decode b_M_byteAt 0 = .ok (.aload_n 0, 1) := by decide +kernel
theorem d_M_byteAt_1 : decode b_M_byteAt 1 = .ok (.iload_n 1, 1) := by decide +kernel
theorem d_M_byteAt_2 : decode b_M_byteAt 2 = .ok (.aload_n 0, 1) := by decide +kernel
theorem d_M_byteAt_3 : decode b_M_byteAt 3 = .ok (.getfield 96, 3) := by decide +kernel
theorem d_M_byteAt_6 : decode b_M_byteAt 6 = .ok (.invokevirtual 92, 3) := by decide +kernel
theorem d_M_byteAt_9 : decode b_M_byteAt 9 = .ok (.ifCond .eq 7, 3) := by decide +kernel
theorem d_M_byteAt_12 : decode b_M_byteAt 12 = .ok (.iconst (-1), 1) := by decide +kernel
theorem d_M_byteAt_13 : decode b_M_byteAt 13 = .ok (.goto 9, 3) := by decide +kernel
theorem d_M_byteAt_16 : decode b_M_byteAt 16 = .ok (.aload_n 0, 1) := by decide +kernel
theorem d_M_byteAt_17 : decode b_M_byteAt 17 = .ok (.getfield 57, 3) := by decide +kernel
theorem d_M_byteAt_20 : decode b_M_byteAt 20 = .ok (.iload_n 1, 1) := by decide +kernel
theorem d_M_byteAt_21 : decode b_M_byteAt 21 = .ok (.iaload, 1) := by decide +kernel
theorem d_M_byteAt_22 : decode b_M_byteAt 22 = .ok (.ireturn, 1) := by decide +kernel
theorem d_M_handle_0 : decode b_M_handle 0 = .ok (.aload_n 0, 1) := by decide +kernel
theorem d_M_handle_1 : decode b_M_handle 1 = .ok (.iload_n 1, 1) := by decide +kernel
theorem d_M_handle_2 : decode b_M_handle 2 = .ok (.aload_n 0, 1) := by decide +kernel
theorem d_M_handle_3 : decode b_M_handle 3 = .ok (.getfield 115, 3) := by decide +kernel
theorem d_M_handle_6 : decode b_M_handle 6 = .ok (.invokevirtual 92, 3) := by decide +kernel
theorem d_M_handle_9 : decode b_M_handle 9 = .ok (.ifCond .eq 7, 3) := by decide +kernel
theorem d_M_handle_12 : decode b_M_handle 12 = .ok (.iconst (-1), 1) := by decide +kernel
theorem d_M_handle_13 : decode b_M_handle 13 = .ok (.goto 9, 3) := by decide +kernel
theorem d_M_handle_16 : decode b_M_handle 16 = .ok (.aload_n 0, 1) := by decide +kernel
theorem d_M_handle_17 : decode b_M_handle 17 = .ok (.getfield 63, 3) := by decide +kernel
theorem d_M_handle_20 : decode b_M_handle 20 = .ok (.iload_n 1, 1) := by decide +kernel
theorem d_M_handle_21 : decode b_M_handle 21 = .ok (.iaload, 1) := by decide +kernel
theorem d_M_handle_22 : decode b_M_handle 22 = .ok (.ireturn, 1) := by decide +kernel
theorem d_M_count_0 : decode b_M_count 0 = .ok (.iconst 0, 1) := by decide +kernel
theorem d_M_count_1 : decode b_M_count 1 = .ok (.istore_n 2, 1) := by decide +kernel
theorem d_M_count_2 : decode b_M_count 2 = .ok (.iconst 0, 1) := by decide +kernel
theorem d_M_count_3 : decode b_M_count 3 = .ok (.istore_n 3, 1) := by decide +kernel
theorem d_M_count_4 : decode b_M_count 4 = .ok (.iload_n 3, 1) := by decide +kernel
theorem d_M_count_5 : decode b_M_count 5 = .ok (.bipush 6, 2) := by decide +kernel
theorem d_M_count_7 : decode b_M_count 7 = .ok (.if_icmp .ge 28, 3) := by decide +kernel
theorem d_M_count_10 : decode b_M_count 10 = .ok (.iload_n 2, 1) := by decide +kernel
theorem d_M_count_11 : decode b_M_count 11 = .ok (.aload_n 0, 1) := by decide +kernel
theorem d_M_count_12 : decode b_M_count 12 = .ok (.getfield 7, 3) := by decide +kernel
theorem d_M_count_15 : decode b_M_count 15 = .ok (.iload_n 3, 1) := by decide +kernel
theorem d_M_count_16 : decode b_M_count 16 = .ok (.baload, 1) := by decide +kernel
theorem d_M_count_17 : decode b_M_count 17 = .ok (.ifCond .eq 9, 3) := by decide +kernel
theorem d_M_count_20 : decode b_M_count 20 = .ok (.iconst 1, 1) := by decide +kernel
theorem d_M_count_21 : decode b_M_count 21 = .ok (.iload_n 3, 1) := by decide +kernel
theorem d_M_count_22 : decode b_M_count 22 = .ok (.ishl, 1) := by decide +kernel
theorem d_M_count_23 : decode b_M_count 23 = .ok (.goto 4, 3) := by decide +kernel
theorem d_M_count_26 : decode b_M_count 26 = .ok (.iconst 0, 1) := by decide +kernel
theorem d_M_count_27 : decode b_M_count 27 = .ok (.iadd, 1) := by decide +kernel
theorem d_M_count_28 : decode b_M_count 28 = .ok (.istore_n 2, 1) := by decide +kernel
theorem d_M_count_29 : decode b_M_count 29 = .ok (.iinc 3 1, 3) := by decide +kernel
theorem d_M_count_32 : decode b_M_count 32 = .ok (.goto (-28), 3) := by decide +kernel
theorem d_M_count_35 : decode b_M_count 35 = .ok (.iload_n 1, 1) := by decide +kernel
theorem d_M_count_36 : decode b_M_count 36 = .ok (.tableswitch 58 0 4 #[36, 41, 46, 51, 56], 36) := by decide +kernel
theorem d_M_count_72 : decode b_M_count 72 = .ok (.aload_n 0, 1) := by decide +kernel
theorem d_M_count_73 : decode b_M_count 73 = .ok (.getfield 96, 3) := by decide +kernel
theorem d_M_count_76 : decode b_M_count 76 = .ok (.ireturn, 1) := by decide +kernel
theorem d_M_count_77 : decode b_M_count 77 = .ok (.aload_n 0, 1) := by decide +kernel
theorem d_M_count_78 : decode b_M_count 78 = .ok (.getfield 106, 3) := by decide +kernel
theorem d_M_count_81 : decode b_M_count 81 = .ok (.ireturn, 1) := by decide +kernel
theorem d_M_count_82 : decode b_M_count 82 = .ok (.aload_n 0, 1) := by decide +kernel
theorem d_M_count_83 : decode b_M_count 83 = .ok (.getfield 100, 3) := by decide +kernel
theorem d_M_count_86 : decode b_M_count 86 = .ok (.ireturn, 1) := by decide +kernel
theorem d_M_count_87 : decode b_M_count 87 = .ok (.aload_n 0, 1) := by decide +kernel
theorem d_M_count_88 : decode b_M_count 88 = .ok (.getfield 115, 3) := by decide +kernel
theorem d_M_count_91 : decode b_M_count 91 = .ok (.ireturn, 1) := by decide +kernel
theorem d_M_count_92 : decode b_M_count 92 = .ok (.iload_n 2, 1) := by decide +kernel
theorem d_M_count_93 : decode b_M_count 93 = .ok (.ireturn, 1) := by decide +kernel
theorem d_M_count_94 : decode b_M_count 94 = .ok (.iconst (-1), 1) := by decide +kernel
theorem d_M_count_95 : decode b_M_count 95 = .ok (.ireturn, 1) := by decide +kernel
theorem d_M_object_0 : decode b_M_object 0 = .ok (.aload_n 0, 1) := by decide +kernel
theorem d_M_object_1 : decode b_M_object 1 = .ok (.iload_n 1, 1) := by decide +kernel
theorem d_M_object_2 : decode b_M_object 2 = .ok (.aload_n 0, 1) := by decide +kernel
theorem d_M_object_3 : decode b_M_object 3 = .ok (.getfield 115, 3) := by decide +kernel
theorem d_M_object_6 : decode b_M_object 6 = .ok (.invokevirtual 92, 3) := by decide +kernel
theorem d_M_object_9 : decode b_M_object 9 = .ok (.ifCond .ne 12, 3) := by decide +kernel
theorem d_M_object_12 : decode b_M_object 12 = .ok (.aload_n 0, 1) := by decide +kernel
theorem d_M_object_13 : decode b_M_object 13 = .ok (.iload_n 2, 1) := by decide +kernel
theorem d_M_object_14 : decode b_M_object 14 = .ok (.iconst 3, 1) := by decide +kernel
theorem d_M_object_15 : decode b_M_object 15 = .ok (.invokevirtual 92, 3) := by decide +kernel
theorem d_M_object_18 : decode b_M_object 18 = .ok (.ifCond .eq 5, 3) := by decide +kernel
theorem d_M_object_21 : decode b_M_object 21 = .ok (.iconst (-1), 1) := by decide +kernel
theorem d_M_object_22 : decode b_M_object 22 = .ok (.ireturn, 1) := by decide +kernel
theorem d_M_object_23 : decode b_M_object 23 = .ok (.iload_n 2, 1) := by decide +kernel
theorem d_M_object_24 : decode b_M_object 24 = .ok (.ifCond .ne 10, 3) := by decide +kernel
theorem d_M_object_27 : decode b_M_object 27 = .ok (.aload_n 0, 1) := by decide +kernel
theorem d_M_object_28 : decode b_M_object 28 = .ok (.getfield 36, 3) := by decide +kernel
theorem d_M_object_31 : decode b_M_object 31 = .ok (.iload_n 1, 1) := by decide +kernel
theorem d_M_object_32 : decode b_M_object 32 = .ok (.iaload, 1) := by decide +kernel
theorem d_M_object_33 : decode b_M_object 33 = .ok (.ireturn, 1) := by decide +kernel
theorem d_M_object_34 : decode b_M_object 34 = .ok (.iload_n 2, 1) := by decide +kernel
theorem d_M_object_35 : decode b_M_object 35 = .ok (.iconst 2, 1) := by decide +kernel
theorem d_M_object_36 : decode b_M_object 36 = .ok (.if_icmp .ne 10, 3) := by decide +kernel
theorem d_M_object_39 : decode b_M_object 39 = .ok (.aload_n 0, 1) := by decide +kernel
theorem d_M_object_40 : decode b_M_object 40 = .ok (.getfield 45, 3) := by decide +kernel
theorem d_M_object_43 : decode b_M_object 43 = .ok (.iload_n 1, 1) := by decide +kernel
theorem d_M_object_44 : decode b_M_object 44 = .ok (.iaload, 1) := by decide +kernel
theorem d_M_object_45 : decode b_M_object 45 = .ok (.ireturn, 1) := by decide +kernel
theorem d_M_object_46 : decode b_M_object 46 = .ok (.aload_n 0, 1) := by decide +kernel
theorem d_M_object_47 : decode b_M_object 47 = .ok (.getfield 36, 3) := by decide +kernel
theorem d_M_object_50 : decode b_M_object 50 = .ok (.iload_n 1, 1) := by decide +kernel
theorem d_M_object_51 : decode b_M_object 51 = .ok (.iaload, 1) := by decide +kernel
theorem d_M_object_52 : decode b_M_object 52 = .ok (.ifCond .eq 13, 3) := by decide +kernel
theorem d_M_object_55 : decode b_M_object 55 = .ok (.aload_n 0, 1) := by decide +kernel
theorem d_M_object_56 : decode b_M_object 56 = .ok (.getfield 36, 3) := by decide +kernel
theorem d_M_object_59 : decode b_M_object 59 = .ok (.iload_n 1, 1) := by decide +kernel
theorem d_M_object_60 : decode b_M_object 60 = .ok (.iaload, 1) := by decide +kernel
theorem d_M_object_61 : decode b_M_object 61 = .ok (.iconst 4, 1) := by decide +kernel
theorem d_M_object_62 : decode b_M_object 62 = .ok (.if_icmp .ne 12, 3) := by decide +kernel
theorem d_M_object_65 : decode b_M_object 65 = .ok (.aload_n 0, 1) := by decide +kernel
theorem d_M_object_66 : decode b_M_object 66 = .ok (.getfield 39, 3) := by decide +kernel
theorem d_M_object_69 : decode b_M_object 69 = .ok (.iload_n 1, 1) := by decide +kernel
theorem d_M_object_70 : decode b_M_object 70 = .ok (.iaload, 1) := by decide +kernel
theorem d_M_object_71 : decode b_M_object 71 = .ok (.goto 4, 3) := by decide +kernel
theorem d_M_object_74 : decode b_M_object 74 = .ok (.iconst (-1), 1) := by decide +kernel
theorem d_M_object_75 : decode b_M_object 75 = .ok (.ireturn, 1) := by decide +kernel
theorem d_L_law_0 : decode code 0 = .ok (.new 7, 3) := by decide +kernel
theorem d_L_law_3 : decode code 3 = .ok (.dup, 1) := by decide +kernel
theorem d_L_law_4 : decode code 4 = .ok (.invokespecial 9, 3) := by decide +kernel
theorem d_L_law_7 : decode code 7 = .ok (.astore_n 1, 1) := by decide +kernel
theorem d_L_law_8 : decode code 8 = .ok (.new 10, 3) := by decide +kernel
theorem d_L_law_11 : decode code 11 = .ok (.dup, 1) := by decide +kernel
theorem d_L_law_12 : decode code 12 = .ok (.invokespecial 12, 3) := by decide +kernel
theorem d_L_law_15 : decode code 15 = .ok (.astore_n 2, 1) := by decide +kernel
theorem d_L_law_16 : decode code 16 = .ok (.iconst 0, 1) := by decide +kernel
theorem d_L_law_17 : decode code 17 = .ok (.istore_n 3, 1) := by decide +kernel
theorem d_L_law_18 : decode code 18 = .ok (.iload_n 3, 1) := by decide +kernel
theorem d_L_law_19 : decode code 19 = .ok (.aload_n 0, 1) := by decide +kernel
theorem d_L_law_20 : decode code 20 = .ok (.arraylength, 1) := by decide +kernel
theorem d_L_law_21 : decode code 21 = .ok (.bipush 6, 2) := by decide +kernel
theorem d_L_law_23 : decode code 23 = .ok (.isub, 1) := by decide +kernel
theorem d_L_law_24 : decode code 24 = .ok (.if_icmp .gt 770, 3) := by decide +kernel
theorem d_L_law_27 : decode code 27 = .ok (.aload_n 0, 1) := by decide +kernel
theorem d_L_law_28 : decode code 28 = .ok (.iload_n 3, 1) := by decide +kernel
theorem d_L_law_29 : decode code 29 = .ok (.iaload, 1) := by decide +kernel
theorem d_L_law_30 : decode code 30 = .ok (.bipush 15, 2) := by decide +kernel
theorem d_L_law_32 : decode code 32 = .ok (.iand, 1) := by decide +kernel
theorem d_L_law_33 : decode code 33 = .ok (.tableswitch 755 0 15 #[79, 162, 231, 254, 307, 356, 389, 462, 495, 528, 591, 640, 653, 676, 699, 722], 79) := by decide +kernel
theorem d_L_law_112 : decode code 112 = .ok (.aload_n 1, 1) := by decide +kernel
theorem d_L_law_113 : decode code 113 = .ok (.aload_n 0, 1) := by decide +kernel
theorem d_L_law_114 : decode code 114 = .ok (.iload_n 3, 1) := by decide +kernel
theorem d_L_law_115 : decode code 115 = .ok (.iconst 1, 1) := by decide +kernel
theorem d_L_law_116 : decode code 116 = .ok (.iadd, 1) := by decide +kernel
theorem d_L_law_117 : decode code 117 = .ok (.iaload, 1) := by decide +kernel
theorem d_L_law_118 : decode code 118 = .ok (.aload_n 0, 1) := by decide +kernel
theorem d_L_law_119 : decode code 119 = .ok (.iload_n 3, 1) := by decide +kernel
theorem d_L_law_120 : decode code 120 = .ok (.iconst 2, 1) := by decide +kernel
theorem d_L_law_121 : decode code 121 = .ok (.iadd, 1) := by decide +kernel
theorem d_L_law_122 : decode code 122 = .ok (.iaload, 1) := by decide +kernel
theorem d_L_law_123 : decode code 123 = .ok (.aload_n 0, 1) := by decide +kernel
theorem d_L_law_124 : decode code 124 = .ok (.iload_n 3, 1) := by decide +kernel
theorem d_L_law_125 : decode code 125 = .ok (.iconst 3, 1) := by decide +kernel
theorem d_L_law_126 : decode code 126 = .ok (.iadd, 1) := by decide +kernel
theorem d_L_law_127 : decode code 127 = .ok (.iaload, 1) := by decide +kernel
theorem d_L_law_128 : decode code 128 = .ok (.aload_n 0, 1) := by decide +kernel
theorem d_L_law_129 : decode code 129 = .ok (.iload_n 3, 1) := by decide +kernel
theorem d_L_law_130 : decode code 130 = .ok (.iconst 4, 1) := by decide +kernel
theorem d_L_law_131 : decode code 131 = .ok (.iadd, 1) := by decide +kernel
theorem d_L_law_132 : decode code 132 = .ok (.iaload, 1) := by decide +kernel
theorem d_L_law_133 : decode code 133 = .ok (.i2l, 1) := by decide +kernel
theorem d_L_law_134 : decode code 134 = .ok (.bipush 32, 2) := by decide +kernel
theorem d_L_law_136 : decode code 136 = .ok (.lshl, 1) := by decide +kernel
theorem d_L_law_137 : decode code 137 = .ok (.aload_n 0, 1) := by decide +kernel
theorem d_L_law_138 : decode code 138 = .ok (.iload_n 3, 1) := by decide +kernel
theorem d_L_law_139 : decode code 139 = .ok (.iconst 5, 1) := by decide +kernel
theorem d_L_law_140 : decode code 140 = .ok (.iadd, 1) := by decide +kernel
theorem d_L_law_141 : decode code 141 = .ok (.iaload, 1) := by decide +kernel
theorem d_L_law_142 : decode code 142 = .ok (.i2l, 1) := by decide +kernel
theorem d_L_law_143 : decode code 143 = .ok (.ldc2_w 13, 3) := by decide +kernel
theorem d_L_law_146 : decode code 146 = .ok (.land, 1) := by decide +kernel
theorem d_L_law_147 : decode code 147 = .ok (.lor, 1) := by decide +kernel
theorem d_L_law_148 : decode code 148 = .ok (.invokevirtual 15, 3) := by decide +kernel
theorem d_L_law_151 : decode code 151 = .ok (.aload_n 2, 1) := by decide +kernel
theorem d_L_law_152 : decode code 152 = .ok (.aload_n 0, 1) := by decide +kernel
theorem d_L_law_153 : decode code 153 = .ok (.iload_n 3, 1) := by decide +kernel
theorem d_L_law_154 : decode code 154 = .ok (.iconst 1, 1) := by decide +kernel
theorem d_L_law_155 : decode code 155 = .ok (.iadd, 1) := by decide +kernel
theorem d_L_law_156 : decode code 156 = .ok (.iaload, 1) := by decide +kernel
theorem d_L_law_157 : decode code 157 = .ok (.aload_n 0, 1) := by decide +kernel
theorem d_L_law_158 : decode code 158 = .ok (.iload_n 3, 1) := by decide +kernel
theorem d_L_law_159 : decode code 159 = .ok (.iconst 2, 1) := by decide +kernel
theorem d_L_law_160 : decode code 160 = .ok (.iadd, 1) := by decide +kernel
theorem d_L_law_161 : decode code 161 = .ok (.iaload, 1) := by decide +kernel
theorem d_L_law_162 : decode code 162 = .ok (.aload_n 0, 1) := by decide +kernel
theorem d_L_law_163 : decode code 163 = .ok (.iload_n 3, 1) := by decide +kernel
theorem d_L_law_164 : decode code 164 = .ok (.iconst 3, 1) := by decide +kernel
theorem d_L_law_165 : decode code 165 = .ok (.iadd, 1) := by decide +kernel
theorem d_L_law_166 : decode code 166 = .ok (.iaload, 1) := by decide +kernel
theorem d_L_law_167 : decode code 167 = .ok (.aload_n 0, 1) := by decide +kernel
theorem d_L_law_168 : decode code 168 = .ok (.iload_n 3, 1) := by decide +kernel
theorem d_L_law_169 : decode code 169 = .ok (.iconst 4, 1) := by decide +kernel
theorem d_L_law_170 : decode code 170 = .ok (.iadd, 1) := by decide +kernel
theorem d_L_law_171 : decode code 171 = .ok (.iaload, 1) := by decide +kernel
theorem d_L_law_172 : decode code 172 = .ok (.i2l, 1) := by decide +kernel
theorem d_L_law_173 : decode code 173 = .ok (.bipush 32, 2) := by decide +kernel
theorem d_L_law_175 : decode code 175 = .ok (.lshl, 1) := by decide +kernel
theorem d_L_law_176 : decode code 176 = .ok (.aload_n 0, 1) := by decide +kernel
theorem d_L_law_177 : decode code 177 = .ok (.iload_n 3, 1) := by decide +kernel
theorem d_L_law_178 : decode code 178 = .ok (.iconst 5, 1) := by decide +kernel
theorem d_L_law_179 : decode code 179 = .ok (.iadd, 1) := by decide +kernel
theorem d_L_law_180 : decode code 180 = .ok (.iaload, 1) := by decide +kernel
theorem d_L_law_181 : decode code 181 = .ok (.i2l, 1) := by decide +kernel
theorem d_L_law_182 : decode code 182 = .ok (.ldc2_w 13, 3) := by decide +kernel
theorem d_L_law_185 : decode code 185 = .ok (.land, 1) := by decide +kernel
theorem d_L_law_186 : decode code 186 = .ok (.lor, 1) := by decide +kernel
theorem d_L_law_187 : decode code 187 = .ok (.invokevirtual 19, 3) := by decide +kernel
theorem d_L_law_190 : decode code 190 = .ok (.if_icmp .eq 598, 3) := by decide +kernel
theorem d_L_law_193 : decode code 193 = .ok (.iconst 0, 1) := by decide +kernel
theorem d_L_law_194 : decode code 194 = .ok (.ireturn, 1) := by decide +kernel
theorem d_L_law_195 : decode code 195 = .ok (.aload_n 1, 1) := by decide +kernel
theorem d_L_law_196 : decode code 196 = .ok (.aload_n 0, 1) := by decide +kernel
theorem d_L_law_197 : decode code 197 = .ok (.iload_n 3, 1) := by decide +kernel
theorem d_L_law_198 : decode code 198 = .ok (.iconst 1, 1) := by decide +kernel
theorem d_L_law_199 : decode code 199 = .ok (.iadd, 1) := by decide +kernel
theorem d_L_law_200 : decode code 200 = .ok (.iaload, 1) := by decide +kernel
theorem d_L_law_201 : decode code 201 = .ok (.aload_n 0, 1) := by decide +kernel
theorem d_L_law_202 : decode code 202 = .ok (.iload_n 3, 1) := by decide +kernel
theorem d_L_law_203 : decode code 203 = .ok (.iconst 2, 1) := by decide +kernel
theorem d_L_law_204 : decode code 204 = .ok (.iadd, 1) := by decide +kernel
theorem d_L_law_205 : decode code 205 = .ok (.iaload, 1) := by decide +kernel
theorem d_L_law_206 : decode code 206 = .ok (.aload_n 0, 1) := by decide +kernel
theorem d_L_law_207 : decode code 207 = .ok (.iload_n 3, 1) := by decide +kernel
theorem d_L_law_208 : decode code 208 = .ok (.iconst 3, 1) := by decide +kernel
theorem d_L_law_209 : decode code 209 = .ok (.iadd, 1) := by decide +kernel
theorem d_L_law_210 : decode code 210 = .ok (.iaload, 1) := by decide +kernel
theorem d_L_law_211 : decode code 211 = .ok (.aload_n 0, 1) := by decide +kernel
theorem d_L_law_212 : decode code 212 = .ok (.iload_n 3, 1) := by decide +kernel
theorem d_L_law_213 : decode code 213 = .ok (.iconst 4, 1) := by decide +kernel
theorem d_L_law_214 : decode code 214 = .ok (.iadd, 1) := by decide +kernel
theorem d_L_law_215 : decode code 215 = .ok (.iaload, 1) := by decide +kernel
theorem d_L_law_216 : decode code 216 = .ok (.ifCond .eq 7, 3) := by decide +kernel
theorem d_L_law_219 : decode code 219 = .ok (.iconst 1, 1) := by decide +kernel
theorem d_L_law_220 : decode code 220 = .ok (.goto 4, 3) := by decide +kernel
theorem d_L_law_223 : decode code 223 = .ok (.iconst 0, 1) := by decide +kernel
theorem d_L_law_224 : decode code 224 = .ok (.invokevirtual 20, 3) := by decide +kernel
theorem d_L_law_227 : decode code 227 = .ok (.aload_n 2, 1) := by decide +kernel
theorem d_L_law_228 : decode code 228 = .ok (.aload_n 0, 1) := by decide +kernel
theorem d_L_law_229 : decode code 229 = .ok (.iload_n 3, 1) := by decide +kernel
theorem d_L_law_230 : decode code 230 = .ok (.iconst 1, 1) := by decide +kernel
theorem d_L_law_231 : decode code 231 = .ok (.iadd, 1) := by decide +kernel
theorem d_L_law_232 : decode code 232 = .ok (.iaload, 1) := by decide +kernel
theorem d_L_law_233 : decode code 233 = .ok (.aload_n 0, 1) := by decide +kernel
theorem d_L_law_234 : decode code 234 = .ok (.iload_n 3, 1) := by decide +kernel
theorem d_L_law_235 : decode code 235 = .ok (.iconst 2, 1) := by decide +kernel
theorem d_L_law_236 : decode code 236 = .ok (.iadd, 1) := by decide +kernel
theorem d_L_law_237 : decode code 237 = .ok (.iaload, 1) := by decide +kernel
theorem d_L_law_238 : decode code 238 = .ok (.aload_n 0, 1) := by decide +kernel
theorem d_L_law_239 : decode code 239 = .ok (.iload_n 3, 1) := by decide +kernel
theorem d_L_law_240 : decode code 240 = .ok (.iconst 3, 1) := by decide +kernel
theorem d_L_law_241 : decode code 241 = .ok (.iadd, 1) := by decide +kernel
theorem d_L_law_242 : decode code 242 = .ok (.iaload, 1) := by decide +kernel
theorem d_L_law_243 : decode code 243 = .ok (.aload_n 0, 1) := by decide +kernel
theorem d_L_law_244 : decode code 244 = .ok (.iload_n 3, 1) := by decide +kernel
theorem d_L_law_245 : decode code 245 = .ok (.iconst 4, 1) := by decide +kernel
theorem d_L_law_246 : decode code 246 = .ok (.iadd, 1) := by decide +kernel
theorem d_L_law_247 : decode code 247 = .ok (.iaload, 1) := by decide +kernel
theorem d_L_law_248 : decode code 248 = .ok (.ifCond .eq 7, 3) := by decide +kernel
theorem d_L_law_251 : decode code 251 = .ok (.iconst 1, 1) := by decide +kernel
theorem d_L_law_252 : decode code 252 = .ok (.goto 4, 3) := by decide +kernel
theorem d_L_law_255 : decode code 255 = .ok (.iconst 0, 1) := by decide +kernel
theorem d_L_law_256 : decode code 256 = .ok (.invokevirtual 24, 3) := by decide +kernel
theorem d_L_law_259 : decode code 259 = .ok (.if_icmp .eq 529, 3) := by decide +kernel
theorem d_L_law_262 : decode code 262 = .ok (.iconst 0, 1) := by decide +kernel
theorem d_L_law_263 : decode code 263 = .ok (.ireturn, 1) := by decide +kernel
theorem d_L_law_264 : decode code 264 = .ok (.aload_n 1, 1) := by decide +kernel
theorem d_L_law_265 : decode code 265 = .ok (.aload_n 0, 1) := by decide +kernel
theorem d_L_law_266 : decode code 266 = .ok (.iload_n 3, 1) := by decide +kernel
theorem d_L_law_267 : decode code 267 = .ok (.iconst 1, 1) := by decide +kernel
theorem d_L_law_268 : decode code 268 = .ok (.iadd, 1) := by decide +kernel
theorem d_L_law_269 : decode code 269 = .ok (.iaload, 1) := by decide +kernel
theorem d_L_law_270 : decode code 270 = .ok (.invokevirtual 25, 3) := by decide +kernel
theorem d_L_law_273 : decode code 273 = .ok (.aload_n 2, 1) := by decide +kernel
theorem d_L_law_274 : decode code 274 = .ok (.aload_n 0, 1) := by decide +kernel
theorem d_L_law_275 : decode code 275 = .ok (.iload_n 3, 1) := by decide +kernel
theorem d_L_law_276 : decode code 276 = .ok (.iconst 1, 1) := by decide +kernel
theorem d_L_law_277 : decode code 277 = .ok (.iadd, 1) := by decide +kernel
theorem d_L_law_278 : decode code 278 = .ok (.iaload, 1) := by decide +kernel
theorem d_L_law_279 : decode code 279 = .ok (.invokevirtual 29, 3) := by decide +kernel
theorem d_L_law_282 : decode code 282 = .ok (.if_icmp .eq 506, 3) := by decide +kernel
theorem d_L_law_285 : decode code 285 = .ok (.iconst 0, 1) := by decide +kernel
theorem d_L_law_286 : decode code 286 = .ok (.ireturn, 1) := by decide +kernel
theorem d_L_law_287 : decode code 287 = .ok (.aload_n 1, 1) := by decide +kernel
theorem d_L_law_288 : decode code 288 = .ok (.aload_n 0, 1) := by decide +kernel
theorem d_L_law_289 : decode code 289 = .ok (.iload_n 3, 1) := by decide +kernel
theorem d_L_law_290 : decode code 290 = .ok (.iconst 1, 1) := by decide +kernel
theorem d_L_law_291 : decode code 291 = .ok (.iadd, 1) := by decide +kernel
theorem d_L_law_292 : decode code 292 = .ok (.iaload, 1) := by decide +kernel
theorem d_L_law_293 : decode code 293 = .ok (.i2l, 1) := by decide +kernel
theorem d_L_law_294 : decode code 294 = .ok (.bipush 32, 2) := by decide +kernel
theorem d_L_law_296 : decode code 296 = .ok (.lshl, 1) := by decide +kernel
theorem d_L_law_297 : decode code 297 = .ok (.aload_n 0, 1) := by decide +kernel
theorem d_L_law_298 : decode code 298 = .ok (.iload_n 3, 1) := by decide +kernel
theorem d_L_law_299 : decode code 299 = .ok (.iconst 2, 1) := by decide +kernel
theorem d_L_law_300 : decode code 300 = .ok (.iadd, 1) := by decide +kernel
theorem d_L_law_301 : decode code 301 = .ok (.iaload, 1) := by decide +kernel
theorem d_L_law_302 : decode code 302 = .ok (.i2l, 1) := by decide +kernel
theorem d_L_law_303 : decode code 303 = .ok (.ldc2_w 13, 3) := by decide +kernel
theorem d_L_law_306 : decode code 306 = .ok (.land, 1) := by decide +kernel
theorem d_L_law_307 : decode code 307 = .ok (.lor, 1) := by decide +kernel
theorem d_L_law_308 : decode code 308 = .ok (.invokevirtual 30, 3) := by decide +kernel
theorem d_L_law_311 : decode code 311 = .ok (.aload_n 2, 1) := by decide +kernel
theorem d_L_law_312 : decode code 312 = .ok (.aload_n 0, 1) := by decide +kernel
theorem d_L_law_313 : decode code 313 = .ok (.iload_n 3, 1) := by decide +kernel
theorem d_L_law_314 : decode code 314 = .ok (.iconst 1, 1) := by decide +kernel
theorem d_L_law_315 : decode code 315 = .ok (.iadd, 1) := by decide +kernel
theorem d_L_law_316 : decode code 316 = .ok (.iaload, 1) := by decide +kernel
theorem d_L_law_317 : decode code 317 = .ok (.i2l, 1) := by decide +kernel
theorem d_L_law_318 : decode code 318 = .ok (.bipush 32, 2) := by decide +kernel
theorem d_L_law_320 : decode code 320 = .ok (.lshl, 1) := by decide +kernel
theorem d_L_law_321 : decode code 321 = .ok (.aload_n 0, 1) := by decide +kernel
theorem d_L_law_322 : decode code 322 = .ok (.iload_n 3, 1) := by decide +kernel
theorem d_L_law_323 : decode code 323 = .ok (.iconst 2, 1) := by decide +kernel
theorem d_L_law_324 : decode code 324 = .ok (.iadd, 1) := by decide +kernel
theorem d_L_law_325 : decode code 325 = .ok (.iaload, 1) := by decide +kernel
theorem d_L_law_326 : decode code 326 = .ok (.i2l, 1) := by decide +kernel
theorem d_L_law_327 : decode code 327 = .ok (.ldc2_w 13, 3) := by decide +kernel
theorem d_L_law_330 : decode code 330 = .ok (.land, 1) := by decide +kernel
theorem d_L_law_331 : decode code 331 = .ok (.lor, 1) := by decide +kernel
theorem d_L_law_332 : decode code 332 = .ok (.invokevirtual 34, 3) := by decide +kernel
theorem d_L_law_335 : decode code 335 = .ok (.if_icmp .eq 453, 3) := by decide +kernel
theorem d_L_law_338 : decode code 338 = .ok (.iconst 0, 1) := by decide +kernel
theorem d_L_law_339 : decode code 339 = .ok (.ireturn, 1) := by decide +kernel
theorem d_L_law_340 : decode code 340 = .ok (.aload_n 1, 1) := by decide +kernel
theorem d_L_law_341 : decode code 341 = .ok (.aload_n 0, 1) := by decide +kernel
theorem d_L_law_342 : decode code 342 = .ok (.iload_n 3, 1) := by decide +kernel
theorem d_L_law_343 : decode code 343 = .ok (.iconst 1, 1) := by decide +kernel
theorem d_L_law_344 : decode code 344 = .ok (.iadd, 1) := by decide +kernel
theorem d_L_law_345 : decode code 345 = .ok (.iaload, 1) := by decide +kernel
theorem d_L_law_346 : decode code 346 = .ok (.ifCond .eq 7, 3) := by decide +kernel
theorem d_L_law_349 : decode code 349 = .ok (.iconst 1, 1) := by decide +kernel
theorem d_L_law_350 : decode code 350 = .ok (.goto 4, 3) := by decide +kernel
theorem d_L_law_353 : decode code 353 = .ok (.iconst 0, 1) := by decide +kernel
theorem d_L_law_354 : decode code 354 = .ok (.aload_n 0, 1) := by decide +kernel
theorem d_L_law_355 : decode code 355 = .ok (.iload_n 3, 1) := by decide +kernel
theorem d_L_law_356 : decode code 356 = .ok (.iconst 2, 1) := by decide +kernel
theorem d_L_law_357 : decode code 357 = .ok (.iadd, 1) := by decide +kernel
theorem d_L_law_358 : decode code 358 = .ok (.iaload, 1) := by decide +kernel
theorem d_L_law_359 : decode code 359 = .ok (.invokevirtual 35, 3) := by decide +kernel
theorem d_L_law_362 : decode code 362 = .ok (.aload_n 2, 1) := by decide +kernel
theorem d_L_law_363 : decode code 363 = .ok (.aload_n 0, 1) := by decide +kernel
theorem d_L_law_364 : decode code 364 = .ok (.iload_n 3, 1) := by decide +kernel
theorem d_L_law_365 : decode code 365 = .ok (.iconst 1, 1) := by decide +kernel
theorem d_L_law_366 : decode code 366 = .ok (.iadd, 1) := by decide +kernel
theorem d_L_law_367 : decode code 367 = .ok (.iaload, 1) := by decide +kernel
theorem d_L_law_368 : decode code 368 = .ok (.ifCond .eq 7, 3) := by decide +kernel
theorem d_L_law_371 : decode code 371 = .ok (.iconst 1, 1) := by decide +kernel
theorem d_L_law_372 : decode code 372 = .ok (.goto 4, 3) := by decide +kernel
theorem d_L_law_375 : decode code 375 = .ok (.iconst 0, 1) := by decide +kernel
theorem d_L_law_376 : decode code 376 = .ok (.aload_n 0, 1) := by decide +kernel
theorem d_L_law_377 : decode code 377 = .ok (.iload_n 3, 1) := by decide +kernel
theorem d_L_law_378 : decode code 378 = .ok (.iconst 2, 1) := by decide +kernel
theorem d_L_law_379 : decode code 379 = .ok (.iadd, 1) := by decide +kernel
theorem d_L_law_380 : decode code 380 = .ok (.iaload, 1) := by decide +kernel
theorem d_L_law_381 : decode code 381 = .ok (.invokevirtual 39, 3) := by decide +kernel
theorem d_L_law_384 : decode code 384 = .ok (.if_icmp .eq 404, 3) := by decide +kernel
theorem d_L_law_387 : decode code 387 = .ok (.iconst 0, 1) := by decide +kernel
theorem d_L_law_388 : decode code 388 = .ok (.ireturn, 1) := by decide +kernel
theorem d_L_law_389 : decode code 389 = .ok (.aload_n 1, 1) := by decide +kernel
theorem d_L_law_390 : decode code 390 = .ok (.aload_n 0, 1) := by decide +kernel
theorem d_L_law_391 : decode code 391 = .ok (.iload_n 3, 1) := by decide +kernel
theorem d_L_law_392 : decode code 392 = .ok (.iconst 1, 1) := by decide +kernel
theorem d_L_law_393 : decode code 393 = .ok (.iadd, 1) := by decide +kernel
theorem d_L_law_394 : decode code 394 = .ok (.iaload, 1) := by decide +kernel
theorem d_L_law_395 : decode code 395 = .ok (.aload_n 0, 1) := by decide +kernel
theorem d_L_law_396 : decode code 396 = .ok (.iload_n 3, 1) := by decide +kernel
theorem d_L_law_397 : decode code 397 = .ok (.iconst 2, 1) := by decide +kernel
theorem d_L_law_398 : decode code 398 = .ok (.iadd, 1) := by decide +kernel
theorem d_L_law_399 : decode code 399 = .ok (.iaload, 1) := by decide +kernel
theorem d_L_law_400 : decode code 400 = .ok (.invokevirtual 40, 3) := by decide +kernel
theorem d_L_law_403 : decode code 403 = .ok (.aload_n 2, 1) := by decide +kernel
theorem d_L_law_404 : decode code 404 = .ok (.aload_n 0, 1) := by decide +kernel
theorem d_L_law_405 : decode code 405 = .ok (.iload_n 3, 1) := by decide +kernel
theorem d_L_law_406 : decode code 406 = .ok (.iconst 1, 1) := by decide +kernel
theorem d_L_law_407 : decode code 407 = .ok (.iadd, 1) := by decide +kernel
theorem d_L_law_408 : decode code 408 = .ok (.iaload, 1) := by decide +kernel
theorem d_L_law_409 : decode code 409 = .ok (.aload_n 0, 1) := by decide +kernel
theorem d_L_law_410 : decode code 410 = .ok (.iload_n 3, 1) := by decide +kernel
theorem d_L_law_411 : decode code 411 = .ok (.iconst 2, 1) := by decide +kernel
theorem d_L_law_412 : decode code 412 = .ok (.iadd, 1) := by decide +kernel
theorem d_L_law_413 : decode code 413 = .ok (.iaload, 1) := by decide +kernel
theorem d_L_law_414 : decode code 414 = .ok (.invokevirtual 44, 3) := by decide +kernel
theorem d_L_law_417 : decode code 417 = .ok (.if_icmp .eq 371, 3) := by decide +kernel
theorem d_L_law_420 : decode code 420 = .ok (.iconst 0, 1) := by decide +kernel
theorem d_L_law_421 : decode code 421 = .ok (.ireturn, 1) := by decide +kernel
theorem d_L_law_422 : decode code 422 = .ok (.aload_n 1, 1) := by decide +kernel
theorem d_L_law_423 : decode code 423 = .ok (.aload_n 0, 1) := by decide +kernel
theorem d_L_law_424 : decode code 424 = .ok (.iload_n 3, 1) := by decide +kernel
theorem d_L_law_425 : decode code 425 = .ok (.iconst 1, 1) := by decide +kernel
theorem d_L_law_426 : decode code 426 = .ok (.iadd, 1) := by decide +kernel
theorem d_L_law_427 : decode code 427 = .ok (.iaload, 1) := by decide +kernel
theorem d_L_law_428 : decode code 428 = .ok (.aload_n 0, 1) := by decide +kernel
theorem d_L_law_429 : decode code 429 = .ok (.iload_n 3, 1) := by decide +kernel
theorem d_L_law_430 : decode code 430 = .ok (.iconst 2, 1) := by decide +kernel
theorem d_L_law_431 : decode code 431 = .ok (.iadd, 1) := by decide +kernel
theorem d_L_law_432 : decode code 432 = .ok (.iaload, 1) := by decide +kernel
theorem d_L_law_433 : decode code 433 = .ok (.aload_n 0, 1) := by decide +kernel
theorem d_L_law_434 : decode code 434 = .ok (.iload_n 3, 1) := by decide +kernel
theorem d_L_law_435 : decode code 435 = .ok (.iconst 3, 1) := by decide +kernel
theorem d_L_law_436 : decode code 436 = .ok (.iadd, 1) := by decide +kernel
theorem d_L_law_437 : decode code 437 = .ok (.iaload, 1) := by decide +kernel
theorem d_L_law_438 : decode code 438 = .ok (.i2l, 1) := by decide +kernel
theorem d_L_law_439 : decode code 439 = .ok (.bipush 32, 2) := by decide +kernel
theorem d_L_law_441 : decode code 441 = .ok (.lshl, 1) := by decide +kernel
theorem d_L_law_442 : decode code 442 = .ok (.aload_n 0, 1) := by decide +kernel
theorem d_L_law_443 : decode code 443 = .ok (.iload_n 3, 1) := by decide +kernel
theorem d_L_law_444 : decode code 444 = .ok (.iconst 4, 1) := by decide +kernel
theorem d_L_law_445 : decode code 445 = .ok (.iadd, 1) := by decide +kernel
theorem d_L_law_446 : decode code 446 = .ok (.iaload, 1) := by decide +kernel
theorem d_L_law_447 : decode code 447 = .ok (.i2l, 1) := by decide +kernel
theorem d_L_law_448 : decode code 448 = .ok (.ldc2_w 13, 3) := by decide +kernel
theorem d_L_law_451 : decode code 451 = .ok (.land, 1) := by decide +kernel
theorem d_L_law_452 : decode code 452 = .ok (.lor, 1) := by decide +kernel
theorem d_L_law_453 : decode code 453 = .ok (.invokevirtual 45, 3) := by decide +kernel
theorem d_L_law_456 : decode code 456 = .ok (.aload_n 2, 1) := by decide +kernel
theorem d_L_law_457 : decode code 457 = .ok (.aload_n 0, 1) := by decide +kernel
theorem d_L_law_458 : decode code 458 = .ok (.iload_n 3, 1) := by decide +kernel
theorem d_L_law_459 : decode code 459 = .ok (.iconst 1, 1) := by decide +kernel
theorem d_L_law_460 : decode code 460 = .ok (.iadd, 1) := by decide +kernel
theorem d_L_law_461 : decode code 461 = .ok (.iaload, 1) := by decide +kernel
theorem d_L_law_462 : decode code 462 = .ok (.aload_n 0, 1) := by decide +kernel
theorem d_L_law_463 : decode code 463 = .ok (.iload_n 3, 1) := by decide +kernel
theorem d_L_law_464 : decode code 464 = .ok (.iconst 2, 1) := by decide +kernel
theorem d_L_law_465 : decode code 465 = .ok (.iadd, 1) := by decide +kernel
theorem d_L_law_466 : decode code 466 = .ok (.iaload, 1) := by decide +kernel
theorem d_L_law_467 : decode code 467 = .ok (.aload_n 0, 1) := by decide +kernel
theorem d_L_law_468 : decode code 468 = .ok (.iload_n 3, 1) := by decide +kernel
theorem d_L_law_469 : decode code 469 = .ok (.iconst 3, 1) := by decide +kernel
theorem d_L_law_470 : decode code 470 = .ok (.iadd, 1) := by decide +kernel
theorem d_L_law_471 : decode code 471 = .ok (.iaload, 1) := by decide +kernel
theorem d_L_law_472 : decode code 472 = .ok (.i2l, 1) := by decide +kernel
theorem d_L_law_473 : decode code 473 = .ok (.bipush 32, 2) := by decide +kernel
theorem d_L_law_475 : decode code 475 = .ok (.lshl, 1) := by decide +kernel
theorem d_L_law_476 : decode code 476 = .ok (.aload_n 0, 1) := by decide +kernel
theorem d_L_law_477 : decode code 477 = .ok (.iload_n 3, 1) := by decide +kernel
theorem d_L_law_478 : decode code 478 = .ok (.iconst 4, 1) := by decide +kernel
theorem d_L_law_479 : decode code 479 = .ok (.iadd, 1) := by decide +kernel
theorem d_L_law_480 : decode code 480 = .ok (.iaload, 1) := by decide +kernel
theorem d_L_law_481 : decode code 481 = .ok (.i2l, 1) := by decide +kernel
theorem d_L_law_482 : decode code 482 = .ok (.ldc2_w 13, 3) := by decide +kernel
theorem d_L_law_485 : decode code 485 = .ok (.land, 1) := by decide +kernel
theorem d_L_law_486 : decode code 486 = .ok (.lor, 1) := by decide +kernel
theorem d_L_law_487 : decode code 487 = .ok (.invokevirtual 49, 3) := by decide +kernel
theorem d_L_law_490 : decode code 490 = .ok (.if_icmp .eq 298, 3) := by decide +kernel
theorem d_L_law_493 : decode code 493 = .ok (.iconst 0, 1) := by decide +kernel
theorem d_L_law_494 : decode code 494 = .ok (.ireturn, 1) := by decide +kernel
theorem d_L_law_495 : decode code 495 = .ok (.aload_n 1, 1) := by decide +kernel
theorem d_L_law_496 : decode code 496 = .ok (.aload_n 0, 1) := by decide +kernel
theorem d_L_law_497 : decode code 497 = .ok (.iload_n 3, 1) := by decide +kernel
theorem d_L_law_498 : decode code 498 = .ok (.iconst 1, 1) := by decide +kernel
theorem d_L_law_499 : decode code 499 = .ok (.iadd, 1) := by decide +kernel
theorem d_L_law_500 : decode code 500 = .ok (.iaload, 1) := by decide +kernel
theorem d_L_law_501 : decode code 501 = .ok (.aload_n 0, 1) := by decide +kernel
theorem d_L_law_502 : decode code 502 = .ok (.iload_n 3, 1) := by decide +kernel
theorem d_L_law_503 : decode code 503 = .ok (.iconst 2, 1) := by decide +kernel
theorem d_L_law_504 : decode code 504 = .ok (.iadd, 1) := by decide +kernel
theorem d_L_law_505 : decode code 505 = .ok (.iaload, 1) := by decide +kernel
theorem d_L_law_506 : decode code 506 = .ok (.invokevirtual 50, 3) := by decide +kernel
theorem d_L_law_509 : decode code 509 = .ok (.aload_n 2, 1) := by decide +kernel
theorem d_L_law_510 : decode code 510 = .ok (.aload_n 0, 1) := by decide +kernel
theorem d_L_law_511 : decode code 511 = .ok (.iload_n 3, 1) := by decide +kernel
theorem d_L_law_512 : decode code 512 = .ok (.iconst 1, 1) := by decide +kernel
theorem d_L_law_513 : decode code 513 = .ok (.iadd, 1) := by decide +kernel
theorem d_L_law_514 : decode code 514 = .ok (.iaload, 1) := by decide +kernel
theorem d_L_law_515 : decode code 515 = .ok (.aload_n 0, 1) := by decide +kernel
theorem d_L_law_516 : decode code 516 = .ok (.iload_n 3, 1) := by decide +kernel
theorem d_L_law_517 : decode code 517 = .ok (.iconst 2, 1) := by decide +kernel
theorem d_L_law_518 : decode code 518 = .ok (.iadd, 1) := by decide +kernel
theorem d_L_law_519 : decode code 519 = .ok (.iaload, 1) := by decide +kernel
theorem d_L_law_520 : decode code 520 = .ok (.invokevirtual 53, 3) := by decide +kernel
theorem d_L_law_523 : decode code 523 = .ok (.if_icmp .eq 265, 3) := by decide +kernel
theorem d_L_law_526 : decode code 526 = .ok (.iconst 0, 1) := by decide +kernel
theorem d_L_law_527 : decode code 527 = .ok (.ireturn, 1) := by decide +kernel
theorem d_L_law_528 : decode code 528 = .ok (.aload_n 1, 1) := by decide +kernel
theorem d_L_law_529 : decode code 529 = .ok (.aload_n 0, 1) := by decide +kernel
theorem d_L_law_530 : decode code 530 = .ok (.iload_n 3, 1) := by decide +kernel
theorem d_L_law_531 : decode code 531 = .ok (.iconst 1, 1) := by decide +kernel
theorem d_L_law_532 : decode code 532 = .ok (.iadd, 1) := by decide +kernel
theorem d_L_law_533 : decode code 533 = .ok (.iaload, 1) := by decide +kernel
theorem d_L_law_534 : decode code 534 = .ok (.aload_n 0, 1) := by decide +kernel
theorem d_L_law_535 : decode code 535 = .ok (.iload_n 3, 1) := by decide +kernel
theorem d_L_law_536 : decode code 536 = .ok (.iconst 2, 1) := by decide +kernel
theorem d_L_law_537 : decode code 537 = .ok (.iadd, 1) := by decide +kernel
theorem d_L_law_538 : decode code 538 = .ok (.iaload, 1) := by decide +kernel
theorem d_L_law_539 : decode code 539 = .ok (.invokevirtual 54, 3) := by decide +kernel
theorem d_L_law_542 : decode code 542 = .ok (.aload_n 2, 1) := by decide +kernel
theorem d_L_law_543 : decode code 543 = .ok (.aload_n 0, 1) := by decide +kernel
theorem d_L_law_544 : decode code 544 = .ok (.iload_n 3, 1) := by decide +kernel
theorem d_L_law_545 : decode code 545 = .ok (.iconst 1, 1) := by decide +kernel
theorem d_L_law_546 : decode code 546 = .ok (.iadd, 1) := by decide +kernel
theorem d_L_law_547 : decode code 547 = .ok (.iaload, 1) := by decide +kernel
theorem d_L_law_548 : decode code 548 = .ok (.aload_n 0, 1) := by decide +kernel
theorem d_L_law_549 : decode code 549 = .ok (.iload_n 3, 1) := by decide +kernel
theorem d_L_law_550 : decode code 550 = .ok (.iconst 2, 1) := by decide +kernel
theorem d_L_law_551 : decode code 551 = .ok (.iadd, 1) := by decide +kernel
theorem d_L_law_552 : decode code 552 = .ok (.iaload, 1) := by decide +kernel
theorem d_L_law_553 : decode code 553 = .ok (.invokevirtual 57, 3) := by decide +kernel
theorem d_L_law_556 : decode code 556 = .ok (.if_icmp .eq 232, 3) := by decide +kernel
theorem d_L_law_559 : decode code 559 = .ok (.iconst 0, 1) := by decide +kernel
theorem d_L_law_560 : decode code 560 = .ok (.ireturn, 1) := by decide +kernel
theorem d_L_law_561 : decode code 561 = .ok (.aload_n 1, 1) := by decide +kernel
theorem d_L_law_562 : decode code 562 = .ok (.aload_n 0, 1) := by decide +kernel
theorem d_L_law_563 : decode code 563 = .ok (.iload_n 3, 1) := by decide +kernel
theorem d_L_law_564 : decode code 564 = .ok (.iconst 1, 1) := by decide +kernel
theorem d_L_law_565 : decode code 565 = .ok (.iadd, 1) := by decide +kernel
theorem d_L_law_566 : decode code 566 = .ok (.iaload, 1) := by decide +kernel
theorem d_L_law_567 : decode code 567 = .ok (.i2l, 1) := by decide +kernel
theorem d_L_law_568 : decode code 568 = .ok (.bipush 32, 2) := by decide +kernel
theorem d_L_law_570 : decode code 570 = .ok (.lshl, 1) := by decide +kernel
theorem d_L_law_571 : decode code 571 = .ok (.aload_n 0, 1) := by decide +kernel
theorem d_L_law_572 : decode code 572 = .ok (.iload_n 3, 1) := by decide +kernel
theorem d_L_law_573 : decode code 573 = .ok (.iconst 2, 1) := by decide +kernel
theorem d_L_law_574 : decode code 574 = .ok (.iadd, 1) := by decide +kernel
theorem d_L_law_575 : decode code 575 = .ok (.iaload, 1) := by decide +kernel
theorem d_L_law_576 : decode code 576 = .ok (.i2l, 1) := by decide +kernel
theorem d_L_law_577 : decode code 577 = .ok (.ldc2_w 13, 3) := by decide +kernel
theorem d_L_law_580 : decode code 580 = .ok (.land, 1) := by decide +kernel
theorem d_L_law_581 : decode code 581 = .ok (.lor, 1) := by decide +kernel
theorem d_L_law_582 : decode code 582 = .ok (.aload_n 0, 1) := by decide +kernel
theorem d_L_law_583 : decode code 583 = .ok (.iload_n 3, 1) := by decide +kernel
theorem d_L_law_584 : decode code 584 = .ok (.iconst 3, 1) := by decide +kernel
theorem d_L_law_585 : decode code 585 = .ok (.iadd, 1) := by decide +kernel
theorem d_L_law_586 : decode code 586 = .ok (.iaload, 1) := by decide +kernel
theorem d_L_law_587 : decode code 587 = .ok (.invokevirtual 58, 3) := by decide +kernel
theorem d_L_law_590 : decode code 590 = .ok (.aload_n 2, 1) := by decide +kernel
theorem d_L_law_591 : decode code 591 = .ok (.aload_n 0, 1) := by decide +kernel
theorem d_L_law_592 : decode code 592 = .ok (.iload_n 3, 1) := by decide +kernel
theorem d_L_law_593 : decode code 593 = .ok (.iconst 1, 1) := by decide +kernel
theorem d_L_law_594 : decode code 594 = .ok (.iadd, 1) := by decide +kernel
theorem d_L_law_595 : decode code 595 = .ok (.iaload, 1) := by decide +kernel
theorem d_L_law_596 : decode code 596 = .ok (.i2l, 1) := by decide +kernel
theorem d_L_law_597 : decode code 597 = .ok (.bipush 32, 2) := by decide +kernel
theorem d_L_law_599 : decode code 599 = .ok (.lshl, 1) := by decide +kernel
theorem d_L_law_600 : decode code 600 = .ok (.aload_n 0, 1) := by decide +kernel
theorem d_L_law_601 : decode code 601 = .ok (.iload_n 3, 1) := by decide +kernel
theorem d_L_law_602 : decode code 602 = .ok (.iconst 2, 1) := by decide +kernel
theorem d_L_law_603 : decode code 603 = .ok (.iadd, 1) := by decide +kernel
theorem d_L_law_604 : decode code 604 = .ok (.iaload, 1) := by decide +kernel
theorem d_L_law_605 : decode code 605 = .ok (.i2l, 1) := by decide +kernel
theorem d_L_law_606 : decode code 606 = .ok (.ldc2_w 13, 3) := by decide +kernel
theorem d_L_law_609 : decode code 609 = .ok (.land, 1) := by decide +kernel
theorem d_L_law_610 : decode code 610 = .ok (.lor, 1) := by decide +kernel
theorem d_L_law_611 : decode code 611 = .ok (.aload_n 0, 1) := by decide +kernel
theorem d_L_law_612 : decode code 612 = .ok (.iload_n 3, 1) := by decide +kernel
theorem d_L_law_613 : decode code 613 = .ok (.iconst 3, 1) := by decide +kernel
theorem d_L_law_614 : decode code 614 = .ok (.iadd, 1) := by decide +kernel
theorem d_L_law_615 : decode code 615 = .ok (.iaload, 1) := by decide +kernel
theorem d_L_law_616 : decode code 616 = .ok (.invokevirtual 62, 3) := by decide +kernel
theorem d_L_law_619 : decode code 619 = .ok (.if_icmp .eq 169, 3) := by decide +kernel
theorem d_L_law_622 : decode code 622 = .ok (.iconst 0, 1) := by decide +kernel
theorem d_L_law_623 : decode code 623 = .ok (.ireturn, 1) := by decide +kernel
theorem d_L_law_624 : decode code 624 = .ok (.aload_n 1, 1) := by decide +kernel
theorem d_L_law_625 : decode code 625 = .ok (.aload_n 0, 1) := by decide +kernel
theorem d_L_law_626 : decode code 626 = .ok (.iload_n 3, 1) := by decide +kernel
theorem d_L_law_627 : decode code 627 = .ok (.iconst 1, 1) := by decide +kernel
theorem d_L_law_628 : decode code 628 = .ok (.iadd, 1) := by decide +kernel
theorem d_L_law_629 : decode code 629 = .ok (.iaload, 1) := by decide +kernel
theorem d_L_law_630 : decode code 630 = .ok (.aload_n 0, 1) := by decide +kernel
theorem d_L_law_631 : decode code 631 = .ok (.iload_n 3, 1) := by decide +kernel
theorem d_L_law_632 : decode code 632 = .ok (.iconst 2, 1) := by decide +kernel
theorem d_L_law_633 : decode code 633 = .ok (.iadd, 1) := by decide +kernel
theorem d_L_law_634 : decode code 634 = .ok (.iaload, 1) := by decide +kernel
theorem d_L_law_635 : decode code 635 = .ok (.ifCond .eq 7, 3) := by decide +kernel
theorem d_L_law_638 : decode code 638 = .ok (.iconst 1, 1) := by decide +kernel
theorem d_L_law_639 : decode code 639 = .ok (.goto 4, 3) := by decide +kernel
theorem d_L_law_642 : decode code 642 = .ok (.iconst 0, 1) := by decide +kernel
theorem d_L_law_643 : decode code 643 = .ok (.invokevirtual 63, 3) := by decide +kernel
theorem d_L_law_646 : decode code 646 = .ok (.aload_n 2, 1) := by decide +kernel
theorem d_L_law_647 : decode code 647 = .ok (.aload_n 0, 1) := by decide +kernel
theorem d_L_law_648 : decode code 648 = .ok (.iload_n 3, 1) := by decide +kernel
theorem d_L_law_649 : decode code 649 = .ok (.iconst 1, 1) := by decide +kernel
theorem d_L_law_650 : decode code 650 = .ok (.iadd, 1) := by decide +kernel
theorem d_L_law_651 : decode code 651 = .ok (.iaload, 1) := by decide +kernel
theorem d_L_law_652 : decode code 652 = .ok (.aload_n 0, 1) := by decide +kernel
theorem d_L_law_653 : decode code 653 = .ok (.iload_n 3, 1) := by decide +kernel
theorem d_L_law_654 : decode code 654 = .ok (.iconst 2, 1) := by decide +kernel
theorem d_L_law_655 : decode code 655 = .ok (.iadd, 1) := by decide +kernel
theorem d_L_law_656 : decode code 656 = .ok (.iaload, 1) := by decide +kernel
theorem d_L_law_657 : decode code 657 = .ok (.ifCond .eq 7, 3) := by decide +kernel
theorem d_L_law_660 : decode code 660 = .ok (.iconst 1, 1) := by decide +kernel
theorem d_L_law_661 : decode code 661 = .ok (.goto 4, 3) := by decide +kernel
theorem d_L_law_664 : decode code 664 = .ok (.iconst 0, 1) := by decide +kernel
theorem d_L_law_665 : decode code 665 = .ok (.invokevirtual 67, 3) := by decide +kernel
theorem d_L_law_668 : decode code 668 = .ok (.if_icmp .eq 120, 3) := by decide +kernel
theorem d_L_law_671 : decode code 671 = .ok (.iconst 0, 1) := by decide +kernel
theorem d_L_law_672 : decode code 672 = .ok (.ireturn, 1) := by decide +kernel
theorem d_L_law_673 : decode code 673 = .ok (.aload_n 1, 1) := by decide +kernel
theorem d_L_law_674 : decode code 674 = .ok (.invokevirtual 68, 3) := by decide +kernel
theorem d_L_law_677 : decode code 677 = .ok (.aload_n 2, 1) := by decide +kernel
theorem d_L_law_678 : decode code 678 = .ok (.invokevirtual 72, 3) := by decide +kernel
theorem d_L_law_681 : decode code 681 = .ok (.if_icmp .eq 107, 3) := by decide +kernel
theorem d_L_law_684 : decode code 684 = .ok (.iconst 0, 1) := by decide +kernel
theorem d_L_law_685 : decode code 685 = .ok (.ireturn, 1) := by decide +kernel
theorem d_L_law_686 : decode code 686 = .ok (.aload_n 1, 1) := by decide +kernel
theorem d_L_law_687 : decode code 687 = .ok (.aload_n 0, 1) := by decide +kernel
theorem d_L_law_688 : decode code 688 = .ok (.iload_n 3, 1) := by decide +kernel
theorem d_L_law_689 : decode code 689 = .ok (.iconst 1, 1) := by decide +kernel
theorem d_L_law_690 : decode code 690 = .ok (.iadd, 1) := by decide +kernel
theorem d_L_law_691 : decode code 691 = .ok (.iaload, 1) := by decide +kernel
theorem d_L_law_692 : decode code 692 = .ok (.invokevirtual 73, 3) := by decide +kernel
theorem d_L_law_695 : decode code 695 = .ok (.aload_n 2, 1) := by decide +kernel
theorem d_L_law_696 : decode code 696 = .ok (.aload_n 0, 1) := by decide +kernel
theorem d_L_law_697 : decode code 697 = .ok (.iload_n 3, 1) := by decide +kernel
theorem d_L_law_698 : decode code 698 = .ok (.iconst 1, 1) := by decide +kernel
theorem d_L_law_699 : decode code 699 = .ok (.iadd, 1) := by decide +kernel
theorem d_L_law_700 : decode code 700 = .ok (.iaload, 1) := by decide +kernel
theorem d_L_law_701 : decode code 701 = .ok (.invokevirtual 76, 3) := by decide +kernel
theorem d_L_law_704 : decode code 704 = .ok (.if_icmp .eq 84, 3) := by decide +kernel
theorem d_L_law_707 : decode code 707 = .ok (.iconst 0, 1) := by decide +kernel
theorem d_L_law_708 : decode code 708 = .ok (.ireturn, 1) := by decide +kernel
theorem d_L_law_709 : decode code 709 = .ok (.aload_n 1, 1) := by decide +kernel
theorem d_L_law_710 : decode code 710 = .ok (.aload_n 0, 1) := by decide +kernel
theorem d_L_law_711 : decode code 711 = .ok (.iload_n 3, 1) := by decide +kernel
theorem d_L_law_712 : decode code 712 = .ok (.iconst 1, 1) := by decide +kernel
theorem d_L_law_713 : decode code 713 = .ok (.iadd, 1) := by decide +kernel
theorem d_L_law_714 : decode code 714 = .ok (.iaload, 1) := by decide +kernel
theorem d_L_law_715 : decode code 715 = .ok (.invokevirtual 77, 3) := by decide +kernel
theorem d_L_law_718 : decode code 718 = .ok (.aload_n 2, 1) := by decide +kernel
theorem d_L_law_719 : decode code 719 = .ok (.aload_n 0, 1) := by decide +kernel
theorem d_L_law_720 : decode code 720 = .ok (.iload_n 3, 1) := by decide +kernel
theorem d_L_law_721 : decode code 721 = .ok (.iconst 1, 1) := by decide +kernel
theorem d_L_law_722 : decode code 722 = .ok (.iadd, 1) := by decide +kernel
theorem d_L_law_723 : decode code 723 = .ok (.iaload, 1) := by decide +kernel
theorem d_L_law_724 : decode code 724 = .ok (.invokevirtual 80, 3) := by decide +kernel
theorem d_L_law_727 : decode code 727 = .ok (.if_icmp .eq 61, 3) := by decide +kernel
theorem d_L_law_730 : decode code 730 = .ok (.iconst 0, 1) := by decide +kernel
theorem d_L_law_731 : decode code 731 = .ok (.ireturn, 1) := by decide +kernel
theorem d_L_law_732 : decode code 732 = .ok (.aload_n 1, 1) := by decide +kernel
theorem d_L_law_733 : decode code 733 = .ok (.aload_n 0, 1) := by decide +kernel
theorem d_L_law_734 : decode code 734 = .ok (.iload_n 3, 1) := by decide +kernel
theorem d_L_law_735 : decode code 735 = .ok (.iconst 1, 1) := by decide +kernel
theorem d_L_law_736 : decode code 736 = .ok (.iadd, 1) := by decide +kernel
theorem d_L_law_737 : decode code 737 = .ok (.iaload, 1) := by decide +kernel
theorem d_L_law_738 : decode code 738 = .ok (.invokevirtual 81, 3) := by decide +kernel
theorem d_L_law_741 : decode code 741 = .ok (.aload_n 2, 1) := by decide +kernel
theorem d_L_law_742 : decode code 742 = .ok (.aload_n 0, 1) := by decide +kernel
theorem d_L_law_743 : decode code 743 = .ok (.iload_n 3, 1) := by decide +kernel
theorem d_L_law_744 : decode code 744 = .ok (.iconst 1, 1) := by decide +kernel
theorem d_L_law_745 : decode code 745 = .ok (.iadd, 1) := by decide +kernel
theorem d_L_law_746 : decode code 746 = .ok (.iaload, 1) := by decide +kernel
theorem d_L_law_747 : decode code 747 = .ok (.invokevirtual 84, 3) := by decide +kernel
theorem d_L_law_750 : decode code 750 = .ok (.if_icmp .eq 38, 3) := by decide +kernel
theorem d_L_law_753 : decode code 753 = .ok (.iconst 0, 1) := by decide +kernel
theorem d_L_law_754 : decode code 754 = .ok (.ireturn, 1) := by decide +kernel
theorem d_L_law_755 : decode code 755 = .ok (.aload_n 1, 1) := by decide +kernel
theorem d_L_law_756 : decode code 756 = .ok (.aload_n 0, 1) := by decide +kernel
theorem d_L_law_757 : decode code 757 = .ok (.iload_n 3, 1) := by decide +kernel
theorem d_L_law_758 : decode code 758 = .ok (.iconst 1, 1) := by decide +kernel
theorem d_L_law_759 : decode code 759 = .ok (.iadd, 1) := by decide +kernel
theorem d_L_law_760 : decode code 760 = .ok (.iaload, 1) := by decide +kernel
theorem d_L_law_761 : decode code 761 = .ok (.aload_n 0, 1) := by decide +kernel
theorem d_L_law_762 : decode code 762 = .ok (.iload_n 3, 1) := by decide +kernel
theorem d_L_law_763 : decode code 763 = .ok (.iconst 2, 1) := by decide +kernel
theorem d_L_law_764 : decode code 764 = .ok (.iadd, 1) := by decide +kernel
theorem d_L_law_765 : decode code 765 = .ok (.iaload, 1) := by decide +kernel
theorem d_L_law_766 : decode code 766 = .ok (.invokevirtual 85, 3) := by decide +kernel
theorem d_L_law_769 : decode code 769 = .ok (.aload_n 2, 1) := by decide +kernel
theorem d_L_law_770 : decode code 770 = .ok (.aload_n 0, 1) := by decide +kernel
theorem d_L_law_771 : decode code 771 = .ok (.iload_n 3, 1) := by decide +kernel
theorem d_L_law_772 : decode code 772 = .ok (.iconst 1, 1) := by decide +kernel
theorem d_L_law_773 : decode code 773 = .ok (.iadd, 1) := by decide +kernel
theorem d_L_law_774 : decode code 774 = .ok (.iaload, 1) := by decide +kernel
theorem d_L_law_775 : decode code 775 = .ok (.aload_n 0, 1) := by decide +kernel
theorem d_L_law_776 : decode code 776 = .ok (.iload_n 3, 1) := by decide +kernel
theorem d_L_law_777 : decode code 777 = .ok (.iconst 2, 1) := by decide +kernel
theorem d_L_law_778 : decode code 778 = .ok (.iadd, 1) := by decide +kernel
theorem d_L_law_779 : decode code 779 = .ok (.iaload, 1) := by decide +kernel
theorem d_L_law_780 : decode code 780 = .ok (.invokevirtual 88, 3) := by decide +kernel
theorem d_L_law_783 : decode code 783 = .ok (.if_icmp .eq 5, 3) := by decide +kernel
theorem d_L_law_786 : decode code 786 = .ok (.iconst 0, 1) := by decide +kernel
theorem d_L_law_787 : decode code 787 = .ok (.ireturn, 1) := by decide +kernel
theorem d_L_law_788 : decode code 788 = .ok (.iinc 3 6, 3) := by decide +kernel
theorem d_L_law_791 : decode code 791 = .ok (.goto (-773), 3) := by decide +kernel
theorem d_L_law_794 : decode code 794 = .ok (.iconst 1, 1) := by decide +kernel
theorem d_L_law_795 : decode code 795 = .ok (.ireturn, 1) := by decide +kernel
end
section
/-! THE LAYER: a world is a map from roles (kind, number) to cells; ad: where each lies -/
abbrev pw_A : Type := Nat → Nat → Nat
abbrev pw_C : Type := Nat → Nat → Option va_E
def pw_up {α : Type} (f : Nat → Nat → α) (x y : Nat) (v : α) : Nat → Nat → α := fun a b => if a = x ∧ b = y then v else f a b
theorem pw_up_self {α : Type} (f : Nat → Nat → α) (x y : Nat) (v : α) : pw_up f x y v x y = v := if_pos ⟨rfl, rfl⟩
theorem pw_up_ne {α : Type} (f : Nat → Nat → α) {x y a b : Nat} (v : α) (h : ¬ (a = x ∧ b = y)) : pw_up f x y v a b = f a b := if_neg h
theorem pw_up_some {C : pw_C} {x y a b : Nat} {e f : va_E} (hf : pw_up C x y (some e) a b = some f) : (a = x ∧ b = y ∧ f = e) ∨ (¬ (a = x ∧ b = y) ∧ C a b = some f) := by
  by_cases hab : a = x ∧ b = y
  · obtain ⟨rfl, rfl⟩ := hab
    rw [pw_up_self] at hf
    exact Or.inl ⟨rfl, rfl, (Option.some.inj hf).symm⟩
  · rw [pw_up_ne _ _ hab] at hf
    exact Or.inr ⟨hab, hf⟩
/-- the cells are in the heap, those of kinds below 50 apart from all others, and finitely many; kinds from 50 on are only read -/
def pw_W (D : va_G) (cl : List vw_C) (ad : pw_A) (C : pw_C) (H : Heap) : Prop :=
  (∀ (x y : Nat) (e : va_E), C x y = some e → va_at D cl (ad x y, e) H) ∧
  (∀ (x y x' y' : Nat) (e e' : va_E), C x y = some e → C x' y' = some e' → x < 50 → ad x y = ad x' y' → x = x' ∧ y = y') ∧
  ∃ Ls : List (Nat × Nat), ∀ (x y : Nat) (e : va_E), C x y = some e → (x, y) ∈ Ls
/-- the world on the way: of the kind A, and since H0 nothing else has changed -/
def pw_H (D : va_G) (cl : List vw_C) (A : Nat → Prop) (H0 : Heap) (a0 : pw_A) (c0 : pw_C) (ad : pw_A) (C : pw_C) (H : Heap) (locs : List Loc) : Prop :=
  pw_W D cl ad C H ∧ (∀ (x y : Nat) (e : va_E), C x y = some e → (x < 50 → A (ad x y)) ∧ (¬ x < 50 → ad x y < H0.size ∧ ¬ A (ad x y))) ∧ va_S A H0 H locs ∧ ∀ (x y : Nat), ¬ x < 50 → C x y = c0 x y ∧ ad x y = a0 x y
theorem pw_list0 {ad : pw_A} {C : pw_C} (hinj : ∀ (x y x' y' : Nat) (e e' : va_E), C x y = some e → C x' y' = some e' → x < 50 → ad x y = ad x' y' → x = x' ∧ y = y') : ∀ Ls : List (Nat × Nat), ∃ ws : va_W, (∀ (k : Nat) (q : Nat × va_E), ws[k]? = some q → ∃ x y, (x, y) ∈ Ls ∧ x < 50 ∧ C x y = some q.2 ∧ ad x y = q.1) ∧ (∀ (x y : Nat) (e : va_E), (x, y) ∈ Ls → x < 50 → C x y = some e → ∃ k : Nat, ws[k]? = some (ad x y, e)) ∧ (∀ (i j : Nat) (p q : Nat × va_E), ws[i]? = some p → ws[j]? = some q → p.1 = q.1 → i = j) := by
  intro Ls
  induction Ls with
  | nil => exact ⟨[], fun k q h => by simp at h, fun x y e h => by simp at h, fun i j p q h => by simp at h⟩
  | cons z Ls ih =>
    obtain ⟨x0, y0⟩ := z
    obtain ⟨ws, h1, h2, h3⟩ := ih
    have h1' : ∀ (k : Nat) (q : Nat × va_E), ws[k]? = some q → ∃ x y, (x, y) ∈ (x0, y0) :: Ls ∧ x < 50 ∧ C x y = some q.2 ∧ ad x y = q.1 := fun k q hk => by
      obtain ⟨x, y, m, r⟩ := h1 k q hk
      exact ⟨x, y, List.mem_cons_of_mem _ m, r⟩
    by_cases hin : (x0, y0) ∈ Ls ∨ ¬ x0 < 50
    · refine ⟨ws, h1', fun x y e hx h5 he => ?_, h3⟩
      rcases List.mem_cons.mp hx with h | h
      · cases h
        rcases hin with hin | hin
        · exact h2 _ _ e hin h5 he
        · exact absurd h5 hin
      · exact h2 x y e h h5 he
    · have hx5 : x0 < 50 := Decidable.not_not.mp (fun z => hin (Or.inr z))
      have hin : (x0, y0) ∉ Ls := fun z => hin (Or.inl z)
      cases hc : C x0 y0 with
      | none =>
        refine ⟨ws, h1', fun x y e hx h5 he => ?_, h3⟩
        rcases List.mem_cons.mp hx with h | h
        · cases h
          rw [hc] at he
          cases he
        · exact h2 x y e h h5 he
      | some e0 =>
        refine ⟨(ad x0 y0, e0) :: ws, fun k q hk => ?_, fun x y e hx h5 he => ?_, fun i j p q hi hj hpq => ?_⟩
        · cases k with
          | zero =>
            rw [List.getElem?_cons_zero] at hk
            cases hk
            exact ⟨x0, y0, List.mem_cons_self, hx5, hc, rfl⟩
          | succ k =>
            rw [List.getElem?_cons_succ] at hk
            exact h1' k q hk
        · rcases List.mem_cons.mp hx with h | h
          · cases h
            rw [hc] at he
            cases he
            exact ⟨0, rfl⟩
          · obtain ⟨k, hk⟩ := h2 x y e h h5 he
            exact ⟨k + 1, by rw [List.getElem?_cons_succ]; exact hk⟩
        · cases i with
          | zero =>
            cases j with
            | zero => rfl
            | succ j =>
              rw [List.getElem?_cons_zero] at hi
              rw [List.getElem?_cons_succ] at hj
              cases hi
              obtain ⟨x, y, m, r0, r1, r2⟩ := h1 j q hj
              obtain ⟨rfl, rfl⟩ := hinj x y x0 y0 _ _ r1 hc r0 (r2.trans hpq.symm)
              exact absurd m hin
          | succ i =>
            rw [List.getElem?_cons_succ] at hi
            cases j with
            | zero =>
              rw [List.getElem?_cons_zero] at hj
              cases hj
              obtain ⟨x, y, m, r0, r1, r2⟩ := h1 i p hi
              obtain ⟨rfl, rfl⟩ := hinj x y x0 y0 _ _ r1 hc r0 (r2.trans hpq)
              exact absurd m hin
            | succ j =>
              rw [List.getElem?_cons_succ] at hj
              rw [h3 i j p q hi hj hpq]
/-- a world as a list, for the kit's rows -/
def pw_L (ad : pw_A) (C : pw_C) (ws : va_W) : Prop := (∀ (k : Nat) (q : Nat × va_E), ws[k]? = some q → ∃ x y, x < 50 ∧ C x y = some q.2 ∧ ad x y = q.1) ∧ ∀ (x y : Nat) (e : va_E), x < 50 → C x y = some e → ∃ k : Nat, ws[k]? = some (ad x y, e)
theorem pw_list {D : va_G} {cl : List vw_C} {A : Nat → Prop} {H0 : Heap} {a0 ad : pw_A} {c0 C : pw_C} {H : Heap} {locs : List Loc} (h : pw_H D cl A H0 a0 c0 ad C H locs) : ∃ ws : va_W, pw_L ad C ws ∧ va_P D cl ws H ∧ va_D A ws := by
  obtain ⟨⟨g1, g2, Ls, g3⟩, g4, g5⟩ := h
  obtain ⟨ws, h1, h2, h3⟩ := pw_list0 g2 Ls
  have k1 : ∀ (k : Nat) (q : Nat × va_E), ws[k]? = some q → ∃ x y, x < 50 ∧ C x y = some q.2 ∧ ad x y = q.1 := fun k q hk => by
    obtain ⟨x, y, -, r⟩ := h1 k q hk
    exact ⟨x, y, r⟩
  refine ⟨ws, ⟨k1, fun x y e h5 he => h2 x y e (g3 x y e he) h5 he⟩, fun k q hk => ?_, h3, fun k q hk => ?_⟩
  · obtain ⟨x, y, r0, r1, r2⟩ := k1 k q hk
    have := g1 x y _ r1
    rw [r2] at this
    exact this
  · obtain ⟨x, y, r0, r1, r2⟩ := k1 k q hk
    rw [← r2]
    exact (g4 x y _ r1).1 r0
theorem pw_set {D : va_G} {cl : List vw_C} {A : Nat → Prop} {H0 H1 : Heap} {a0 ad : pw_A} {c0 C : pw_C} {H : Heap} {locs locs1 : List Loc} {ws : va_W} (h : pw_H D cl A H0 a0 c0 ad C H locs) (hL : pw_L ad C ws) (hD0 : va_D A ws) {x y k : Nat} {e0 e : va_E} (hx5 : x < 50) (he : C x y = some e0) (hk : ws[k]? = some (ad x y, e0)) (hP : va_P D cl (ws.set k (ad x y, e)) H1) (hS : va_S A H0 H1 locs1) : pw_H D cl A H0 a0 c0 ad (pw_up C x y (some e)) H1 locs1 := by
  have hl := (List.getElem?_eq_some_iff.mp hk).1
  have hdom : ∀ (a b : Nat) (f : va_E), pw_up C x y (some e) a b = some f → ∃ f', C a b = some f' := by
    intro a b f hf
    rcases pw_up_some hf with ⟨rfl, rfl, -⟩ | ⟨-, h2⟩
    · exact ⟨_, he⟩
    · exact ⟨_, h2⟩
  obtain ⟨⟨g1, g2, Ls, g3⟩, g4, g5, g6⟩ := h
  refine ⟨⟨fun a b f hf => ?_, fun a b a' b' f f' hf hf' h50 hab => ?_, Ls, fun a b f hf => ?_⟩, fun a b f hf => ?_, hS, fun a b h50 => ?_⟩
  · rcases pw_up_some hf with ⟨rfl, rfl, rfl⟩ | ⟨hne, h2⟩
    · exact hP k _ (List.getElem?_set_self hl)
    · by_cases ha5 : a < 50
      · obtain ⟨j, hj⟩ := hL.2 a b f ha5 h2
        have hjk : k ≠ j := by
          rintro rfl
          have := hk.symm.trans hj
          have h3 := congrArg Prod.fst (Option.some.inj this)
          exact hne (g2 a b x y f e0 h2 he ha5 h3.symm)
        exact hP j _ (by rw [List.getElem?_set_ne hjk]; exact hj)
      · obtain ⟨q1, q2⟩ := (g4 a b f h2).2 ha5
        exact (g1 a b f h2).kept (by show H1[ad a b]? = H[ad a b]?; rw [hS.2.1 _ q1 q2, g5.2.1 _ q1 q2])
  · obtain ⟨f1, h1⟩ := hdom a b f hf
    obtain ⟨f2, h2⟩ := hdom a' b' f' hf'
    exact g2 a b a' b' f1 f2 h1 h2 h50 hab
  · obtain ⟨f1, h1⟩ := hdom a b f hf
    exact g3 a b f1 h1
  · obtain ⟨f1, h1⟩ := hdom a b f hf
    exact g4 a b f1 h1
  · rw [pw_up_ne _ _ (fun z => h50 (by rw [z.1]; exact hx5))]
    exact g6 a b h50
theorem pw_push {D : va_G} {cl : List vw_C} {A : Nat → Prop} {H0 H1 : Heap} {a0 ad : pw_A} {c0 C : pw_C} {H : Heap} {locs locs1 : List Loc} {ws : va_W} (h : pw_H D cl A H0 a0 c0 ad C H locs) (hL : pw_L ad C ws) {x y q : Nat} {e : va_E} (hx5 : x < 50) (hn : C x y = none) (hP : va_P D cl (ws ++ [(q, e)]) H1) (hD : va_D A (ws ++ [(q, e)])) (hS : va_S A H0 H1 locs1) : pw_H D cl A H0 a0 c0 (pw_up ad x y q) (pw_up C x y (some e)) H1 locs1 := by
  have hlast : (ws ++ [(q, e)])[ws.length]? = some (q, e) := by rw [List.getElem?_append_right (Nat.le_refl _), Nat.sub_self]; rfl
  have hold : ∀ (a b : Nat) (f : va_E), a < 50 → C a b = some f → ∃ k, k < ws.length ∧ (ws ++ [(q, e)])[k]? = some (ad a b, f) := by
    intro a b f h50 hf
    obtain ⟨k, hk⟩ := hL.2 a b f h50 hf
    have hlt := (List.getElem?_eq_some_iff.mp hk).1
    exact ⟨k, hlt, by rw [List.getElem?_append_left hlt]; exact hk⟩
  obtain ⟨⟨g1, g2, Ls, g3⟩, g4, g5, g6⟩ := h
  have hqA : A q := hD.2 _ _ hlast
  have hq : ∀ (a b : Nat) (f : va_E), C a b = some f → ad a b ≠ q := by
    intro a b f hf hab
    by_cases h50 : a < 50
    · obtain ⟨k, hlt, hk⟩ := hold a b f h50 hf
      have := hD.1 k ws.length _ _ hk hlast hab
      omega
    · exact ((g4 a b f hf).2 h50).2 (by rw [hab]; exact hqA)
  refine ⟨⟨fun a b f hf => ?_, fun a b a' b' f f' hf hf' h50 hab => ?_, (x, y) :: Ls, fun a b f hf => ?_⟩, fun a b f hf => ?_, hS, fun a b h50 => ?_⟩
  · rcases pw_up_some hf with ⟨rfl, rfl, rfl⟩ | ⟨hne, h2⟩
    · rw [pw_up_self]
      exact hP _ _ hlast
    · rw [pw_up_ne _ _ hne]
      by_cases h50 : a < 50
      · obtain ⟨k, -, hk⟩ := hold a b f h50 h2
        exact hP k _ hk
      · obtain ⟨q1, q2⟩ := (g4 a b f h2).2 h50
        exact (g1 a b f h2).kept (by show H1[ad a b]? = H[ad a b]?; rw [hS.2.1 _ q1 q2, g5.2.1 _ q1 q2])
  · rcases pw_up_some hf with ⟨rfl, rfl, rfl⟩ | ⟨hne, h2⟩ <;> rcases pw_up_some hf' with ⟨rfl, rfl, rfl⟩ | ⟨hne', h2'⟩
    · exact ⟨rfl, rfl⟩
    · rw [pw_up_self, pw_up_ne _ _ hne'] at hab
      exact absurd hab.symm (hq a' b' f' h2')
    · rw [pw_up_self, pw_up_ne _ _ hne] at hab
      exact absurd hab (hq a b f h2)
    · rw [pw_up_ne _ _ hne, pw_up_ne _ _ hne'] at hab
      exact g2 a b a' b' f f' h2 h2' h50 hab
  · rcases pw_up_some hf with ⟨rfl, rfl, rfl⟩ | ⟨hne, h2⟩
    · exact List.mem_cons_self
    · exact List.mem_cons_of_mem _ (g3 a b f h2)
  · rcases pw_up_some hf with ⟨rfl, rfl, rfl⟩ | ⟨hne, h2⟩
    · rw [pw_up_self]
      exact ⟨fun _ => hqA, fun z => absurd hx5 z⟩
    · rw [pw_up_ne _ _ hne]
      exact g4 a b f h2
  · have hne : ¬ (a = x ∧ b = y) := fun z => h50 (by rw [z.1]; exact hx5)
    rw [pw_up_ne _ _ hne, pw_up_ne _ _ hne]
    exact g6 a b h50
theorem pw_H.one {D : va_G} {cl : List vw_C} {A : Nat → Prop} {H0 : Heap} {a0 ad : pw_A} {c0 C : pw_C} {H : Heap} {locs : List Loc} (h : pw_H D cl A H0 a0 c0 ad C H locs) {x y : Nat} {e : va_E} (he : C x y = some e) : va_P D cl [(ad x y, e)] H := by
  intro k q hk
  have hk0 : k = 0 := by
    have := (List.getElem?_eq_some_iff.mp hk).1
    simp only [List.length_cons, List.length_nil] at this
    omega
  subst hk0
  cases hk
  exact h.1.1 x y e he
/-- which cells a method may change: its world's, and those that it makes -/
def pw_dom (ad : pw_A) (C : pw_C) (sz : Nat) : Nat → Prop := fun q => (∃ (x y : Nat) (e : va_E), x < 50 ∧ C x y = some e ∧ ad x y = q) ∨ sz ≤ q
theorem pw_start {D : va_G} {cl : List vw_C} {ad : pw_A} {C : pw_C} {H : Heap} (h : pw_W D cl ad C H) : pw_H D cl (pw_dom ad C H.size) H ad C ad C H [] := ⟨h, fun x y e he => ⟨fun h5 => Or.inl ⟨x, y, e, h5, he, rfl⟩, fun h5 => ⟨(h.1 x y e he).lt, fun z => by
  rcases z with ⟨x', y', e', h5', he', hq⟩ | z
  · exact h5 (by rw [← (h.2.1 x' y' x y e' e he' he h5' hq).1]; exact h5')
  · exact absurd (h.1 x y e he).lt (Nat.not_lt.mpr z)⟩⟩, va_S.rf, fun _ _ _ => ⟨rfl, rfl⟩⟩
theorem pw_dom_new {ad : pw_A} {C : pw_C} {sz : Nat} : ∀ q, sz ≤ q → pw_dom ad C sz q := fun _ h => Or.inr h
theorem pw_H.free {D : va_G} {cl : List vw_C} {A : Nat → Prop} {H0 : Heap} {a0 ad : pw_A} {c0 C : pw_C} {H : Heap} {locs : List Loc} (h : pw_H D cl A H0 a0 c0 ad C H locs) (hA : ∀ q, H0.size ≤ q → A q) : ∀ q, pw_dom ad C H.size q → A q := by
  rintro q (⟨x, y, e, h5, he, rfl⟩ | h1)
  · exact (h.2.1 x y e he).1 h5
  · exact hA q (Nat.le_trans h.2.2.1.1 h1)
/-- what a method says at its end: its answer, the new world, the rest as it was -/
def pw_Q (D : va_G) (cl : List vw_C) (a0 : pw_A) (c0 : pw_C) (post : Option Value → pw_A → pw_C → Prop) (A : Nat → Prop) : Array Value → State → Outcome → State → Prop := fun _ st oc t =>
  (∃ (v : Option Value) (ad' : pw_A) (C' : pw_C), oc = .returned v ∧ post v ad' C' ∧ pw_W D cl ad' C' t.heap ∧ (∀ (x y : Nat) (e : va_E), C' x y = some e → x < 50 → A (ad' x y)) ∧ ∀ (x y : Nat), ¬ x < 50 → C' x y = c0 x y ∧ ad' x y = a0 x y) ∧ va_F A st t
/-- what stays as the machine goes on: it speaks of cells outside A, and of tables -/
def pw_Zok (Z : (Nat → Prop) → State → Prop) : Prop := ∀ (A A' : Nat → Prop) (U V : State), U.WarmedH V.vm → (∀ q, A' q → A q) → U.heap.size ≤ V.heap.size → (∀ q : Nat, q < U.heap.size → ¬ A q → V.heap[q]? = U.heap[q]?) → Z A U → Z A' V
/-- a contract: from the world (ad, C) with these arguments -/
def pw_Con (l : Launch) (y : MethodName) (ws : List Cond) (rm : Room) (D : va_G) (cl : List vw_C) (tys : List (ClassId × FieldType)) (Z : (Nat → Prop) → State → Prop) (av : List Value) (ad : pw_A) (C : pw_C) (post : Option Value → pw_A → pw_C → Prop) (mc ms : Nat) : Prop :=
  ∀ sz : Nat, Met l y ws rm (va_Pc av (fun U => U.heap.size = sz ∧ pw_W D cl ad C U.heap ∧ va_K D cl tys U ∧ Z (pw_dom ad C sz) U)) (pw_Q D cl ad C post (pw_dom ad C sz)) mc ms (pw_dom ad C sz)
theorem pw_blind {D : va_G} {cl : List vw_C} {tys : List (ClassId × FieldType)} {Z : (Nat → Prop) → State → Prop} (hZ : pw_Zok Z) {av : List Value} {ad : pw_A} {C : pw_C} {sz : Nat} : FrameBlind (va_Pc av (fun U => U.heap.size = sz ∧ pw_W D cl ad C U.heap ∧ va_K D cl tys U ∧ Z (pw_dom ad C sz) U)) := by
  intro a U g mk q
  obtain ⟨q0, q1, qW, qK, qZ⟩ := q
  exact ⟨q0, q1, qW, va_K.moved (u := U) (U := U.calling g mk a) (Vm.Alike.refl U.vm) qK, hZ _ _ U (U.calling g mk a) (State.WarmedH.refl U) (fun _ h => h) (Nat.le_refl _) (fun _ _ _ => rfl) qZ⟩
theorem pw_preS {D : va_G} {cl : List vw_C} {tys : List (ClassId × FieldType)} {Z : (Nat → Prop) → State → Prop} (hZ : pw_Zok Z) {A : Nat → Prop} {a0 ad : pw_A} {c0 C : pw_C} {s : State} {H : Heap} {locs : List Loc} {av : List Value} (hw : pw_H D cl A s.heap a0 c0 ad C H locs) (hA : ∀ q, s.heap.size ≤ q → A q) (hK : va_K D cl tys s) (hz : Z A s) :
    PreS s H (va_Pc av (fun U => U.heap.size = H.size ∧ pw_W D cl ad C U.heap ∧ va_K D cl tys U ∧ Z (pw_dom ad C H.size) U)) av :=
  ⟨pw_blind hZ, fun U hU hW => ⟨rfl, by rw [hU], by rw [hU]; exact hw.1, va_K.moved hW.alike hK, hZ _ _ s U hW (hw.free hA) (by rw [hU]; exact hw.2.2.1.1) (fun q h1 h2 => by rw [hU]; exact hw.2.2.1.2.1 q h1 h2) hz⟩⟩
theorem pw_preV {D : va_G} {cl : List vw_C} {tys : List (ClassId × FieldType)} {Z : (Nat → Prop) → State → Prop} (hZ : pw_Zok Z) {A : Nat → Prop} {a0 ad : pw_A} {c0 C : pw_C} {s : State} {H : Heap} {locs : List Loc} {As : List Value} {b x y ci : Nat} {q : vw_C} {fs : List Value} (hw : pw_H D cl A s.heap a0 c0 ad C H locs) (hA : ∀ q, s.heap.size ≤ q → A q) (hK : va_K D cl tys s) (hz : Z A s) (hb : ad x y = b) (he : C x y = some (.inr (ci, fs))) (hc : cl[ci]? = some q) :
    PreV s H q.1 b (va_Pc (.ref b :: As) (fun U => U.heap.size = H.size ∧ pw_W D cl ad C U.heap ∧ va_K D cl tys U ∧ Z (pw_dom ad C H.size) U)) As := by
  subst hb
  obtain ⟨h1, h2⟩ := pw_preS (av := .ref (ad x y) :: As) hZ hw hA hK hz
  exact ⟨h1, va_recv hK (hw.one he) (q0 := 0) hc rfl, h2⟩
theorem pw_in {j n : Nat} (hj : j < n) (hjb : j < 2 ^ 31) : vp_in (nI j) n := by
  rintro (h | h)
  · exact nI_pos hjb h
  · rw [nI_clamp hjb] at h
    omega
theorem pw_clamp0 {i : Int32} {j : Nat} (hi : i = nI j) (hjb : j < 2 ^ 31) : ¬ i < 0 ∧ i.toNatClampNeg = j := by
  subst hi
  exact ⟨nI_pos hjb, nI_clamp hjb⟩
section PW
variable {p : Program} {l : Launch} {e : Env} {R : Room} {s : State} {m : MethodId} {args : Array Value} {below : List Frame} {meth : Method} {c : Code} {H : Heap} {locs : List Loc} {cells slots : Nat} {Q : State → Prop}
variable {cc : ByteArray} {pc : Nat} {ls : Array Slot} {rest st0 : List Value} {D : va_G} {cl : List vw_C} {A : Nat → Prop} {tys : List (ClassId × FieldType)} {H0 : Heap} {a0 ad : pw_A} {c0 C : pw_C} {a : Nat}
/-- behind a call -/
theorem pw_call {post : Option Value → pw_A → pw_C → Prop} {a9 : Array Value} {mc ms : Nat} (hr : va_Run p l e R s m args below meth c H locs cells slots mc ms (F0 m pc ls st0) rest (pw_Q D cl ad C post (pw_dom ad C H.size) a9) (pw_dom ad C H.size)) (hw : pw_H D cl A H0 a0 c0 ad C H locs) (hA : ∀ q, H0.size ≤ q → A q)
    (kk : ∀ (v : Option Value) (ad' : pw_A) (C' : pw_C) (H1 : Heap) (locs1 : List Loc), post v ad' C' → pw_H D cl A H0 a0 c0 ad' C' H1 locs1 → W p l e R s m args below meth c H1 locs1 (cells + mc) (slots + ms) Q (F0 m (pc + 3) ls (v.toList ++ rest))) : W p l e R s m args below meth c H locs cells slots Q (F0 m pc ls st0) := by
  intro T hT X
  obtain ⟨v, st₀, t, T', L, h0, X', hL, e1, e2, ⟨⟨v', ad', C', hv, hp, hW, hD, hR⟩, hz, hk⟩, st⟩ := hr T hT X
  cases hv
  rw [h0] at hz hk
  have hf := hw.free hA
  obtain ⟨t2, a1, b1⟩ := kk v ad' C' T'.heap (locs ++ L) hp ⟨by rw [e1]; exact hW, fun x y f hf9 => ⟨fun h5 => hf _ (hD x y f hf9 h5), fun h5 => by
      obtain ⟨r1, r2⟩ := hR x y h5
      rw [r2]
      exact (hw.2.1 x y f (by rw [← r1]; exact hf9)).2 h5⟩, ⟨Nat.le_trans hw.2.2.1.1 (by rw [e1]; exact hz), fun q h1 h2 => by
      rw [e1, hk q (Nat.lt_of_lt_of_le h1 hw.2.2.1.1) (fun z => h2 (hf q z))]; exact hw.2.2.1.2.1 q h1 h2, fun q hq => by
      rcases List.mem_append.mp hq with h | h
      · exact hw.2.2.1.2.2 q h
      · exact hf _ (hL q h)⟩, fun x y h5 => ⟨(hR x y h5).1.trans (hw.2.2.2 x y h5).1, (hR x y h5).2.trans (hw.2.2.2 x y h5).2⟩⟩ T' rfl X'
  exact ⟨t2, st t2 a1, b1⟩
theorem pw_get (hexec : p.tables.exec = Jvm.exec) (hb : c.code = cc) {own ref Cn : String} {T : u_T} {N ci index : Nat} {Ts : List Cond} (hts : ∀ w ∈ Ts, w.before args s = true) (hin : ∀ w ∈ u_ws Cn T N, w ∈ Ts) (hown : s.vm.findClass own = some m.cls) (hK : va_K D cl tys s) (hw : pw_H D cl A H0 a0 c0 ad C H locs) (x y : Nat) (ha : ad x y = a) {fs : List Value} (he : C x y = some (.inr (ci, fs))) (hc : cl[ci]? = some (Cn, T, N)) (k : Nat) (hk : k < N) (hlink : (Cond.fieldLink own index ref (T k).2.1 (T k).2.2.1).before args s = true) (hsame : ∀ x, s.fieldFound? (T k).1 (T k).2.1 (T k).2.2.1 = some x → s.fieldFound? ref (T k).2.1 (T k).2.2.1 = some x) {v : Value} (hv : fs[k]? = some v) (hdg : decode cc pc = .ok (.getfield index, 3))
    (kk : W p l e R s m args below meth c H locs cells slots Q (F0 m (pc + 3) ls (v :: rest))) : W p l e R s m args below meth c H locs cells slots Q (F0 m pc ls (.ref a :: rest)) := by
  subst ha
  exact va_get hexec hb hts hin hown hK (hw.one he) 0 rfl hc k hk hlink hsame hv hdg kk
theorem pw_put (hexec : p.tables.exec = Jvm.exec) (hb : c.code = cc) {own ref Cn : String} {T : u_T} {N ci index : Nat} {Ts : List Cond} (hts : ∀ w ∈ Ts, w.before args s = true) (hin : ∀ w ∈ u_ws Cn T N, w ∈ Ts) (ty0 : Nat → FieldType) (hty : ∀ k, k < N → parseFieldDescriptor (T k).2.2.1 = some (ty0 k)) (hnm : ∀ a, a < N → ∀ b, b < N → a ≠ b → (T a).2.1 ≠ (T b).2.1) (hown : s.vm.findClass own = some m.cls) (hK : va_K D cl tys s) (hw : pw_H D cl A H0 a0 c0 ad C H locs) (x y : Nat) (hx5 : x < 50) (ha : ad x y = a) {fs : List Value} (he : C x y = some (.inr (ci, fs))) (hc : cl[ci]? = some (Cn, T, N)) (k : Nat) (hk : k < N) (hlink : (Cond.fieldLink own index ref (T k).2.1 (T k).2.2.1).before args s = true) (hsame : ∀ x, s.fieldFound? (T k).1 (T k).2.1 (T k).2.2.1 = some x → s.fieldFound? ref (T k).2.1 (T k).2.2.1 = some x) (hfin : (T k).2.2.2 = false) {ty : FieldType} {v : Value} (hd : parseFieldDescriptor (T k).2.2.1 = some ty) (hn : narrow ty v = v) (hfit : fits ty v = true) (hl : k < fs.length)
    (hdg : decode cc pc = .ok (.putfield index, 3)) (kk : ∀ (H1 : Heap) (locs1 : List Loc), pw_H D cl A H0 a0 c0 ad (pw_up C x y (some (.inr (ci, fs.set k v)))) H1 locs1 → W p l e R s m args below meth c H1 locs1 cells slots Q (F0 m (pc + 3) ls rest)) : W p l e R s m args below meth c H locs cells slots Q (F0 m pc ls (v :: .ref a :: rest)) := by
  subst ha
  obtain ⟨ws, hL, hP, hD⟩ := pw_list hw
  obtain ⟨k9, hk9⟩ := hL.2 x y _ hx5 he
  exact va_put hexec hb hts hin ty0 hty hnm hown hK hP hD hw.2.2.1 k9 hk9 hc k hk hlink hsame hfin hd hn hfit hl hdg (fun H1 locs1 hP1 hD1 hS1 => kk H1 locs1 (pw_set hw hL hD hx5 he hk9 hP1 hS1))
theorem pw_putF (hexec : p.tables.exec = Jvm.exec) (hb : c.code = cc) {own ref Cn : String} {T : u_T} {N ci index : Nat} {Ts : List Cond} (hts : ∀ w ∈ Ts, w.before args s = true) (hin : ∀ w ∈ u_ws Cn T N, w ∈ Ts) (ty0 : Nat → FieldType) (hty : ∀ k, k < N → parseFieldDescriptor (T k).2.2.1 = some (ty0 k)) (hnm : ∀ a, a < N → ∀ b, b < N → a ≠ b → (T a).2.1 ≠ (T b).2.1) (hown : s.vm.findClass own = some m.cls) (hK : va_K D cl tys s) (hw : pw_H D cl A H0 a0 c0 ad C H locs) (x y : Nat) (hx5 : x < 50) (ha : ad x y = a) {fs : List Value} (he : C x y = some (.inr (ci, fs))) (hc : cl[ci]? = some (Cn, T, N)) (k : Nat) (hk : k < N) (hlink : (Cond.fieldLink own index ref (T k).2.1 (T k).2.2.1).before args s = true) (hsame : ∀ x, s.fieldFound? (T k).1 (T k).2.1 (T k).2.2.1 = some x → s.fieldFound? ref (T k).2.1 (T k).2.2.1 = some x) (hfin : (T k).2.2.2 = true) (hin2 : meth.name = "<init>") (hdecl : (T k).1 = own) {ty : FieldType} {v : Value} (hd : parseFieldDescriptor (T k).2.2.1 = some ty) (hn : narrow ty v = v) (hfit : fits ty v = true) (hl : k < fs.length)
    (hdg : decode cc pc = .ok (.putfield index, 3)) (kk : ∀ (H1 : Heap) (locs1 : List Loc), pw_H D cl A H0 a0 c0 ad (pw_up C x y (some (.inr (ci, fs.set k v)))) H1 locs1 → W p l e R s m args below meth c H1 locs1 cells slots Q (F0 m (pc + 3) ls rest)) : W p l e R s m args below meth c H locs cells slots Q (F0 m pc ls (v :: .ref a :: rest)) := by
  subst ha
  obtain ⟨ws, hL, hP, hD⟩ := pw_list hw
  obtain ⟨k9, hk9⟩ := hL.2 x y _ hx5 he
  exact va_putF hexec hb hts hin ty0 hty hnm hown hK hP hD hw.2.2.1 k9 hk9 hc k hk hlink hsame hfin hin2 hdecl hd hn hfit hl hdg (fun H1 locs1 hP1 hD1 hS1 => kk H1 locs1 (pw_set hw hL hD hx5 he hk9 hP1 hS1))
theorem pw_iald (hexec : p.tables.exec = Jvm.exec) (hb : c.code = cc) (hK : va_K D cl tys s) (hw : pw_H D cl A H0 a0 c0 ad C H locs) (x y : Nat) (ha : ad x y = a) (t0 : Nat) {cA : ClassId} {n : Nat} {f : Nat → Int32} (he : C x y = some (.inl (cA, n, .inl f))) (ht : tys[t0]? = some (cA, .int)) {i : Int32} (j : Nat) (hi : i = nI j) (hj : j < n) (hjb : j < 2 ^ 31) (hdg : decode cc pc = .ok (.iaload, 1))
    (kk : W p l e R s m args below meth c H locs cells slots Q (F0 m (pc + 1) ls (.int (f j) :: rest))) : W p l e R s m args below meth c H locs cells slots Q (F0 m pc ls (.int i :: .ref a :: rest)) := by
  subst ha; subst hi
  refine va_iald hexec hb hK (hw.one he) 0 t0 rfl ht (pw_in hj hjb) hdg ?_
  rw [nI_clamp hjb]
  exact kk
theorem pw_bald (hexec : p.tables.exec = Jvm.exec) (hb : c.code = cc) (hK : va_K D cl tys s) (hw : pw_H D cl A H0 a0 c0 ad C H locs) (x y : Nat) (ha : ad x y = a) (t0 : Nat) {cA : ClassId} {n : Nat} {f : Nat → Int32} (he : C x y = some (.inl (cA, n, .inl f))) (ht : tys[t0]? = some (cA, .byte)) {i : Int32} (j : Nat) (hi : i = nI j) (hj : j < n) (hjb : j < 2 ^ 31) (hdg : decode cc pc = .ok (.baload, 1))
    (kk : W p l e R s m args below meth c H locs cells slots Q (F0 m (pc + 1) ls (.int (f j) :: rest))) : W p l e R s m args below meth c H locs cells slots Q (F0 m pc ls (.int i :: .ref a :: rest)) := by
  subst ha; subst hi
  refine va_bald hexec hb hK (hw.one he) 0 t0 rfl ht (pw_in hj hjb) hdg ?_
  rw [nI_clamp hjb]
  exact kk
theorem pw_cald (hexec : p.tables.exec = Jvm.exec) (hb : c.code = cc) (hK : va_K D cl tys s) (hw : pw_H D cl A H0 a0 c0 ad C H locs) (x y : Nat) (ha : ad x y = a) (t0 : Nat) {cA : ClassId} {n : Nat} {f : Nat → Int32} (he : C x y = some (.inl (cA, n, .inl f))) (ht : tys[t0]? = some (cA, .char)) {i : Int32} (j : Nat) (hi : i = nI j) (hj : j < n) (hjb : j < 2 ^ 31) (hdg : decode cc pc = .ok (.caload, 1))
    (kk : W p l e R s m args below meth c H locs cells slots Q (F0 m (pc + 1) ls (.int (f j) :: rest))) : W p l e R s m args below meth c H locs cells slots Q (F0 m pc ls (.int i :: .ref a :: rest)) := by
  subst ha; subst hi
  refine va_cald hexec hb hK (hw.one he) 0 t0 rfl ht (pw_in hj hjb) hdg ?_
  rw [nI_clamp hjb]
  exact kk
theorem pw_zald (hexec : p.tables.exec = Jvm.exec) (hb : c.code = cc) (hK : va_K D cl tys s) (hw : pw_H D cl A H0 a0 c0 ad C H locs) (x y : Nat) (ha : ad x y = a) (t0 : Nat) {cA : ClassId} {n : Nat} {f : Nat → Int32} (he : C x y = some (.inl (cA, n, .inl f))) (ht : tys[t0]? = some (cA, .boolean)) {i : Int32} (j : Nat) (hi : i = nI j) (hj : j < n) (hjb : j < 2 ^ 31) (hdg : decode cc pc = .ok (.baload, 1))
    (kk : W p l e R s m args below meth c H locs cells slots Q (F0 m (pc + 1) ls (.int (f j) :: rest))) : W p l e R s m args below meth c H locs cells slots Q (F0 m pc ls (.int i :: .ref a :: rest)) := by
  subst ha; subst hi
  refine va_zald hexec hb hK (hw.one he) 0 t0 rfl ht (pw_in hj hjb) hdg ?_
  rw [nI_clamp hjb]
  exact kk
theorem pw_lald (hexec : p.tables.exec = Jvm.exec) (hb : c.code = cc) (hK : va_K D cl tys s) (hw : pw_H D cl A H0 a0 c0 ad C H locs) (x y : Nat) (ha : ad x y = a) (t0 : Nat) {cA : ClassId} {n : Nat} {f : Nat → Int64} (he : C x y = some (.inl (cA, n, .inr (.inl f)))) (ht : tys[t0]? = some (cA, .long)) {i : Int32} (j : Nat) (hi : i = nI j) (hj : j < n) (hjb : j < 2 ^ 31) (hdg : decode cc pc = .ok (.laload, 1))
    (kk : W p l e R s m args below meth c H locs cells slots Q (F0 m (pc + 1) ls (.long (f j) :: rest))) : W p l e R s m args below meth c H locs cells slots Q (F0 m pc ls (.int i :: .ref a :: rest)) := by
  subst ha; subst hi
  refine va_lald hexec hb hK (hw.one he) 0 t0 rfl ht (pw_in hj hjb) hdg ?_
  rw [nI_clamp hjb]
  exact kk
theorem pw_aald (hexec : p.tables.exec = Jvm.exec) (hb : c.code = cc) (hK : va_K D cl tys s) (hw : pw_H D cl A H0 a0 c0 ad C H locs) (x y : Nat) (ha : ad x y = a) (t0 : Nat) {cA : ClassId} {Cn : String} {n : Nat} {f : Nat → Option Nat} (he : C x y = some (.inl (cA, n, .inr (.inr (.inr (.inr f)))))) (ht : tys[t0]? = some (cA, .object Cn)) {i : Int32} (j : Nat) (hi : i = nI j) (hj : j < n) (hjb : j < 2 ^ 31) (hdg : decode cc pc = .ok (.aaload, 1))
    (kk : W p l e R s m args below meth c H locs cells slots Q (F0 m (pc + 1) ls (va_rf (f j) :: rest))) : W p l e R s m args below meth c H locs cells slots Q (F0 m pc ls (.int i :: .ref a :: rest)) := by
  subst ha; subst hi
  refine va_aldq hexec hb hK (hw.one he) 0 t0 rfl ht (pw_in hj hjb) hdg ?_
  rw [nI_clamp hjb]
  exact kk
theorem pw_alen (hexec : p.tables.exec = Jvm.exec) (hb : c.code = cc) (hK : va_K D cl tys s) (hw : pw_H D cl A H0 a0 c0 ad C H locs) (x y : Nat) (ha : ad x y = a) (t0 : Nat) {cA : ClassId} {z : vp_A} (he : C x y = some (.inl (cA, z))) {ty : FieldType} (ht : tys[t0]? = some (cA, ty)) (hdg : decode cc pc = .ok (.arraylength, 1))
    (kk : W p l e R s m args below meth c H locs cells slots Q (F0 m (pc + 1) ls (.int (nI z.1) :: rest))) : W p l e R s m args below meth c H locs cells slots Q (F0 m pc ls (.ref a :: rest)) := by
  subst ha
  exact va_alen (v := nI z.1) hexec hb hK (hw.one he) 0 t0 rfl ht rfl hdg kk
theorem pw_iast (hexec : p.tables.exec = Jvm.exec) (hb : c.code = cc) (hK : va_K D cl tys s) (hw : pw_H D cl A H0 a0 c0 ad C H locs) (x y : Nat) (ha : ad x y = a) (t0 : Nat) {cA : ClassId} {n : Nat} {f : Nat → Int32} (he : C x y = some (.inl (cA, n, .inl f))) (ht : tys[t0]? = some (cA, .int)) {i : Int32} {v : Int32} (hx5 : x < 50) (j : Nat) (hi : i = nI j) (hj : j < n) (hjb : j < 2 ^ 31) (hdg : decode cc pc = .ok (.iastore, 1))
    (kk : ∀ (H1 : Heap) (locs1 : List Loc), pw_H D cl A H0 a0 c0 ad (pw_up C x y (some (.inl (cA, n, .inl (upd f j v))))) H1 locs1 → W p l e R s m args below meth c H1 locs1 cells slots Q (F0 m (pc + 1) ls rest)) : W p l e R s m args below meth c H locs cells slots Q (F0 m pc ls (.int v :: .int i :: .ref a :: rest)) := by
  subst ha; subst hi
  obtain ⟨ws, hL, hP, hD⟩ := pw_list hw
  obtain ⟨k9, hk9⟩ := hL.2 x y _ hx5 he
  refine va_iast hexec hb hK hP hD hw.2.2.1 k9 t0 hk9 ht (pw_in hj hjb) hdg (fun H1 locs1 hP1 hD1 hS1 => kk H1 locs1 (pw_set hw hL hD hx5 he hk9 ?_ hS1))
  rw [nI_clamp hjb] at hP1
  exact hP1
theorem pw_bast (hexec : p.tables.exec = Jvm.exec) (hb : c.code = cc) (hK : va_K D cl tys s) (hw : pw_H D cl A H0 a0 c0 ad C H locs) (x y : Nat) (ha : ad x y = a) (t0 : Nat) {cA : ClassId} {n : Nat} {f : Nat → Int32} (he : C x y = some (.inl (cA, n, .inl f))) (ht : tys[t0]? = some (cA, .byte)) {i : Int32} {v : Int32} (hx5 : x < 50) (j : Nat) (hi : i = nI j) (hj : j < n) (hjb : j < 2 ^ 31) (hdg : decode cc pc = .ok (.bastore, 1))
    (kk : ∀ (H1 : Heap) (locs1 : List Loc), pw_H D cl A H0 a0 c0 ad (pw_up C x y (some (.inl (cA, n, .inl (upd f j (vp_nar .byte v)))))) H1 locs1 → W p l e R s m args below meth c H1 locs1 cells slots Q (F0 m (pc + 1) ls rest)) : W p l e R s m args below meth c H locs cells slots Q (F0 m pc ls (.int v :: .int i :: .ref a :: rest)) := by
  subst ha; subst hi
  obtain ⟨ws, hL, hP, hD⟩ := pw_list hw
  obtain ⟨k9, hk9⟩ := hL.2 x y _ hx5 he
  refine va_bast hexec hb hK hP hD hw.2.2.1 k9 t0 hk9 ht (pw_in hj hjb) hdg (fun H1 locs1 hP1 hD1 hS1 => kk H1 locs1 (pw_set hw hL hD hx5 he hk9 ?_ hS1))
  rw [nI_clamp hjb] at hP1
  exact hP1
theorem pw_cast (hexec : p.tables.exec = Jvm.exec) (hb : c.code = cc) (hK : va_K D cl tys s) (hw : pw_H D cl A H0 a0 c0 ad C H locs) (x y : Nat) (ha : ad x y = a) (t0 : Nat) {cA : ClassId} {n : Nat} {f : Nat → Int32} (he : C x y = some (.inl (cA, n, .inl f))) (ht : tys[t0]? = some (cA, .char)) {i : Int32} {v : Int32} (hx5 : x < 50) (j : Nat) (hi : i = nI j) (hj : j < n) (hjb : j < 2 ^ 31) (hdg : decode cc pc = .ok (.castore, 1))
    (kk : ∀ (H1 : Heap) (locs1 : List Loc), pw_H D cl A H0 a0 c0 ad (pw_up C x y (some (.inl (cA, n, .inl (upd f j (vp_nar .char v)))))) H1 locs1 → W p l e R s m args below meth c H1 locs1 cells slots Q (F0 m (pc + 1) ls rest)) : W p l e R s m args below meth c H locs cells slots Q (F0 m pc ls (.int v :: .int i :: .ref a :: rest)) := by
  subst ha; subst hi
  obtain ⟨ws, hL, hP, hD⟩ := pw_list hw
  obtain ⟨k9, hk9⟩ := hL.2 x y _ hx5 he
  refine va_cast hexec hb hK hP hD hw.2.2.1 k9 t0 hk9 ht (pw_in hj hjb) hdg (fun H1 locs1 hP1 hD1 hS1 => kk H1 locs1 (pw_set hw hL hD hx5 he hk9 ?_ hS1))
  rw [nI_clamp hjb] at hP1
  exact hP1
theorem pw_zast (hexec : p.tables.exec = Jvm.exec) (hb : c.code = cc) (hK : va_K D cl tys s) (hw : pw_H D cl A H0 a0 c0 ad C H locs) (x y : Nat) (ha : ad x y = a) (t0 : Nat) {cA : ClassId} {n : Nat} {f : Nat → Int32} (he : C x y = some (.inl (cA, n, .inl f))) (ht : tys[t0]? = some (cA, .boolean)) {i : Int32} {v : Int32} (hx5 : x < 50) (j : Nat) (hi : i = nI j) (hj : j < n) (hjb : j < 2 ^ 31) (hdg : decode cc pc = .ok (.bastore, 1))
    (kk : ∀ (H1 : Heap) (locs1 : List Loc), pw_H D cl A H0 a0 c0 ad (pw_up C x y (some (.inl (cA, n, .inl (upd f j (vp_nar .boolean v)))))) H1 locs1 → W p l e R s m args below meth c H1 locs1 cells slots Q (F0 m (pc + 1) ls rest)) : W p l e R s m args below meth c H locs cells slots Q (F0 m pc ls (.int v :: .int i :: .ref a :: rest)) := by
  subst ha; subst hi
  obtain ⟨ws, hL, hP, hD⟩ := pw_list hw
  obtain ⟨k9, hk9⟩ := hL.2 x y _ hx5 he
  refine va_zast hexec hb hK hP hD hw.2.2.1 k9 t0 hk9 ht (pw_in hj hjb) hdg (fun H1 locs1 hP1 hD1 hS1 => kk H1 locs1 (pw_set hw hL hD hx5 he hk9 ?_ hS1))
  rw [nI_clamp hjb] at hP1
  exact hP1
theorem pw_last (hexec : p.tables.exec = Jvm.exec) (hb : c.code = cc) (hK : va_K D cl tys s) (hw : pw_H D cl A H0 a0 c0 ad C H locs) (x y : Nat) (ha : ad x y = a) (t0 : Nat) {cA : ClassId} {n : Nat} {f : Nat → Int64} (he : C x y = some (.inl (cA, n, .inr (.inl f)))) (ht : tys[t0]? = some (cA, .long)) {i : Int32} {v : Int64} (hx5 : x < 50) (j : Nat) (hi : i = nI j) (hj : j < n) (hjb : j < 2 ^ 31) (hdg : decode cc pc = .ok (.lastore, 1))
    (kk : ∀ (H1 : Heap) (locs1 : List Loc), pw_H D cl A H0 a0 c0 ad (pw_up C x y (some (.inl (cA, n, .inr (.inl (vp_updL f j v)))))) H1 locs1 → W p l e R s m args below meth c H1 locs1 cells slots Q (F0 m (pc + 1) ls rest)) : W p l e R s m args below meth c H locs cells slots Q (F0 m pc ls (.long v :: .int i :: .ref a :: rest)) := by
  subst ha; subst hi
  obtain ⟨ws, hL, hP, hD⟩ := pw_list hw
  obtain ⟨k9, hk9⟩ := hL.2 x y _ hx5 he
  refine va_last hexec hb hK hP hD hw.2.2.1 k9 t0 hk9 ht (pw_in hj hjb) hdg (fun H1 locs1 hP1 hD1 hS1 => kk H1 locs1 (pw_set hw hL hD hx5 he hk9 ?_ hS1))
  rw [nI_clamp hjb] at hP1
  exact hP1
theorem pw_aast (hexec : p.tables.exec = Jvm.exec) (hb : c.code = cc) (hK : va_K D cl tys s) (hw : pw_H D cl A H0 a0 c0 ad C H locs) (x y : Nat) (ha : ad x y = a) (t0 : Nat) {cA : ClassId} {n b ci : Nat} {r : vw_C} {f : Nat → Option Nat} (he : C x y = some (.inl (cA, n, .inr (.inr (.inr (.inr f)))))) (ht : tys[t0]? = some (cA, .object r.1)) (x2 y2 : Nat) (hb2 : ad x2 y2 = b) {fs : List Value} (he2 : C x2 y2 = some (.inr (ci, fs))) (hc : cl[ci]? = some r) {i : Int32} (hx5 : x < 50) (hx52 : x2 < 50) (j : Nat) (hi : i = nI j) (hj : j < n) (hjb : j < 2 ^ 31) (hdg : decode cc pc = .ok (.aastore, 1))
    (kk : ∀ (H1 : Heap) (locs1 : List Loc), pw_H D cl A H0 a0 c0 ad (pw_up C x y (some (.inl (cA, n, .inr (.inr (.inr (.inr (va_up f j (some b)))))))) ) H1 locs1 → W p l e R s m args below meth c H1 locs1 cells slots Q (F0 m (pc + 1) ls rest)) : W p l e R s m args below meth c H locs cells slots Q (F0 m pc ls (.ref b :: .int i :: .ref a :: rest)) := by
  subst ha; subst hi; subst hb2
  obtain ⟨ws, hL, hP, hD⟩ := pw_list hw
  obtain ⟨k9, hk9⟩ := hL.2 x y _ hx5 he
  obtain ⟨k8, hk8⟩ := hL.2 x2 y2 _ hx52 he2
  refine va_astq hexec hb hK hP hD hw.2.2.1 k9 t0 k8 ci hk9 ht hk8 hc (pw_in hj hjb) hdg (fun H1 locs1 hP1 hD1 hS1 => kk H1 locs1 (pw_set hw hL hD hx5 he hk9 ?_ hS1))
  rw [nI_clamp hjb] at hP1
  exact hP1
theorem pw_new {cx : Code} (hexec : p.tables.exec = Jvm.exec) (hb : cx.code = cc) {own Cn : String} {T : u_T} {N ci index : Nat} {Ts : List Cond} (hts : ∀ w ∈ Ts, w.before args s = true) (hin : ∀ w ∈ u_ws Cn T N, w ∈ Ts) (ty : Nat → FieldType) (hty : ∀ k, k < N → parseFieldDescriptor (T k).2.2.1 = some (ty k)) (hown : s.vm.findClass own = some m.cls) (hcl : (Cond.classLink own index Cn).before args s = true) (hinst : (Cond.instantiable Cn N).before args s = true) (hini : (Cond.initialized Cn).before args s = true)
    (hK : va_K D cl tys s) (hw : pw_H D cl A H0 a0 c0 ad C H locs) (hA : ∀ q, H0.size ≤ q → A q) (x y : Nat) (hx5 : x < 50) (hn : C x y = none) (hc : cl[ci]? = some (Cn, T, N)) {fs : List Value} (hfs : ∀ j, j < N → defaultValue (ty j) = vp_V fs j) (hcells : cells + 1 ≤ R.cells) (hslots : slots + N ≤ R.slots) (hdg : decode cc pc = .ok (.new index, 3))
    (kk : ∀ (q : Nat) (H1 : Heap), pw_H D cl A H0 a0 c0 (pw_up ad x y q) (pw_up C x y (some (.inr (ci, fs)))) H1 locs →
      W p l e R s m args below meth cx H1 locs (cells + 1) (slots + N) Q (F0 m (pc + 3) ls (.ref q :: rest))) : W p l e R s m args below meth cx H locs cells slots Q (F0 m pc ls rest) := by
  obtain ⟨ws, hL, hP, hD⟩ := pw_list hw
  exact va_new hexec hb hts hin ty hty hown hcl hinst hini hK hP hD hw.2.2.1 hA hc hfs hcells hslots hdg (fun q H1 hP1 hD1 hS1 => kk q H1 (pw_push hw hL hx5 hn hP1 hD1 hS1))
theorem pw_newa (hexec : p.tables.exec = Jvm.exec) (hb : c.code = cc) {atype : ArrayType} (harr : (Cond.arrayClass (newarray.typeOf atype)).before args s = true) {ty : FieldType} (hty : newarray.typeOf atype = ty) (hnr : ∀ t, ty ≠ .object t) (hK : va_K D cl tys s) (hw : pw_H D cl A H0 a0 c0 ad C H locs) (hA : ∀ q, H0.size ≤ q → A q) (x y : Nat) (hx5 : x < 50) (hno : C x y = none) (t0 : Nat) {cA : ClassId} (ht : tys[t0]? = some (cA, ty))
    {n : Int32} {N' : Nat} {az : vp_A} (ha : ∀ cA : ClassId, vp_cell cA az = arrV cA N' (fun _ => defaultValue ty)) (hN : n = nI N') (hNb : N' < 2 ^ 31) (hbytes : N' * componentBytes ty ≤ 536870912) (hcells : cells + 1 ≤ R.cells) (hslots : slots + N' ≤ R.slots) (hdg : decode cc pc = .ok (.newarray atype, 2))
    (kk : ∀ (q : Nat) (H1 : Heap), pw_H D cl A H0 a0 c0 (pw_up ad x y q) (pw_up C x y (some (.inl (cA, az)))) H1 locs →
      W p l e R s m args below meth c H1 locs (cells + 1) (slots + N') Q (F0 m (pc + 2) ls (.ref q :: rest))) : W p l e R s m args below meth c H locs cells slots Q (F0 m pc ls (.int n :: rest)) := by
  obtain ⟨ws, hL, hP, hD⟩ := pw_list hw
  obtain ⟨hn0, hn1⟩ := pw_clamp0 hN hNb
  refine va_newa hexec hb harr hty hK hP hD hw.2.2.1 hA ha hn0 hn1 hbytes hcells hslots hdg (fun q cB H1 hK1 hP1 hD1 hS1 => ?_)
  have e1 := (hK1.2 tys.length (cB, ty) (by rw [List.getElem?_append_right (Nat.le_refl _), Nat.sub_self]; rfl)).2
  have e2 := (hK.2 t0 _ ht).2
  have e3 : cB = cA := by
    cases ty with
    | object t => exact absurd rfl (hnr t)
    | _ => exact Option.some.inj (Eq.trans (Eq.symm e1) e2)
  subst e3
  exact kk q H1 (pw_push hw hL hx5 hno hP1 hD1 hS1)
theorem pw_newq (hexec : p.tables.exec = Jvm.exec) (hb : c.code = cc) {own Cn : String} {index : Nat} (hown : s.vm.findClass own = some m.cls) (hclink : (Cond.classLink own index Cn).before args s = true) (hover : va_AO Cn s) (hK : va_K D cl tys s) (hw : pw_H D cl A H0 a0 c0 ad C H locs) (hA : ∀ q, H0.size ≤ q → A q) (x y : Nat) (hx5 : x < 50) (hno : C x y = none) (t0 : Nat) {cA : ClassId} (ht : tys[t0]? = some (cA, .object Cn))
    {n : Int32} {N' : Nat} (hN : n = nI N') (hNb : N' < 2 ^ 31) (hbytes : N' * 4 ≤ 536870912) (hcells : cells + 1 ≤ R.cells) (hslots : slots + N' ≤ R.slots) (hdg : decode cc pc = .ok (.anewarray index, 3))
    (kk : ∀ (q : Nat) (H1 : Heap), pw_H D cl A H0 a0 c0 (pw_up ad x y q) (pw_up C x y (some (.inl (cA, N', .inr (.inr (.inr (.inr (fun _ => none)))))))) H1 locs →
      W p l e R s m args below meth c H1 locs (cells + 1) (slots + N') Q (F0 m (pc + 3) ls (.ref q :: rest))) : W p l e R s m args below meth c H locs cells slots Q (F0 m pc ls (.int n :: rest)) := by
  obtain ⟨ws, hL, hP, hD⟩ := pw_list hw
  obtain ⟨hn0, hn1⟩ := pw_clamp0 hN hNb
  refine va_newq hexec hb hown hclink hover hK hP hD hw.2.2.1 hA hn0 hn1 hbytes hcells hslots hdg (fun q cB H1 hK1 hP1 hD1 hS1 => ?_)
  obtain ⟨_, _, _, _, _, e1⟩ := (hK1.2 tys.length (cB, .object Cn) (by rw [List.getElem?_append_right (Nat.le_refl _), Nat.sub_self]; rfl)).2
  obtain ⟨_, _, _, _, _, e2⟩ := (hK.2 t0 _ ht).2
  have e3 : cB = cA := Option.some.inj (e1.symm.trans e2)
  subst e3
  exact kk q H1 (pw_push hw hL hx5 hno hP1 hD1 hS1)
theorem pw_copyi (hexec : p.tables.exec = Jvm.exec) (hb : c.code = cc) (hml : c.maxLocals = ls.size) {own : String} {index : Nat} (hown : s.vm.findClass own = some m.cls) (hlink : (Cond.methodLink own index arraycopyName).before args s = true) (hnat : (Cond.native arraycopyName).before args s = true) (hstat : (Cond.static arraycopyName).before args s = true) (hini : (Cond.initialized "java/lang/System").before args s = true)
    (hK : va_K D cl tys s) (hw : pw_H D cl A H0 a0 c0 ad C H locs) (x0 y0 x1 y1 : Nat) (hx50 : x0 < 50) (hx5 : x1 < 50) {a9 : Nat} (hb0 : ad x0 y0 = a9) (hb1 : ad x1 y1 = a) (t0 t1 : Nat) {cy cz : ClassId} {n0 n1 : Nat} {f g : Nat → Int32} {ty : FieldType} (he0 : C x0 y0 = some (.inl (cy, n0, .inl f))) (he1 : C x1 y1 = some (.inl (cz, n1, .inl g))) (ht0 : tys[t0]? = some (cy, ty)) (ht1 : tys[t1]? = some (cz, ty)) (hprim : refKind ty = false)
    {sp dp n : Int32} (jsp jdp jn : Nat) (h1 : sp = nI jsp) (h2 : dp = nI jdp) (h3 : n = nI jn) (h4 : jsp + jn ≤ n0) (h5 : jdp + jn ≤ n1) (hb9 : n0 < 2 ^ 31 ∧ n1 < 2 ^ 31) (hfit : ∀ i, i < jn → fits ty (.int (f (jsp + i))) = true)
    (hframes : 1 ≤ R.frames) (hlocals : (rest.map fun v => v.category).sum + (nativeFrameWords "java/lang/System" "arraycopy" 5 + 11) ≤ R.locals) (hdg : decode cc pc = .ok (.invokestatic index, 3))
    (kk : ∀ (H1 : Heap) (locs1 : List Loc), pw_H D cl A H0 a0 c0 ad (pw_up C x1 y1 (some (.inl (cz, n1, .inl (va_cpy f g jsp jdp jn))))) H1 locs1 → W p l e R s m args below meth c H1 locs1 cells slots Q (F0 m (pc + 3) ls rest)) : W p l e R s m args below meth c H locs cells slots Q (F0 m pc ls (.int n :: .int dp :: .ref a :: .int sp :: .ref a9 :: rest)) := by
  subst hb0; subst hb1
  obtain ⟨ws, hL, hP, hD⟩ := pw_list hw
  obtain ⟨k8, hk8⟩ := hL.2 x0 y0 _ hx50 he0
  obtain ⟨k9, hk9⟩ := hL.2 x1 y1 _ hx5 he1
  obtain ⟨s1, s2⟩ := pw_clamp0 h1 (by omega)
  obtain ⟨d1, d2⟩ := pw_clamp0 h2 (by omega)
  obtain ⟨m1, m2⟩ := pw_clamp0 h3 (by omega)
  refine va_copyi hexec hb hml hown hlink hnat hstat hini hK hP hD hw.2.2.1 k8 k9 t0 t1 hk8 hk9 ht0 ht1 hprim s1 d1 m1 (by rw [s2, m2]; exact h4) (by rw [d2, m2]; exact h5) (by rw [s2, m2]; exact hfit) hframes hlocals hdg (fun H1 locs1 hP1 hD1 hS1 => kk H1 locs1 (pw_set hw hL hD hx5 he1 hk9 ?_ hS1))
  rw [s2, d2, m2] at hP1
  exact hP1
end PW
/-! answers -/
def pw_pi (post : Int32 → pw_A → pw_C → Prop) : Option Value → pw_A → pw_C → Prop := fun v a c => ∃ r : Int32, v = some (.int r) ∧ post r a c
def pw_pl (post : Int64 → pw_A → pw_C → Prop) : Option Value → pw_A → pw_C → Prop := fun v a c => ∃ r : Int64, v = some (.long r) ∧ post r a c
def pw_pv (post : pw_A → pw_C → Prop) : Option Value → pw_A → pw_C → Prop := fun v a c => v = none ∧ post a c
def pw_pr (post : Nat → pw_A → pw_C → Prop) : Option Value → pw_A → pw_C → Prop := fun v a c => ∃ r : Nat, v = some (.ref r) ∧ post r a c
section PWE
variable {p : Program} {l : Launch} {e : Env} {R : Room} {s : State} {m : MethodId} {args : Array Value} {below : List Frame} {meth : Method} {c : Code} {H : Heap} {locs : List Loc} {cells slots : Nat} {Q : State → Prop}
variable {cc : ByteArray} {pc : Nat} {ls : Array Slot} {rest st0 : List Value} {D : va_G} {cl : List vw_C} {A : Nat → Prop} {tys : List (ClassId × FieldType)} {H0 : Heap} {a0 ad : pw_A} {c0 C : pw_C} {a : Nat}
theorem pw_calli {post : Int32 → pw_A → pw_C → Prop} {a9 : Array Value} {mc ms : Nat} (hr : va_Run p l e R s m args below meth c H locs cells slots mc ms (F0 m pc ls st0) rest (pw_Q D cl ad C (pw_pi post) (pw_dom ad C H.size) a9) (pw_dom ad C H.size)) (hw : pw_H D cl A H0 a0 c0 ad C H locs) (hA : ∀ q, H0.size ≤ q → A q)
    (kk : ∀ (r : Int32) (ad' : pw_A) (C' : pw_C) (H1 : Heap) (locs1 : List Loc), post r ad' C' → pw_H D cl A H0 a0 c0 ad' C' H1 locs1 → W p l e R s m args below meth c H1 locs1 (cells + mc) (slots + ms) Q (F0 m (pc + 3) ls (.int r :: rest))) : W p l e R s m args below meth c H locs cells slots Q (F0 m pc ls st0) :=
  pw_call hr hw hA (fun v ad' C' H1 locs1 hp hw1 => by obtain ⟨r, rfl, hp⟩ := hp; exact kk r ad' C' H1 locs1 hp hw1)
theorem pw_calll {post : Int64 → pw_A → pw_C → Prop} {a9 : Array Value} {mc ms : Nat} (hr : va_Run p l e R s m args below meth c H locs cells slots mc ms (F0 m pc ls st0) rest (pw_Q D cl ad C (pw_pl post) (pw_dom ad C H.size) a9) (pw_dom ad C H.size)) (hw : pw_H D cl A H0 a0 c0 ad C H locs) (hA : ∀ q, H0.size ≤ q → A q)
    (kk : ∀ (r : Int64) (ad' : pw_A) (C' : pw_C) (H1 : Heap) (locs1 : List Loc), post r ad' C' → pw_H D cl A H0 a0 c0 ad' C' H1 locs1 → W p l e R s m args below meth c H1 locs1 (cells + mc) (slots + ms) Q (F0 m (pc + 3) ls (.long r :: rest))) : W p l e R s m args below meth c H locs cells slots Q (F0 m pc ls st0) :=
  pw_call hr hw hA (fun v ad' C' H1 locs1 hp hw1 => by obtain ⟨r, rfl, hp⟩ := hp; exact kk r ad' C' H1 locs1 hp hw1)
theorem pw_callv {post : pw_A → pw_C → Prop} {a9 : Array Value} {mc ms : Nat} (hr : va_Run p l e R s m args below meth c H locs cells slots mc ms (F0 m pc ls st0) rest (pw_Q D cl ad C (pw_pv post) (pw_dom ad C H.size) a9) (pw_dom ad C H.size)) (hw : pw_H D cl A H0 a0 c0 ad C H locs) (hA : ∀ q, H0.size ≤ q → A q)
    (kk : ∀ (ad' : pw_A) (C' : pw_C) (H1 : Heap) (locs1 : List Loc), post ad' C' → pw_H D cl A H0 a0 c0 ad' C' H1 locs1 → W p l e R s m args below meth c H1 locs1 (cells + mc) (slots + ms) Q (F0 m (pc + 3) ls rest)) : W p l e R s m args below meth c H locs cells slots Q (F0 m pc ls st0) :=
  pw_call hr hw hA (fun v ad' C' H1 locs1 hp hw1 => by obtain ⟨rfl, hp⟩ := hp; exact kk ad' C' H1 locs1 hp hw1)
theorem pw_callr {post : Nat → pw_A → pw_C → Prop} {a9 : Array Value} {mc ms : Nat} (hr : va_Run p l e R s m args below meth c H locs cells slots mc ms (F0 m pc ls st0) rest (pw_Q D cl ad C (pw_pr post) (pw_dom ad C H.size) a9) (pw_dom ad C H.size)) (hw : pw_H D cl A H0 a0 c0 ad C H locs) (hA : ∀ q, H0.size ≤ q → A q)
    (kk : ∀ (r : Nat) (ad' : pw_A) (C' : pw_C) (H1 : Heap) (locs1 : List Loc), post r ad' C' → pw_H D cl A H0 a0 c0 ad' C' H1 locs1 → W p l e R s m args below meth c H1 locs1 (cells + mc) (slots + ms) Q (F0 m (pc + 3) ls (.ref r :: rest))) : W p l e R s m args below meth c H locs cells slots Q (F0 m pc ls st0) :=
  pw_call hr hw hA (fun v ad' C' H1 locs1 hp hw1 => by obtain ⟨r, rfl, hp⟩ := hp; exact kk r ad' C' H1 locs1 hp hw1)
theorem pw_iret {post : Int32 → pw_A → pw_C → Prop} (hexec : p.tables.exec = Jvm.exec) (hb : c.code = cc) (hr : meth.sig.returnType = some .int) (hlocks : meth.locks = false) (hw : pw_H D cl A s.heap a0 c0 ad C H locs) {r : Int32} (hp : post r ad C) (hdg : decode cc pc = .ok (.ireturn, 1)) : W p l e R s m args below meth c H locs cells slots (MQ below (pw_Q D cl a0 c0 (pw_pi post) A) args s cells slots A) (F0 m pc ls [.int r]) :=
  W.iret (v := r) hexec hb hr (fun t ht hW => ⟨⟨some (.int r), ad, C, rfl, ⟨r, rfl, hp⟩, by rw [ht]; exact hw.1, fun x y e he h5 => (hw.2.1 x y e he).1 h5, hw.2.2.2⟩, hw.2.2.1.F ht⟩) hw.2.2.1.2.2 hdg
theorem pw_zret {post : Int32 → pw_A → pw_C → Prop} {ty : FieldType} (hexec : p.tables.exec = Jvm.exec) (hb : c.code = cc) (hr : meth.sig.returnType = some ty) (hlocks : meth.locks = false) (hw : pw_H D cl A s.heap a0 c0 ad C H locs) {r : Int32} (hn : narrow ty (.int r) = .int r) (hp : post r ad C) (hdg : decode cc pc = .ok (.ireturn, 1)) : W p l e R s m args below meth c H locs cells slots (MQ below (pw_Q D cl a0 c0 (pw_pi post) A) args s cells slots A) (F0 m pc ls [.int r]) :=
  W.zret (v := r) hexec hb hr hn (fun t ht hW => ⟨⟨some (.int r), ad, C, rfl, ⟨r, rfl, hp⟩, by rw [ht]; exact hw.1, fun x y e he h5 => (hw.2.1 x y e he).1 h5, hw.2.2.2⟩, hw.2.2.1.F ht⟩) hw.2.2.1.2.2 hdg
theorem pw_lret {post : Int64 → pw_A → pw_C → Prop} (hexec : p.tables.exec = Jvm.exec) (hb : c.code = cc) (hr : meth.sig.returnType = some .long) (hlocks : meth.locks = false) (hw : pw_H D cl A s.heap a0 c0 ad C H locs) {r : Int64} (hp : post r ad C) (hdg : decode cc pc = .ok (.lreturn, 1)) : W p l e R s m args below meth c H locs cells slots (MQ below (pw_Q D cl a0 c0 (pw_pl post) A) args s cells slots A) (F0 m pc ls [.long r]) :=
  W.lret (v := r) hexec hb hr (fun t ht hW => ⟨⟨some (.long r), ad, C, rfl, ⟨r, rfl, hp⟩, by rw [ht]; exact hw.1, fun x y e he h5 => (hw.2.1 x y e he).1 h5, hw.2.2.2⟩, hw.2.2.1.F ht⟩) hw.2.2.1.2.2 hdg
theorem pw_vret {post : pw_A → pw_C → Prop} (hexec : p.tables.exec = Jvm.exec) (hb : c.code = cc) (hr : meth.sig.returnType = none) (hlocks : meth.locks = false) (hw : pw_H D cl A s.heap a0 c0 ad C H locs) (hp : post ad C) (hdg : decode cc pc = .ok (.return_, 1)) : W p l e R s m args below meth c H locs cells slots (MQ below (pw_Q D cl a0 c0 (pw_pv post) A) args s cells slots A) (F0 m pc ls []) :=
  W.vret hexec hb hr (fun t ht hW => ⟨⟨none, ad, C, rfl, ⟨rfl, hp⟩, by rw [ht]; exact hw.1, fun x y e he h5 => (hw.2.1 x y e he).1 h5, hw.2.2.2⟩, hw.2.2.1.F ht⟩) hw.2.2.1.2.2 hdg
theorem pw_aret {post : Nat → pw_A → pw_C → Prop} {rt : FieldType} (hexec : p.tables.exec = Jvm.exec) (hb : c.code = cc) (hr : meth.sig.returnType = some rt) (hrt : (∃ n, rt = .object n) ∨ ∃ t, rt = .array t) (hlocks : meth.locks = false) (hw : pw_H D cl A s.heap a0 c0 ad C H locs) {r : Nat} (hp : post r ad C) (hdg : decode cc pc = .ok (.areturn, 1)) : W p l e R s m args below meth c H locs cells slots (MQ below (pw_Q D cl a0 c0 (pw_pr post) A) args s cells slots A) (F0 m pc ls [.ref r]) :=
  W.aret (v := .ref r) hexec hb hr hrt (Or.inr ⟨r, rfl⟩) (fun t ht hW => ⟨⟨some (.ref r), ad, C, rfl, ⟨r, rfl, hp⟩, by rw [ht]; exact hw.1, fun x y e he h5 => (hw.2.1 x y e he).1 h5, hw.2.2.2⟩, hw.2.2.1.F ht⟩) hw.2.2.1.2.2 hdg
end PWE
/-- what a body has at its entry -/
def pw_B (p : Program) (s : State) (m : MethodId) (args : Array Value) (meth : Method) (c : Code) (y : MethodName) (cc : ByteArray) (maxL : Nat) (ret : Option FieldType) (ws : List Cond) : Prop :=
  p.tables.exec = Jvm.exec ∧ c.code = cc ∧ meth.sig.returnType = ret ∧ c.maxLocals = maxL ∧ (∀ w ∈ ws, w.before args s = true) ∧ meth.locks = false ∧ s.vm.findClass y.cls = some m.cls ∧ meth.name = y.name
theorem pw_ofW {l : Launch} {y : MethodName} {ws ws' : List Cond} {rm : Room} {D : va_G} {cl : List vw_C} {tys : List (ClassId × FieldType)} {Z : (Nat → Prop) → State → Prop} {av : List Value} {ad : pw_A} {C : pw_C} {post : Option Value → pw_A → pw_C → Prop} {mc ms : Nat} {cc : ByteArray} {maxL : Nat} {ret : Option FieldType}
    (hy : plainName y.cls = true) (hws : ws = Cond.code y cc maxL ret :: ws') (hav : (lg_sl av).length ≤ maxL)
    (body : ∀ (p : Program) (e : Env) (s : State) (m : MethodId) (args : Array Value) (below : List Frame) (meth : Method) (c : Code) (A : Nat → Prop) (ls : Array Slot), pw_B p s m args meth c y cc maxL ret ws → (∀ q, s.heap.size ≤ q → A q) → pw_H D cl A s.heap ad C ad C s.heap [] → va_K D cl tys s → Z A s → lv_has ls maxL (lv_args 0 av) →
      W p l e rm s m args below meth c s.heap [] 0 0 (MQ below (pw_Q D cl ad C post A) args s mc ms A) (F0 m 0 ls [])) : pw_Con l y ws rm D cl tys Z av ad C post mc ms := by
  intro sz
  refine Met.ofW (cc := cc) (maxL := maxL) (ret := ret) hy hws ?_
  intro p e s m args below meth c s₁ B hml hv
  obtain ⟨rfl, hsz, hP, hK, hz⟩ := hv
  subst hsz
  have hl := lv_entry av (n := maxL) hav
  rw [lg_entry_eq]
  exact body p e s m _ below meth c (pw_dom ad C s.heap.size) _ ⟨B.exec, B.bytes, B.returns, hml, atoms_spec (ws := ws) B.pre, B.notSynchronized, findClass_of_methodNamed B.named, (name_of_methodNamed B.named B.method).1⟩ pw_dom_new (pw_start hP) hK hz hl
/-- a contract's answer may be said otherwise -/
theorem pw_Con.post {l : Launch} {y : MethodName} {ws : List Cond} {rm : Room} {D : va_G} {cl : List vw_C} {tys : List (ClassId × FieldType)} {Z : (Nat → Prop) → State → Prop} {av : List Value} {ad : pw_A} {C : pw_C} {post post' : Option Value → pw_A → pw_C → Prop} {mc ms : Nat} (h : pw_Con l y ws rm D cl tys Z av ad C post mc ms) (hp : ∀ v a c, post v a c → post' v a c) : pw_Con l y ws rm D cl tys Z av ad C post' mc ms := by
  intro sz p e h1 h2 h3 s m args below h4 h5 h6 h7
  obtain ⟨n, o, g1, g2, g3, ⟨⟨⟨v, a', c', k1, k2, k3⟩, k4⟩, g5⟩⟩ := h sz p e h1 h2 h3 s m args below h4 h5 h6 h7
  exact ⟨n, o, g1, g2, g3, ⟨⟨⟨v, a', c', k1, hp v a' c' k2, k3⟩, k4⟩, g5⟩⟩
end
section
abbrev ES : Type := List Int32 × Int32 × (Nat → Int32) × Int32
abbrev SN : Type := (Nat → Int32) × Int32 × Int32 × Int32
abbrev ty9 (ca : Nat → ClassId) : List (ClassId × FieldType) := [(ca 0, .int), (ca 1, .long), (ca 2, .byte), (ca 3, .boolean), (ca 4, .object "GraphWriter$Defined"), (ca 5, .object "GraphWriter$Thing")]
abbrev gc_Con (l : Launch) (y : MethodName) (c : Cond) (rm : Room) (D : va_G) (ca : Nat → ClassId) (Z : (Nat → Prop) → State → Prop) (av : List Value) (ad : pw_A) (C : pw_C) (post : Option Value → pw_A → pw_C → Prop) (mc ms : Nat) : Prop := pw_Con l y (c :: wd_W) rm D cls9 (ty9 ca) Z av ad C post mc ms
def es_by (n : Int64) (w j : Nat) : Int32 := ((n.toUInt64 >>> ((nI (8 * (w - 1 - j))).toInt64.toUInt64 &&& Int64.toUInt64 63)).toInt64).toInt32.toInt8.toInt32
def es_bytes (n : Int64) (w : Nat) : List Int32 := (List.range w).map (es_by n w)
theorem es_bytes_len (n : Int64) (w : Nat) : (es_bytes n w).length = w := by simp [es_bytes]
theorem es_bytes_get (n : Int64) (w j : Nat) (h : j < w) : (es_bytes n w).getD j 0 = es_by n w j := by simp [es_bytes, List.getD, h]
/-- the lowest w bytes of n are put, if there is room -/
def es_put (x : ES) (n : Int64) (w : Nat) : ES := if x.2.1 = 0 then (if 1400 < x.1.length + w then (x.1, -2, x.2.2) else (x.1 ++ es_bytes n w, x.2)) else x
/-- the stream's cells: the object, its bytes, what waits, the last handles, those before -/
def os_at (ca : Nat → ClassId) (ad : pw_A) (C : pw_C) (bs : List Int32) (oc : Int32) (la : Nat → Int32) (hn : Int32) (w0 : List Int32) (wn : Nat) (sn : SN) : Prop := ∃ by0 wt : Nat → Int32,
  C 3 0 = some (.inr (1, [.ref (ad 4 0), .ref (ad 5 0), .ref (ad 6 0), .int (nI bs.length), .int (nI wn), .int hn, .int oc, .ref (ad 7 0), .int sn.2.1, .int sn.2.2.1, .int sn.2.2.2])) ∧
  C 4 0 = some (.inl (ca 2, 1400, .inl by0)) ∧ C 5 0 = some (.inl (ca 2, 255, .inl wt)) ∧ C 6 0 = some (.inl (ca 0, 35, .inl la)) ∧ C 7 0 = some (.inl (ca 0, 35, .inl sn.1)) ∧
  bs.length ≤ 1400 ∧ (∀ i, i < bs.length → by0 i = bs.getD i 0) ∧ wn ≤ w0.length ∧ w0.length ≤ 255 ∧ ∀ i, i < w0.length → wt i = w0.getD i 0
abbrev os_x (ca : Nat → ClassId) (ad : pw_A) (C : pw_C) (x : ES) (w0 : List Int32) (wn : Nat) (sn : SN) : Prop := os_at ca ad C x.1 x.2.1 x.2.2.1 x.2.2.2 w0 wn sn
abbrev os_fr (C C' : pw_C) : Prop := ∀ x y, (x < 3 ∨ 7 < x) → C' x y = C x y
theorem es_getl {a b : List Int32} {i : Nat} (h : i < a.length) : (a ++ b).getD i 0 = a.getD i 0 := by simp [List.getD, List.getElem?_append_left h]
theorem es_getr {a b : List Int32} {i : Nat} (h : a.length ≤ i) : (a ++ b).getD i 0 = b.getD (i - a.length) 0 := by simp [List.getD, List.getElem?_append_right h]
theorem es_sh1 (r : Nat) : (8 : Int32) * nI (r + 1) - 8 = nI (8 * r) := by
  rw [show (8 : Int32) = nI 8 from rfl, pk_mul, pk_sub (by omega)]
  congr 1
theorem es_sh2 (r : Nat) : nI (8 * r) + (-8) = (8 : Int32) * nI r - 8 := by
  rw [show (8 : Int32) * nI r = nI (8 * r) from by rw [show (8 : Int32) = nI 8 from rfl, pk_mul], Int32.sub_eq_add_neg]

set_option maxHeartbeats 4000000 in
set_option maxRecDepth 100000 in
/-- put(n, w) -/
theorem k_O_put {l : Launch} {D : va_G} {ca : Nat → ClassId} {Z : (Nat → Prop) → State → Prop} {ad : pw_A} {C : pw_C} {bs : List Int32} {oc : Int32} {la : Nat → Int32} {hn : Int32} {w0 : List Int32} {wn : Nat} {sn : SN} (hO : os_at ca ad C bs oc la hn w0 wn sn) (n : Int64) {w : Nat} (hw8 : w ≤ 8) : gc_Con l y_O_put c_O_put ({ frames := 0, cells := 0, slots := 0, locals := 0 }) D ca Z [.ref (ad 3 0), .long n, .int (nI w)] ad C (pw_pv (fun ad' C' => ad' = ad ∧ os_x ca ad C' (es_put (bs, oc, la, hn) n w) w0 wn sn ∧ os_fr C C')) 0 0 := by
  obtain ⟨by0, wt, h30, h40, h50, h60, h70, hlen, hby, hwn, hw0, hwt⟩ := hO
  refine pw_ofW (cc := b_O_put) (maxL := 5) (ret := none) (by decide) rfl (Nat.le_of_ble_eq_true rfl) ?_
  intro p e s m args below meth c A ls hB hA hw hK hz hl
  obtain ⟨hx, hb, hr, hml, hts0, hlocks, hown, hnm⟩ := hB
  have hts := wd_hts hts0
  have hown : s.vm.findClass "GraphWriter$Out" = some m.cls := hown
  have hl : lv_has ls 5 [(0, .ref (ad 3 0)), (1, .long n), (3, .int (nI w))] := hl
  have hfr : os_fr C C := fun _ _ _ => rfl
  have key : oc = 0 → bs.length + w ≤ 1400 → ∀ (r j : Nat), j + r = w → ∀ (by1 : Nat → Int32) (C1 : pw_C) (H : Heap) (locs : List Loc) (ls : Array Slot), C1 3 0 = some (.inr (1, [.ref (ad 4 0), .ref (ad 5 0), .ref (ad 6 0), .int (nI (bs.length + j)), .int (nI wn), .int hn, .int oc, .ref (ad 7 0), .int sn.2.1, .int sn.2.2.1, .int sn.2.2.2])) → C1 4 0 = some (.inl (ca 2, 1400, .inl by1)) → C1 5 0 = some (.inl (ca 2, 255, .inl wt)) → C1 6 0 = some (.inl (ca 0, 35, .inl la)) → C1 7 0 = some (.inl (ca 0, 35, .inl sn.1)) → os_fr C C1 → (∀ i, i < bs.length → by1 i = by0 i) → (∀ i, i < j → by1 (bs.length + i) = es_by n w i) → pw_H D cls9 A s.heap ad C ad C1 H locs → lv_has ls 5 [(4, .int (8 * nI r - 8)), (0, .ref (ad 3 0)), (1, .long n), (3, .int (nI w))] → W p l e ({ frames := 0, cells := 0, slots := 0, locals := 0 }) s m args below meth c H locs 0 0 (MQ below (pw_Q D cls9 ad C (pw_pv (fun ad' C' => ad' = ad ∧ os_x ca ad C' (es_put (bs, oc, la, hn) n w) w0 wn sn ∧ os_fr C C')) A) args s 0 0 A) (F0 m 42 ls []) := by
    intro hoc hfit r
    induction r with
    | zero =>
      intro j hj by1 C1 H locs ls h30 h40 h50 h60 h70 hfr h1 h2 hw hl
      refine lv_iload hx hb d_O_put_42 (lv_at hl 0 rfl) ?_
      refine lv_if_lt (tgt := 78) hx hb d_O_put_44 (by decide) (fun c_1 => ?_) (fun c_1 => ?_)
      · have hjw : j = w := by omega
        subst hjw
        refine pw_vret hx hb hr hlocks hw ⟨rfl, ?_, hfr⟩ d_O_put_78
        have hp : es_put (bs, oc, la, hn) n j = (bs ++ es_bytes n j, oc, la, hn) := by simp only [es_put, hoc, if_true]; rw [if_neg (by omega)]
        rw [hp]
        refine ⟨by1, wt, ?_, h40, h50, h60, h70, ?_, ?_, hwn, hw0, hwt⟩
        · rw [List.length_append, es_bytes_len]; exact h30
        · rw [List.length_append, es_bytes_len]; exact hfit
        · intro i hi
          rw [List.length_append, es_bytes_len] at hi
          by_cases hi2 : i < bs.length
          · rw [h1 i hi2, hby i hi2, es_getl hi2]
          · have h3 := h2 (i - bs.length) (by omega)
            rw [show bs.length + (i - bs.length) = i by omega] at h3
            rw [h3, es_getr (by omega), es_bytes_get _ _ _ (by omega)]
      · exact absurd (by decide) c_1
    | succ r ih =>
      intro j hj by1 C1 H locs ls h30 h40 h50 h60 h70 hfr h1 h2 hw hl
      rw [es_sh1 r] at hl
      refine lv_iload hx hb d_O_put_42 (lv_at hl 0 rfl) ?_
      refine lv_if_lt (tgt := 78) hx hb d_O_put_44 (by decide) (fun c_2 => ?_) (fun c_2 => ?_)
      · exact absurd c_2 (nI_pos (by omega))
      · skip
        refine lv_aload_n hx hb d_O_put_47 rfl (lv_at hl 1 rfl) ?_
        refine pw_get (Cn := "GraphWriter$Out") (T := F_O) (N := 11) hx hb hts in_O hown hK hw 3 0 rfl h30 rfl 0 (by decide) (hts _ wd_86) (fun _ h9 => h9) rfl d_O_put_48 ?_
        refine lv_aload_n hx hb d_O_put_51 rfl (lv_at hl 1 rfl) ?_
        refine pw_get (Cn := "GraphWriter$Out") (T := F_O) (N := 11) hx hb hts in_O hown hK hw 3 0 rfl h30 rfl 3 (by decide) (hts _ wd_91) (fun _ h9 => h9) rfl d_O_put_52 ?_
        refine lv_lload_n hx hb d_O_put_55 rfl (lv_at hl 2 rfl) ?_
        refine lv_iload hx hb d_O_put_56 (lv_at hl 0 rfl) ?_
        refine lv_lushr hx hb d_O_put_58 rfl ?_
        refine lv_l2i hx hb d_O_put_59 rfl ?_
        refine lv_i2b hx hb d_O_put_60 rfl ?_
        refine pw_bast hx hb hK hw 4 0 rfl 2 h40 rfl (by decide) (bs.length + j) rfl (by omega) (by omega) d_O_put_61 (fun H locs hw => ?_)
        have hw : pw_H D cls9 A s.heap ad C ad (pw_up C1 4 0 (some (.inl (ca 2, 1400, .inl (upd by1 (bs.length + j) (vp_nar .byte ((((n.toUInt64 >>> ((nI (8 * r)).toInt64.toUInt64 &&& Int64.toUInt64 63)).toInt64).toInt32).toInt8.toInt32))))))) H locs := hw
        generalize hC_3 : pw_up C1 4 0 (some (.inl (ca 2, 1400, .inl (upd by1 (bs.length + j) (vp_nar .byte ((((n.toUInt64 >>> ((nI (8 * r)).toInt64.toUInt64 &&& Int64.toUInt64 63)).toInt64).toInt32).toInt8.toInt32)))))) = C_3 at hw
        have h30 : C_3 3 0 = some (.inr (1, [.ref (ad 4 0), .ref (ad 5 0), .ref (ad 6 0), .int (nI (bs.length + j)), .int (nI wn), .int hn, .int oc, .ref (ad 7 0), .int sn.2.1, .int sn.2.2.1, .int sn.2.2.2])) := by rw [← hC_3]; exact (pw_up_ne _ _ (by decide)).trans h30
        have h50 : C_3 5 0 = some (.inl (ca 2, 255, .inl wt)) := by rw [← hC_3]; exact (pw_up_ne _ _ (by decide)).trans h50
        have h60 : C_3 6 0 = some (.inl (ca 0, 35, .inl la)) := by rw [← hC_3]; exact (pw_up_ne _ _ (by decide)).trans h60
        have h70 : C_3 7 0 = some (.inl (ca 0, 35, .inl sn.1)) := by rw [← hC_3]; exact (pw_up_ne _ _ (by decide)).trans h70
        have h40 : C_3 4 0 = some (.inl (ca 2, 1400, .inl (upd by1 (bs.length + j) (vp_nar .byte ((((n.toUInt64 >>> ((nI (8 * r)).toInt64.toUInt64 &&& Int64.toUInt64 63)).toInt64).toInt32).toInt8.toInt32))))) := by rw [← hC_3]; exact pw_up_self _ _ _ _
        have hfr : ∀ x y, (x < 3 ∨ 7 < x) → C_3 x y = C x y := fun x y h => by rw [← hC_3]; exact (pw_up_ne _ _ (by omega)).trans (hfr x y h)
        refine lv_aload_n hx hb d_O_put_62 rfl (lv_at hl 1 rfl) ?_
        refine lv_dup hx hb d_O_put_63 rfl ?_
        refine pw_get (Cn := "GraphWriter$Out") (T := F_O) (N := 11) hx hb hts in_O hown hK hw 3 0 rfl h30 rfl 3 (by decide) (hts _ wd_91) (fun _ h9 => h9) rfl d_O_put_64 ?_
        refine lv_iconst (v := 1) hx hb d_O_put_67 (by decide) ?_
        refine lv_iadd hx hb d_O_put_68 ?_
        rw [show nI (bs.length + j) + 1 = nI (bs.length + (j + 1)) from nI_1 _]
        refine pw_put (Cn := "GraphWriter$Out") (T := F_O) (N := 11) (v := .int (nI (bs.length + (j + 1)))) (ty := .int) hx hb hts in_O ft_O to_O nm_O hown hK hw 3 0 (by decide) rfl h30 rfl 3 (by decide) (hts _ wd_91) (fun _ h9 => h9) rfl (by decide +kernel) rfl rfl (Nat.le_of_ble_eq_true rfl) d_O_put_69 (fun H locs hw => ?_)
        have hw : pw_H D cls9 A s.heap ad C ad (pw_up C_3 3 0 (some (.inr (1, [.ref (ad 4 0), .ref (ad 5 0), .ref (ad 6 0), .int (nI (bs.length + (j + 1))), .int (nI wn), .int hn, .int oc, .ref (ad 7 0), .int sn.2.1, .int sn.2.2.1, .int sn.2.2.2])))) H locs := hw
        generalize hC_4 : pw_up C_3 3 0 (some (.inr (1, [.ref (ad 4 0), .ref (ad 5 0), .ref (ad 6 0), .int (nI (bs.length + (j + 1))), .int (nI wn), .int hn, .int oc, .ref (ad 7 0), .int sn.2.1, .int sn.2.2.1, .int sn.2.2.2]))) = C_4 at hw
        have h40 : C_4 4 0 = some (.inl (ca 2, 1400, .inl (upd by1 (bs.length + j) (vp_nar .byte ((((n.toUInt64 >>> ((nI (8 * r)).toInt64.toUInt64 &&& Int64.toUInt64 63)).toInt64).toInt32).toInt8.toInt32))))) := by rw [← hC_4]; exact (pw_up_ne _ _ (by decide)).trans h40
        have h50 : C_4 5 0 = some (.inl (ca 2, 255, .inl wt)) := by rw [← hC_4]; exact (pw_up_ne _ _ (by decide)).trans h50
        have h60 : C_4 6 0 = some (.inl (ca 0, 35, .inl la)) := by rw [← hC_4]; exact (pw_up_ne _ _ (by decide)).trans h60
        have h70 : C_4 7 0 = some (.inl (ca 0, 35, .inl sn.1)) := by rw [← hC_4]; exact (pw_up_ne _ _ (by decide)).trans h70
        have h30 : C_4 3 0 = some (.inr (1, [.ref (ad 4 0), .ref (ad 5 0), .ref (ad 6 0), .int (nI (bs.length + (j + 1))), .int (nI wn), .int hn, .int oc, .ref (ad 7 0), .int sn.2.1, .int sn.2.2.1, .int sn.2.2.2])) := by rw [← hC_4]; exact pw_up_self _ _ _ _
        have hfr : ∀ x y, (x < 3 ∨ 7 < x) → C_4 x y = C x y := fun x y h => by rw [← hC_4]; exact (pw_up_ne _ _ (by omega)).trans (hfr x y h)
        refine lv_iinc (v := (nI (8 * r)) + (-8)) (lv' := [(4, .int ((nI (8 * r)) + (-8))), (0, .ref (ad 3 0)), (1, .long n), (3, .int (nI w))]) hx hb d_O_put_72 hl (k := 0) rfl rfl (by decide) rfl (fun ls hl => ?_)
        rw [es_sh2 r] at hl
        refine lv_goto (tgt := 42) hx hb d_O_put_75 (by decide) ?_
        refine ih (j + 1) (by omega) _ _ _ _ _ h30 h40 h50 h60 h70 hfr (fun i hi => ?_) (fun i hi => ?_) hw hl
        · rw [pk_un (by omega)]; exact h1 i hi
        · by_cases hij : i = j
          · subst hij; rw [pk_us, pk_vb]; show _ = es_by n w i; unfold es_by; rw [show w - 1 - i = r by omega]
          · rw [pk_un (by omega)]; exact h2 i (by omega)
  refine lv_aload_n hx hb d_O_put_0 rfl (lv_at hl 0 rfl) ?_
  refine pw_get (Cn := "GraphWriter$Out") (T := F_O) (N := 11) hx hb hts in_O hown hK hw 3 0 rfl h30 rfl 6 (by decide) (hts _ wd_97) (fun _ h9 => h9) rfl d_O_put_1 ?_
  refine lv_if_ne (tgt := 25) hx hb d_O_put_4 (by decide) (fun c_5 => ?_) (fun c_5 => ?_)
  · skip
    refine lv_aload_n hx hb d_O_put_25 rfl (lv_at hl 0 rfl) ?_
    refine pw_get (Cn := "GraphWriter$Out") (T := F_O) (N := 11) hx hb hts in_O hown hK hw 3 0 rfl h30 rfl 6 (by decide) (hts _ wd_97) (fun _ h9 => h9) rfl d_O_put_26 ?_
    refine lv_if_eq (tgt := 33) hx hb d_O_put_29 (by decide) (fun c_6 => ?_) (fun c_6 => ?_)
    · exact absurd c_6 c_5
    · refine pw_vret hx hb hr hlocks hw ⟨rfl, ?_, hfr⟩ d_O_put_32
      have hp : es_put (bs, oc, la, hn) n w = (bs, oc, la, hn) := if_neg c_5
      rw [hp]
      exact ⟨by0, wt, h30, h40, h50, h60, h70, hlen, hby, hwn, hw0, hwt⟩
  · skip
    have hoc : oc = 0 := c_5
    refine lv_aload_n hx hb d_O_put_7 rfl (lv_at hl 0 rfl) ?_
    refine pw_get (Cn := "GraphWriter$Out") (T := F_O) (N := 11) hx hb hts in_O hown hK hw 3 0 rfl h30 rfl 3 (by decide) (hts _ wd_91) (fun _ h9 => h9) rfl d_O_put_8 ?_
    refine lv_iload_n hx hb d_O_put_11 rfl (lv_at hl 2 rfl) ?_
    refine lv_iadd hx hb d_O_put_12 ?_
    rw [nI_add]
    refine lv_sipush (v := 1400) hx hb d_O_put_13 (by decide) ?_
    refine lv_icmp_le (tgt := 25) hx hb d_O_put_16 (by decide) (fun c_7 => ?_) (fun c_7 => ?_)
    · have hfit : bs.length + w ≤ 1400 := (nI_leI (by omega) (by decide)).mp c_7
      refine lv_aload_n hx hb d_O_put_25 rfl (lv_at hl 0 rfl) ?_
      refine pw_get (Cn := "GraphWriter$Out") (T := F_O) (N := 11) hx hb hts in_O hown hK hw 3 0 rfl h30 rfl 6 (by decide) (hts _ wd_97) (fun _ h9 => h9) rfl d_O_put_26 ?_
      refine lv_if_eq (tgt := 33) hx hb d_O_put_29 (by decide) (fun c_8 => ?_) (fun c_8 => ?_)
      · skip
        refine lv_bipush (v := 8) hx hb d_O_put_33 (by decide) ?_
        refine lv_iload_n hx hb d_O_put_35 rfl (lv_at hl 2 rfl) ?_
        refine lv_imul hx hb d_O_put_36 ?_
        refine lv_bipush (v := 8) hx hb d_O_put_37 (by decide) ?_
        refine lv_isub hx hb d_O_put_39 ?_
        refine lv_istore (lv' := [(4, .int ((8 * (nI w)) - 8)), (0, .ref (ad 3 0)), (1, .long n), (3, .int (nI w))]) hx hb d_O_put_40 hl (by decide) rfl (fun ls hl => ?_)
        exact key hoc hfit w 0 (by omega) by0 C _ _ ls h30 h40 h50 h60 h70 hfr (fun _ _ => rfl) (fun i hi => absurd hi (by omega)) hw hl
      · exact absurd hoc c_8
    · have hfull : ¬ bs.length + w ≤ 1400 := fun h => c_7 ((nI_leI (by omega) (by decide)).mpr h)
      refine lv_aload_n hx hb d_O_put_19 rfl (lv_at hl 0 rfl) ?_
      refine lv_bipush (v := (-2)) hx hb d_O_put_20 (by decide) ?_
      refine pw_put (Cn := "GraphWriter$Out") (T := F_O) (N := 11) (v := .int (-2)) (ty := .int) hx hb hts in_O ft_O to_O nm_O hown hK hw 3 0 (by decide) rfl h30 rfl 6 (by decide) (hts _ wd_97) (fun _ h9 => h9) rfl (by decide +kernel) rfl rfl (Nat.le_of_ble_eq_true rfl) d_O_put_22 (fun H locs hw => ?_)
      have hw : pw_H D cls9 A s.heap ad C ad (pw_up C 3 0 (some (.inr (1, [.ref (ad 4 0), .ref (ad 5 0), .ref (ad 6 0), .int (nI bs.length), .int (nI wn), .int hn, .int (-2), .ref (ad 7 0), .int sn.2.1, .int sn.2.2.1, .int sn.2.2.2])))) H locs := hw
      generalize hC_9 : pw_up C 3 0 (some (.inr (1, [.ref (ad 4 0), .ref (ad 5 0), .ref (ad 6 0), .int (nI bs.length), .int (nI wn), .int hn, .int (-2), .ref (ad 7 0), .int sn.2.1, .int sn.2.2.1, .int sn.2.2.2]))) = C_9 at hw
      have h40 : C_9 4 0 = some (.inl (ca 2, 1400, .inl by0)) := by rw [← hC_9]; exact (pw_up_ne _ _ (by decide)).trans h40
      have h50 : C_9 5 0 = some (.inl (ca 2, 255, .inl wt)) := by rw [← hC_9]; exact (pw_up_ne _ _ (by decide)).trans h50
      have h60 : C_9 6 0 = some (.inl (ca 0, 35, .inl la)) := by rw [← hC_9]; exact (pw_up_ne _ _ (by decide)).trans h60
      have h70 : C_9 7 0 = some (.inl (ca 0, 35, .inl sn.1)) := by rw [← hC_9]; exact (pw_up_ne _ _ (by decide)).trans h70
      have h30 : C_9 3 0 = some (.inr (1, [.ref (ad 4 0), .ref (ad 5 0), .ref (ad 6 0), .int (nI bs.length), .int (nI wn), .int hn, .int (-2), .ref (ad 7 0), .int sn.2.1, .int sn.2.2.1, .int sn.2.2.2])) := by rw [← hC_9]; exact pw_up_self _ _ _ _
      have hfr : ∀ x y, (x < 3 ∨ 7 < x) → C_9 x y = C x y := fun x y h => by rw [← hC_9]; exact (pw_up_ne _ _ (by omega)).trans (hfr x y h)
      refine lv_aload_n hx hb d_O_put_25 rfl (lv_at hl 0 rfl) ?_
      refine pw_get (Cn := "GraphWriter$Out") (T := F_O) (N := 11) hx hb hts in_O hown hK hw 3 0 rfl h30 rfl 6 (by decide) (hts _ wd_97) (fun _ h9 => h9) rfl d_O_put_26 ?_
      refine lv_if_eq (tgt := 33) hx hb d_O_put_29 (by decide) (fun c_10 => ?_) (fun c_10 => ?_)
      · exact absurd c_10 (by decide)
      · refine pw_vret hx hb hr hlocks hw ⟨rfl, ?_, hfr⟩ d_O_put_32
        have hp : es_put (bs, oc, la, hn) n w = (bs, -2, la, hn) := by simp only [es_put, hoc, if_true]; rw [if_pos (by omega)]
        rw [hp]
        exact ⟨by0, wt, h30, h40, h50, h60, h70, hlen, hby, hwn, hw0, hwt⟩
end
section
/-- a handle is given -/
def es_give (x : ES) (k : Nat) : ES := (x.1, x.2.1, upd x.2.2.1 k x.2.2.2, x.2.2.2 + 1)
/-- the reference to what has a handle; 1 if it has one -/
def es_ref (x : ES) (k : Nat) : ES × Int32 := if x.2.2.1 k = -1 then (x, 0) else (es_put (es_put x 113 1) ((8257536 + x.2.2.1 k).toInt64) 4, 1)
def es_close (x : ES) : ES := es_put (es_put x 120 1) 112 1
def es_sign (x : ES) (c : Int32) : ES := es_put (es_put x 1 2) c.toInt64 1
def es_forget (x : ES) : ES := (x.1, x.2.1, fun j => if j < 35 then -1 else x.2.2.1 j, 0)
theorem es_put_tail (x : ES) (n : Int64) (w : Nat) : (es_put x n w).2.2 = x.2.2 := by
  unfold es_put
  split
  · split <;> rfl
  · rfl
set_option maxHeartbeats 4000000 in
set_option maxRecDepth 100000 in
/-- O_giveHandle -/
theorem k_O_giveHandle {l : Launch} {D : va_G} {ca : Nat → ClassId} {Z : (Nat → Prop) → State → Prop} (hZ : pw_Zok Z) {ad : pw_A} {C : pw_C} {x : ES} {w0 : List Int32} {wn : Nat} {sn : SN} (hO : os_x ca ad C x w0 wn sn) {k : Nat} (hk : k < 35) : gc_Con l y_O_giveHandle c_O_giveHandle ({ frames := 0, cells := 0, slots := 0, locals := 0 }) D ca Z [.ref (ad 3 0), .int (nI k)] ad C (pw_pv (fun ad' C' => ad' = ad ∧ os_x ca ad C' (es_give x k) w0 wn sn ∧ os_fr C C')) 0 0 := by
  have hO0 := hO
  obtain ⟨by0, wt, h30, h40, h50, h60, h70, hlen, hby, hwn, hw0, hwt⟩ := hO
  refine pw_ofW (cc := b_O_giveHandle) (maxL := 2) (ret := none) (by decide) rfl (Nat.le_of_ble_eq_true rfl) ?_
  intro p e s m args below meth c A ls hB hA hw hK hz hl
  obtain ⟨hx, hb, hr, hml, hts0, hlocks, hown, hnm⟩ := hB
  have hts := wd_hts hts0
  have hown : s.vm.findClass "GraphWriter$Out" = some m.cls := hown
  have hl : lv_has ls 2 [(0, .ref (ad 3 0)), (1, .int (nI k))] := hl
  have hfr : os_fr C C := fun _ _ _ => rfl
  refine lv_aload_n hx hb d_O_giveHandle_0 rfl (lv_at hl 0 rfl) ?_
  refine pw_get (Cn := "GraphWriter$Out") (T := F_O) (N := 11) hx hb hts in_O hown hK hw 3 0 rfl h30 rfl 2 (by decide) (hts _ wd_89) (fun _ h9 => h9) rfl d_O_giveHandle_1 ?_
  refine lv_iload_n hx hb d_O_giveHandle_4 rfl (lv_at hl 1 rfl) ?_
  refine lv_aload_n hx hb d_O_giveHandle_5 rfl (lv_at hl 0 rfl) ?_
  refine pw_get (Cn := "GraphWriter$Out") (T := F_O) (N := 11) hx hb hts in_O hown hK hw 3 0 rfl h30 rfl 5 (by decide) (hts _ wd_95) (fun _ h9 => h9) rfl d_O_giveHandle_6 ?_
  refine pw_iast hx hb hK hw 6 0 rfl 0 h60 rfl (by decide) k rfl (by omega) (by omega) d_O_giveHandle_9 (fun H locs hw => ?_)
  have hw : pw_H D cls9 A s.heap ad C ad (pw_up C 6 0 (some (.inl (ca 0, 35, .inl (upd x.2.2.1 k x.2.2.2))))) H locs := hw
  generalize hC_1 : pw_up C 6 0 (some (.inl (ca 0, 35, .inl (upd x.2.2.1 k x.2.2.2)))) = C_1 at hw
  have h30 : C_1 3 0 = some (.inr (1, [.ref (ad 4 0), .ref (ad 5 0), .ref (ad 6 0), .int (nI x.1.length), .int (nI wn), .int x.2.2.2, .int x.2.1, .ref (ad 7 0), .int sn.2.1, .int sn.2.2.1, .int sn.2.2.2])) := by rw [← hC_1]; exact (pw_up_ne _ _ (by decide)).trans h30
  have h40 : C_1 4 0 = some (.inl (ca 2, 1400, .inl by0)) := by rw [← hC_1]; exact (pw_up_ne _ _ (by decide)).trans h40
  have h50 : C_1 5 0 = some (.inl (ca 2, 255, .inl wt)) := by rw [← hC_1]; exact (pw_up_ne _ _ (by decide)).trans h50
  have h70 : C_1 7 0 = some (.inl (ca 0, 35, .inl sn.1)) := by rw [← hC_1]; exact (pw_up_ne _ _ (by decide)).trans h70
  have h60 : C_1 6 0 = some (.inl (ca 0, 35, .inl (upd x.2.2.1 k x.2.2.2))) := by rw [← hC_1]; exact pw_up_self _ _ _ _
  have hfr : ∀ x y, (x < 3 ∨ 7 < x) → C_1 x y = C x y := fun x y h => by rw [← hC_1]; exact (pw_up_ne _ _ (by omega)).trans (hfr x y h)
  refine lv_aload_n hx hb d_O_giveHandle_10 rfl (lv_at hl 0 rfl) ?_
  refine lv_dup hx hb d_O_giveHandle_11 rfl ?_
  refine pw_get (Cn := "GraphWriter$Out") (T := F_O) (N := 11) hx hb hts in_O hown hK hw 3 0 rfl h30 rfl 5 (by decide) (hts _ wd_95) (fun _ h9 => h9) rfl d_O_giveHandle_12 ?_
  refine lv_iconst (v := 1) hx hb d_O_giveHandle_15 (by decide) ?_
  refine lv_iadd hx hb d_O_giveHandle_16 ?_
  refine pw_put (Cn := "GraphWriter$Out") (T := F_O) (N := 11) (v := .int (x.2.2.2 + 1)) (ty := .int) hx hb hts in_O ft_O to_O nm_O hown hK hw 3 0 (by decide) rfl h30 rfl 5 (by decide) (hts _ wd_95) (fun _ h9 => h9) rfl (by decide +kernel) rfl rfl (Nat.le_of_ble_eq_true rfl) d_O_giveHandle_17 (fun H locs hw => ?_)
  have hw : pw_H D cls9 A s.heap ad C ad (pw_up C_1 3 0 (some (.inr (1, [.ref (ad 4 0), .ref (ad 5 0), .ref (ad 6 0), .int (nI x.1.length), .int (nI wn), .int (x.2.2.2 + 1), .int x.2.1, .ref (ad 7 0), .int sn.2.1, .int sn.2.2.1, .int sn.2.2.2])))) H locs := hw
  generalize hC_2 : pw_up C_1 3 0 (some (.inr (1, [.ref (ad 4 0), .ref (ad 5 0), .ref (ad 6 0), .int (nI x.1.length), .int (nI wn), .int (x.2.2.2 + 1), .int x.2.1, .ref (ad 7 0), .int sn.2.1, .int sn.2.2.1, .int sn.2.2.2]))) = C_2 at hw
  have h40 : C_2 4 0 = some (.inl (ca 2, 1400, .inl by0)) := by rw [← hC_2]; exact (pw_up_ne _ _ (by decide)).trans h40
  have h50 : C_2 5 0 = some (.inl (ca 2, 255, .inl wt)) := by rw [← hC_2]; exact (pw_up_ne _ _ (by decide)).trans h50
  have h60 : C_2 6 0 = some (.inl (ca 0, 35, .inl (upd x.2.2.1 k x.2.2.2))) := by rw [← hC_2]; exact (pw_up_ne _ _ (by decide)).trans h60
  have h70 : C_2 7 0 = some (.inl (ca 0, 35, .inl sn.1)) := by rw [← hC_2]; exact (pw_up_ne _ _ (by decide)).trans h70
  have h30 : C_2 3 0 = some (.inr (1, [.ref (ad 4 0), .ref (ad 5 0), .ref (ad 6 0), .int (nI x.1.length), .int (nI wn), .int (x.2.2.2 + 1), .int x.2.1, .ref (ad 7 0), .int sn.2.1, .int sn.2.2.1, .int sn.2.2.2])) := by rw [← hC_2]; exact pw_up_self _ _ _ _
  have hfr : ∀ x y, (x < 3 ∨ 7 < x) → C_2 x y = C x y := fun x y h => by rw [← hC_2]; exact (pw_up_ne _ _ (by omega)).trans (hfr x y h)
  exact pw_vret hx hb hr hlocks hw ⟨rfl, ⟨by0, wt, h30, h40, h50, h60, h70, hlen, hby, hwn, hw0, hwt⟩, hfr⟩ d_O_giveHandle_20
set_option maxHeartbeats 4000000 in
set_option maxRecDepth 100000 in
/-- O_closeTopDescriptor -/
theorem k_O_closeTopDescriptor {l : Launch} {D : va_G} {ca : Nat → ClassId} {Z : (Nat → Prop) → State → Prop} (hZ : pw_Zok Z) {ad : pw_A} {C : pw_C} {x : ES} {w0 : List Int32} {wn : Nat} {sn : SN} (hO : os_x ca ad C x w0 wn sn) : gc_Con l y_O_closeTopDescriptor c_O_closeTopDescriptor ({ frames := 1, cells := 0, slots := 0, locals := 24 }) D ca Z [.ref (ad 3 0)] ad C (pw_pv (fun ad' C' => ad' = ad ∧ os_x ca ad C' (es_close x) w0 wn sn ∧ os_fr C C')) 0 0 := by
  have hO0 := hO
  obtain ⟨by0, wt, h30, h40, h50, h60, h70, hlen, hby, hwn, hw0, hwt⟩ := hO
  refine pw_ofW (cc := b_O_closeTopDescriptor) (maxL := 1) (ret := none) (by decide) rfl (Nat.le_of_ble_eq_true rfl) ?_
  intro p e s m args below meth c A ls hB hA hw hK hz hl
  obtain ⟨hx, hb, hr, hml, hts0, hlocks, hown, hnm⟩ := hB
  have hts := wd_hts hts0
  have hown : s.vm.findClass "GraphWriter$Out" = some m.cls := hown
  have hl : lv_has ls 1 [(0, .ref (ad 3 0))] := hl
  have hfr : os_fr C C := fun _ _ _ => rfl
  refine lv_aload_n hx hb d_O_closeTopDescriptor_0 rfl (lv_at hl 0 rfl) ?_
  refine lv_ldc2 (v := 120) hx hb hown (hts _ wd_653) d_O_closeTopDescriptor_1 ?_
  refine lv_iconst (v := 1) hx hb d_O_closeTopDescriptor_4 (by decide) ?_
  refine pw_callv (va_runV (As := [.long 120, .int 1]) (rest := []) ⟨hx, hb, hml, hown, hts0⟩ (k_O_put hO0 120 (w := 1) (by decide) _) (cwV 2 hts0 (wd_V wd_139 wd_585 wd_137 wd_138 wd_54) rfl rfl rfl (by decide +kernel) ⟨Nat.le_of_ble_eq_true rfl, Nat.le_of_ble_eq_true rfl⟩) (pw_preV hZ hw hA hK hz rfl h30 rfl) rfl rfl hl.1 rfl (lv_room (Nat.le_of_ble_eq_true rfl)) d_O_closeTopDescriptor_5 ⟨Nat.le_of_ble_eq_true rfl, Nat.le_of_ble_eq_true rfl⟩) hw hA (fun ad_1 C_2 H locs hp hw => ?_)
  obtain ⟨hae, hO, hf1⟩ := hp
  rw [hae] at hw; clear hae
  have hfr : os_fr C C_2 := fun x y h => (hf1 x y h).trans (hfr x y h)
  obtain ⟨x_4, hx_4⟩ : ∃ z, z = es_put x 120 1 := ⟨_, rfl⟩
  rw [← hx_4] at hO
  have hO0 := hO
  obtain ⟨by0, wt, h30, h40, h50, h60, h70, hlen, hby, hwn, hw0, hwt⟩ := hO
  refine lv_aload_n hx hb d_O_closeTopDescriptor_8 rfl (lv_at hl 0 rfl) ?_
  refine lv_ldc2 (v := 112) hx hb hown (hts _ wd_654) d_O_closeTopDescriptor_9 ?_
  refine lv_iconst (v := 1) hx hb d_O_closeTopDescriptor_12 (by decide) ?_
  refine pw_callv (va_runV (As := [.long 112, .int 1]) (rest := []) ⟨hx, hb, hml, hown, hts0⟩ (k_O_put hO0 112 (w := 1) (by decide) _) (cwV 2 hts0 (wd_V wd_139 wd_585 wd_137 wd_138 wd_54) rfl rfl rfl (by decide +kernel) ⟨Nat.le_of_ble_eq_true rfl, Nat.le_of_ble_eq_true rfl⟩) (pw_preV hZ hw hA hK hz rfl h30 rfl) rfl rfl hl.1 rfl (lv_room (Nat.le_of_ble_eq_true rfl)) d_O_closeTopDescriptor_13 ⟨Nat.le_of_ble_eq_true rfl, Nat.le_of_ble_eq_true rfl⟩) hw hA (fun ad_5 C_6 H locs hp hw => ?_)
  obtain ⟨hae, hO, hf1⟩ := hp
  rw [hae] at hw; clear hae
  have hfr : os_fr C C_6 := fun x y h => (hf1 x y h).trans (hfr x y h)
  obtain ⟨x_8, hx_8⟩ : ∃ z, z = es_put x_4 112 1 := ⟨_, rfl⟩
  rw [← hx_8] at hO
  have hO0 := hO
  obtain ⟨by0, wt, h30, h40, h50, h60, h70, hlen, hby, hwn, hw0, hwt⟩ := hO
  have e9 : es_close x = x_8 := by rw [hx_8, hx_4]; rfl
  refine pw_vret hx hb hr hlocks hw ⟨rfl, ?_, hfr⟩ d_O_closeTopDescriptor_16
  rw [e9]; exact hO0
set_option maxHeartbeats 4000000 in
set_option maxRecDepth 100000 in
/-- O_putSign -/
theorem k_O_putSign {l : Launch} {D : va_G} {ca : Nat → ClassId} {Z : (Nat → Prop) → State → Prop} (hZ : pw_Zok Z) {ad : pw_A} {C : pw_C} {x : ES} {w0 : List Int32} {wn : Nat} {sn : SN} (hO : os_x ca ad C x w0 wn sn) {c0 : Int32} : gc_Con l y_O_putSign c_O_putSign ({ frames := 1, cells := 0, slots := 0, locals := 24 }) D ca Z [.ref (ad 3 0), .int c0] ad C (pw_pv (fun ad' C' => ad' = ad ∧ os_x ca ad C' (es_sign x c0) w0 wn sn ∧ os_fr C C')) 0 0 := by
  have hO0 := hO
  obtain ⟨by0, wt, h30, h40, h50, h60, h70, hlen, hby, hwn, hw0, hwt⟩ := hO
  refine pw_ofW (cc := b_O_putSign) (maxL := 2) (ret := none) (by decide) rfl (Nat.le_of_ble_eq_true rfl) ?_
  intro p e s m args below meth c A ls hB hA hw hK hz hl
  obtain ⟨hx, hb, hr, hml, hts0, hlocks, hown, hnm⟩ := hB
  have hts := wd_hts hts0
  have hown : s.vm.findClass "GraphWriter$Out" = some m.cls := hown
  have hl : lv_has ls 2 [(0, .ref (ad 3 0)), (1, .int c0)] := hl
  have hfr : os_fr C C := fun _ _ _ => rfl
  refine lv_aload_n hx hb d_O_putSign_0 rfl (lv_at hl 0 rfl) ?_
  refine lv_lconst (v := 1) hx hb d_O_putSign_1 (by decide) ?_
  refine lv_iconst (v := 2) hx hb d_O_putSign_2 (by decide) ?_
  refine pw_callv (va_runV (As := [.long 1, .int 2]) (rest := []) ⟨hx, hb, hml, hown, hts0⟩ (k_O_put hO0 1 (w := 2) (by decide) _) (cwV 2 hts0 (wd_V wd_139 wd_585 wd_137 wd_138 wd_54) rfl rfl rfl (by decide +kernel) ⟨Nat.le_of_ble_eq_true rfl, Nat.le_of_ble_eq_true rfl⟩) (pw_preV hZ hw hA hK hz rfl h30 rfl) rfl rfl hl.1 rfl (lv_room (Nat.le_of_ble_eq_true rfl)) d_O_putSign_3 ⟨Nat.le_of_ble_eq_true rfl, Nat.le_of_ble_eq_true rfl⟩) hw hA (fun ad_1 C_2 H locs hp hw => ?_)
  obtain ⟨hae, hO, hf1⟩ := hp
  rw [hae] at hw; clear hae
  have hfr : os_fr C C_2 := fun x y h => (hf1 x y h).trans (hfr x y h)
  obtain ⟨x_4, hx_4⟩ : ∃ z, z = es_put x 1 2 := ⟨_, rfl⟩
  rw [← hx_4] at hO
  have hO0 := hO
  obtain ⟨by0, wt, h30, h40, h50, h60, h70, hlen, hby, hwn, hw0, hwt⟩ := hO
  refine lv_aload_n hx hb d_O_putSign_6 rfl (lv_at hl 0 rfl) ?_
  refine lv_iload_n hx hb d_O_putSign_7 rfl (lv_at hl 1 rfl) ?_
  refine lv_i2l hx hb d_O_putSign_8 rfl ?_
  refine lv_iconst (v := 1) hx hb d_O_putSign_9 (by decide) ?_
  refine pw_callv (va_runV (As := [.long c0.toInt64, .int 1]) (rest := []) ⟨hx, hb, hml, hown, hts0⟩ (k_O_put hO0 c0.toInt64 (w := 1) (by decide) _) (cwV 2 hts0 (wd_V wd_139 wd_585 wd_137 wd_138 wd_54) rfl rfl rfl (by decide +kernel) ⟨Nat.le_of_ble_eq_true rfl, Nat.le_of_ble_eq_true rfl⟩) (pw_preV hZ hw hA hK hz rfl h30 rfl) rfl rfl hl.1 rfl (lv_room (Nat.le_of_ble_eq_true rfl)) d_O_putSign_10 ⟨Nat.le_of_ble_eq_true rfl, Nat.le_of_ble_eq_true rfl⟩) hw hA (fun ad_5 C_6 H locs hp hw => ?_)
  obtain ⟨hae, hO, hf1⟩ := hp
  rw [hae] at hw; clear hae
  have hfr : os_fr C C_6 := fun x y h => (hf1 x y h).trans (hfr x y h)
  obtain ⟨x_8, hx_8⟩ : ∃ z, z = es_put x_4 c0.toInt64 1 := ⟨_, rfl⟩
  rw [← hx_8] at hO
  have hO0 := hO
  obtain ⟨by0, wt, h30, h40, h50, h60, h70, hlen, hby, hwn, hw0, hwt⟩ := hO
  have e9 : es_sign x c0 = x_8 := by rw [hx_8, hx_4]; rfl
  refine pw_vret hx hb hr hlocks hw ⟨rfl, ?_, hfr⟩ d_O_putSign_13
  rw [e9]; exact hO0
set_option maxHeartbeats 4000000 in
set_option maxRecDepth 100000 in
/-- O_putReference -/
theorem k_O_putReference {l : Launch} {D : va_G} {ca : Nat → ClassId} {Z : (Nat → Prop) → State → Prop} (hZ : pw_Zok Z) {ad : pw_A} {C : pw_C} {x : ES} {w0 : List Int32} {wn : Nat} {sn : SN} (hO : os_x ca ad C x w0 wn sn) {k : Nat} (hk : k < 35) : gc_Con l y_O_putReference c_O_putReference ({ frames := 1, cells := 0, slots := 0, locals := 24 }) D ca Z [.ref (ad 3 0), .int (nI k)] ad C (pw_pi (fun r ad' C' => (ad' = ad ∧ os_x ca ad C' (es_ref x k).1 w0 wn sn ∧ os_fr C C') ∧ r = (es_ref x k).2)) 0 0 := by
  have hO0 := hO
  obtain ⟨by0, wt, h30, h40, h50, h60, h70, hlen, hby, hwn, hw0, hwt⟩ := hO
  refine pw_ofW (cc := b_O_putReference) (maxL := 2) (ret := (some FieldType.boolean)) (by decide) rfl (Nat.le_of_ble_eq_true rfl) ?_
  intro p e s m args below meth c A ls hB hA hw hK hz hl
  obtain ⟨hx, hb, hr, hml, hts0, hlocks, hown, hnm⟩ := hB
  have hts := wd_hts hts0
  have hown : s.vm.findClass "GraphWriter$Out" = some m.cls := hown
  have hl : lv_has ls 2 [(0, .ref (ad 3 0)), (1, .int (nI k))] := hl
  have hfr : os_fr C C := fun _ _ _ => rfl
  refine lv_aload_n hx hb d_O_putReference_0 rfl (lv_at hl 0 rfl) ?_
  refine pw_get (Cn := "GraphWriter$Out") (T := F_O) (N := 11) hx hb hts in_O hown hK hw 3 0 rfl h30 rfl 2 (by decide) (hts _ wd_89) (fun _ h9 => h9) rfl d_O_putReference_1 ?_
  refine lv_iload_n hx hb d_O_putReference_4 rfl (lv_at hl 1 rfl) ?_
  refine pw_iald hx hb hK hw 6 0 rfl 0 h60 rfl k rfl (by omega) (by omega) d_O_putReference_5 ?_
  refine lv_iconst (v := (-1)) hx hb d_O_putReference_6 (by decide) ?_
  refine lv_icmp_ne (tgt := 12) hx hb d_O_putReference_7 (by decide) (fun c_1 => ?_) (fun c_1 => ?_)
  · skip
    refine lv_aload_n hx hb d_O_putReference_12 rfl (lv_at hl 0 rfl) ?_
    refine lv_ldc2 (v := 113) hx hb hown (hts _ wd_609) d_O_putReference_13 ?_
    refine lv_iconst (v := 1) hx hb d_O_putReference_16 (by decide) ?_
    refine pw_callv (va_runV (As := [.long 113, .int 1]) (rest := []) ⟨hx, hb, hml, hown, hts0⟩ (k_O_put hO0 113 (w := 1) (by decide) _) (cwV 2 hts0 (wd_V wd_139 wd_585 wd_137 wd_138 wd_54) rfl rfl rfl (by decide +kernel) ⟨Nat.le_of_ble_eq_true rfl, Nat.le_of_ble_eq_true rfl⟩) (pw_preV hZ hw hA hK hz rfl h30 rfl) rfl rfl hl.1 rfl (lv_room (Nat.le_of_ble_eq_true rfl)) d_O_putReference_17 ⟨Nat.le_of_ble_eq_true rfl, Nat.le_of_ble_eq_true rfl⟩) hw hA (fun ad_2 C_3 H locs hp hw => ?_)
    obtain ⟨hae, hO, hf1⟩ := hp
    rw [hae] at hw; clear hae
    have hfr : os_fr C C_3 := fun x y h => (hf1 x y h).trans (hfr x y h)
    obtain ⟨x_5, hx_5⟩ : ∃ z, z = es_put x 113 1 := ⟨_, rfl⟩
    rw [← hx_5] at hO
    have hO0 := hO
    obtain ⟨by0, wt, h30, h40, h50, h60, h70, hlen, hby, hwn, hw0, hwt⟩ := hO
    refine lv_aload_n hx hb d_O_putReference_20 rfl (lv_at hl 0 rfl) ?_
    refine lv_ldc (v := 8257536) hx hb hown (hts _ wd_610) d_O_putReference_21 ?_
    refine lv_aload_n hx hb d_O_putReference_23 rfl (lv_at hl 0 rfl) ?_
    refine pw_get (Cn := "GraphWriter$Out") (T := F_O) (N := 11) hx hb hts in_O hown hK hw 3 0 rfl h30 rfl 2 (by decide) (hts _ wd_89) (fun _ h9 => h9) rfl d_O_putReference_24 ?_
    refine lv_iload_n hx hb d_O_putReference_27 rfl (lv_at hl 1 rfl) ?_
    refine pw_iald hx hb hK hw 6 0 rfl 0 h60 rfl k rfl (by omega) (by omega) d_O_putReference_28 ?_
    refine lv_iadd hx hb d_O_putReference_29 ?_
    refine lv_i2l hx hb d_O_putReference_30 rfl ?_
    refine lv_iconst (v := 4) hx hb d_O_putReference_31 (by decide) ?_
    refine pw_callv (va_runV (As := [.long ((8257536 + (x_5.2.2.1 k)).toInt64), .int 4]) (rest := []) ⟨hx, hb, hml, hown, hts0⟩ (k_O_put hO0 ((8257536 + (x_5.2.2.1 k)).toInt64) (w := 4) (by decide) _) (cwV 2 hts0 (wd_V wd_139 wd_585 wd_137 wd_138 wd_54) rfl rfl rfl (by decide +kernel) ⟨Nat.le_of_ble_eq_true rfl, Nat.le_of_ble_eq_true rfl⟩) (pw_preV hZ hw hA hK hz rfl h30 rfl) rfl rfl hl.1 rfl (lv_room (Nat.le_of_ble_eq_true rfl)) d_O_putReference_32 ⟨Nat.le_of_ble_eq_true rfl, Nat.le_of_ble_eq_true rfl⟩) hw hA (fun ad_6 C_7 H locs hp hw => ?_)
    obtain ⟨hae, hO, hf1⟩ := hp
    rw [hae] at hw; clear hae
    have hfr : os_fr C C_7 := fun x y h => (hf1 x y h).trans (hfr x y h)
    obtain ⟨x_9, hx_9⟩ : ∃ z, z = es_put x_5 ((8257536 + (x_5.2.2.1 k)).toInt64) 4 := ⟨_, rfl⟩
    rw [← hx_9] at hO
    have hO0 := hO
    obtain ⟨by0, wt, h30, h40, h50, h60, h70, hlen, hby, hwn, hw0, hwt⟩ := hO
    refine lv_iconst (v := 1) hx hb d_O_putReference_35 (by decide) ?_
    have e8 : x_5.2.2 = x.2.2 := by rw [hx_5]; exact es_put_tail _ _ _
    have e9 : es_ref x k = (x_9, 1) := by rw [hx_9, e8, hx_5]; exact if_neg (by assumption)
    refine pw_zret hx hb hr hlocks hw rfl ⟨⟨rfl, ?_, hfr⟩, ?_⟩ d_O_putReference_36
    · rw [e9]; exact hO0
    · rw [e9]
  · skip
    refine lv_iconst (v := 0) hx hb d_O_putReference_10 (by decide) ?_
    have e9 : es_ref x k = (x, 0) := if_pos (by assumption)
    refine pw_zret hx hb hr hlocks hw rfl ⟨⟨rfl, ?_, hfr⟩, ?_⟩ d_O_putReference_11
    · rw [e9]; exact hO0
    · rw [e9]
end
section
theorem pw_up_up {α : Type} (f : Nat → Nat → α) (x y : Nat) (v w : α) : pw_up (pw_up f x y v) x y w = pw_up f x y w := by
  funext a b
  by_cases h : a = x ∧ b = y
  · simp [pw_up, h]
  · simp [pw_up, h]
def es_snap (x : ES) (wn : Nat) (sn : SN) : SN := (va_cpy x.2.2.1 sn.1 0 0 35, nI x.1.length, nI wn, x.2.2.2)
def es_back (x : ES) (l0 : Nat) (sn : SN) : ES := (x.1.take l0, x.2.1, va_cpy sn.1 x.2.2.1 0 0 35, sn.2.2.2)
def es_oc (x : ES) (oc : Int32) : ES := (x.1, oc, x.2.2)
def es_flush (x : ES) (q : List Int32) : ES := if q = [] then x else q.foldl (fun x b => es_put x b.toInt64 1) (es_put (es_put x 119 1) (nI q.length).toInt64 1)
def es_wait (n : Int64) (w : Nat) : Nat → ES → List Int32 → ES × List Int32
  | 0, x, q => (x, q)
  | r + 1, x, q => if (q ++ [es_by n w (w - 1 - r)]).length = 255 then es_wait n w r (es_flush x (q ++ [es_by n w (w - 1 - r)])) [] else es_wait n w r x (q ++ [es_by n w (w - 1 - r)])
theorem os_cut {ca : Nat → ClassId} {ad : pw_A} {C : pw_C} {x : ES} {w0 : List Int32} {wn : Nat} {sn : SN} (h : os_x ca ad C x w0 wn sn) : os_x ca ad C x (w0.take wn) wn sn := by
  obtain ⟨by0, wt, h30, h40, h50, h60, h70, hlen, hby, hwn, hw0, hwt⟩ := h
  refine ⟨by0, wt, h30, h40, h50, h60, h70, hlen, hby, ?_, ?_, fun i hi => ?_⟩
  · rw [List.length_take]; omega
  · rw [List.length_take]; omega
  · rw [List.length_take] at hi
    rw [hwt i (by omega)]
    simp [List.getD, List.getElem?_take, show i < wn by omega]
set_option maxHeartbeats 4000000 in
set_option maxRecDepth 100000 in
theorem k_JR_fill {l : Launch} {D : va_G} {ca : Nat → ClassId} {Z : (Nat → Prop) → State → Prop} {ad : pw_A} {C : pw_C} {x y n : Nat} {f : Nat → Int32} (hx5 : x < 50) (he : C x y = some (.inl (ca 0, n, .inl f))) (hn : n < 2 ^ 31) (v : Int32) : gc_Con l y_JR_fill c_JR_fill ({ frames := 0, cells := 0, slots := 0, locals := 0 }) D ca Z [.ref (ad x y), .int v] ad C (pw_pv (fun ad' C' => ad' = ad ∧ C' = pw_up C x y (some (.inl (ca 0, n, .inl (fun j => if j < n then v else f j)))))) 0 0 := by
  refine pw_ofW (cc := b_JR_fill) (maxL := 4) (ret := none) (by decide) rfl (Nat.le_of_ble_eq_true rfl) ?_
  intro p e s m args below meth c A ls hB hA hw hK hz hl
  obtain ⟨hx, hb, hr, hml, hts0, hlocks, hown, hnm⟩ := hB
  have hts := wd_hts hts0
  have hown : s.vm.findClass "java/util/Arrays" = some m.cls := hown
  have hl : lv_has ls 4 [(0, .ref (ad x y)), (1, .int v)] := hl
  have key : ∀ (r j : Nat), j + r = n → ∀ (C1 : pw_C) (H : Heap) (locs : List Loc) (ls : Array Slot), C1 = pw_up C x y (some (.inl (ca 0, n, .inl (fun i => if i < j then v else f i)))) → pw_H D cls9 A s.heap ad C ad C1 H locs → lv_has ls 4 [(3, .int (nI n)), (2, .int (nI j)), (0, .ref (ad x y)), (1, .int v)] → W p l e ({ frames := 0, cells := 0, slots := 0, locals := 0 }) s m args below meth c H locs 0 0 (MQ below (pw_Q D cls9 ad C (pw_pv (fun ad' C' => ad' = ad ∧ C' = pw_up C x y (some (.inl (ca 0, n, .inl (fun j => if j < n then v else f j)))))) A) args s 0 0 A) (F0 m 5 ls []) := by
    intro r
    induction r with
    | zero =>
      intro j hj C1 H locs ls hC1 hw hl
      have he : C1 x y = some (.inl (ca 0, n, .inl (fun i => if i < j then v else f i))) := by rw [hC1]; exact pw_up_self _ _ _ _
      refine lv_iload_n hx hb d_JR_fill_5 rfl (lv_at hl 1 rfl) ?_
      refine lv_iload_n hx hb d_JR_fill_6 rfl (lv_at hl 0 rfl) ?_
      refine lv_icmp_ge (tgt := 20) hx hb d_JR_fill_7 (by decide) (fun c_1 => ?_) (fun c_1 => ?_)
      · skip
        have hjn : j = n := by omega
        subst hjn
        exact pw_vret hx hb hr hlocks hw ⟨rfl, hC1⟩ d_JR_fill_20
      · exact absurd (nI_le (by omega) (by omega)) c_1
    | succ r ih =>
      intro j hj C1 H locs ls hC1 hw hl
      have he : C1 x y = some (.inl (ca 0, n, .inl (fun i => if i < j then v else f i))) := by rw [hC1]; exact pw_up_self _ _ _ _
      refine lv_iload_n hx hb d_JR_fill_5 rfl (lv_at hl 1 rfl) ?_
      refine lv_iload_n hx hb d_JR_fill_6 rfl (lv_at hl 0 rfl) ?_
      refine lv_icmp_ge (tgt := 20) hx hb d_JR_fill_7 (by decide) (fun c_2 => ?_) (fun c_2 => ?_)
      · exact absurd c_2 (nI_ge (by omega) (by omega))
      · skip
        refine lv_aload_n hx hb d_JR_fill_10 rfl (lv_at hl 2 rfl) ?_
        refine lv_iload_n hx hb d_JR_fill_11 rfl (lv_at hl 1 rfl) ?_
        refine lv_iload_n hx hb d_JR_fill_12 rfl (lv_at hl 3 rfl) ?_
        refine pw_iast hx hb hK hw x y rfl 0 he rfl (by omega) j rfl (by omega) (by omega) d_JR_fill_13 (fun H locs hw => ?_)
        have hw : pw_H D cls9 A s.heap ad C ad (pw_up C1 x y (some (.inl (ca 0, n, .inl (upd (fun i => if i < j then v else f i) j v))))) H locs := hw
        generalize hC_3 : pw_up C1 x y (some (.inl (ca 0, n, .inl (upd (fun i => if i < j then v else f i) j v)))) = C_3 at hw
        have he : C_3 x y = some (.inl (ca 0, n, .inl (upd (fun i => if i < j then v else f i) j v))) := by rw [← hC_3]; exact pw_up_self _ _ _ _
        refine lv_iinc (v := (nI j) + 1) (lv' := [(2, .int ((nI j) + 1)), (3, .int (nI n)), (0, .ref (ad x y)), (1, .int v)]) hx hb d_JR_fill_14 hl (k := 1) rfl rfl (by decide) rfl (fun ls hl => ?_)
        refine lv_goto (tgt := 5) hx hb d_JR_fill_17 (by decide) ?_
        rw [nI_1] at hl
        refine ih (j + 1) (by omega) _ _ _ _ ?_ hw (lv_sub hl [1, 0, 2, 3] rfl)
        rw [← hC_3, hC1, pw_up_up]
        congr 6
        funext i
        simp only [upd]
        by_cases h1 : i = j
        · subst h1; simp
        · by_cases h2 : i < j
          · simp [h1, h2, show i < j + 1 by omega]
          · simp [h1, h2, show ¬ i < j + 1 by omega]
  refine lv_iconst (v := 0) hx hb d_JR_fill_0 (by decide) ?_
  refine lv_istore_n (lv' := [(2, .int 0), (0, .ref (ad x y)), (1, .int v)]) hx hb d_JR_fill_1 rfl hl (by decide) rfl (fun ls hl => ?_)
  refine lv_aload_n hx hb d_JR_fill_2 rfl (lv_at hl 1 rfl) ?_
  refine pw_alen hx hb hK hw x y rfl 0 he rfl d_JR_fill_3 ?_
  refine lv_istore_n (lv' := [(3, .int (nI n)), (2, .int 0), (0, .ref (ad x y)), (1, .int v)]) hx hb d_JR_fill_4 rfl hl (by decide) rfl (fun ls hl => ?_)
  refine key n 0 (by omega) C _ _ _ ?_ hw (lv_sub hl [0, 1, 2, 3] rfl)
  funext a b
  by_cases h : a = x ∧ b = y
  · obtain ⟨rfl, rfl⟩ := h; rw [pw_up_self, he]; simp
  · rw [pw_up_ne _ _ h]
set_option maxHeartbeats 4000000 in
set_option maxRecDepth 100000 in
/-- O_forgetHandles -/
theorem k_O_forgetHandles {l : Launch} {D : va_G} {ca : Nat → ClassId} {Z : (Nat → Prop) → State → Prop} (hZ : pw_Zok Z) {ad : pw_A} {C : pw_C} {x : ES} {w0 : List Int32} {wn : Nat} {sn : SN} (hO : os_x ca ad C x w0 wn sn) : gc_Con l y_O_forgetHandles c_O_forgetHandles ({ frames := 1, cells := 0, slots := 0, locals := 23 }) D ca Z [.ref (ad 3 0)] ad C (pw_pv (fun ad' C' => ad' = ad ∧ os_x ca ad C' (es_forget x) w0 wn sn ∧ os_fr C C')) 0 0 := by
  have hO0 := hO
  obtain ⟨by0, wt, h30, h40, h50, h60, h70, hlen, hby, hwn, hw0, hwt⟩ := hO
  refine pw_ofW (cc := b_O_forgetHandles) (maxL := 1) (ret := none) (by decide) rfl (Nat.le_of_ble_eq_true rfl) ?_
  intro p e s m args below meth c A ls hB hA hw hK hz hl
  obtain ⟨hx, hb, hr, hml, hts0, hlocks, hown, hnm⟩ := hB
  have hts := wd_hts hts0
  have hown : s.vm.findClass "GraphWriter$Out" = some m.cls := hown
  have hl : lv_has ls 1 [(0, .ref (ad 3 0))] := hl
  have hfr : os_fr C C := fun _ _ _ => rfl
  refine lv_aload_n hx hb d_O_forgetHandles_0 rfl (lv_at hl 0 rfl) ?_
  refine pw_get (Cn := "GraphWriter$Out") (T := F_O) (N := 11) hx hb hts in_O hown hK hw 3 0 rfl h30 rfl 2 (by decide) (hts _ wd_89) (fun _ h9 => h9) rfl d_O_forgetHandles_1 ?_
  refine lv_iconst (v := (-1)) hx hb d_O_forgetHandles_4 (by decide) ?_
  refine pw_callv (va_runS (As := [.ref (ad 6 0), .int (-1)]) (rest := []) ⟨hx, hb, hml, hown, hts0⟩ (k_JR_fill (by decide) h60 (by decide) (-1) _) (va_cwS 2 hts0 (wd_S wd_134 wd_132 wd_133 wd_55) rfl rfl rfl (by decide +kernel) ⟨Nat.le_of_ble_eq_true rfl, Nat.le_of_ble_eq_true rfl⟩) (pw_preS hZ hw hA hK hz) rfl rfl hl.1 rfl (lv_room (Nat.le_of_ble_eq_true rfl)) d_O_forgetHandles_5 ⟨Nat.le_of_ble_eq_true rfl, Nat.le_of_ble_eq_true rfl⟩) hw hA (fun ad_1 C_2 H locs hp hw => ?_)
  obtain ⟨hae, hC1⟩ := hp
  rw [hae] at hw; clear hae
  have h30 : C_2 3 0 = some (.inr (1, [.ref (ad 4 0), .ref (ad 5 0), .ref (ad 6 0), .int (nI x.1.length), .int (nI wn), .int x.2.2.2, .int x.2.1, .ref (ad 7 0), .int sn.2.1, .int sn.2.2.1, .int sn.2.2.2])) := by rw [hC1]; exact (pw_up_ne _ _ (by decide)).trans h30
  have h40 : C_2 4 0 = some (.inl (ca 2, 1400, .inl by0)) := by rw [hC1]; exact (pw_up_ne _ _ (by decide)).trans h40
  have h50 : C_2 5 0 = some (.inl (ca 2, 255, .inl wt)) := by rw [hC1]; exact (pw_up_ne _ _ (by decide)).trans h50
  have h70 : C_2 7 0 = some (.inl (ca 0, 35, .inl sn.1)) := by rw [hC1]; exact (pw_up_ne _ _ (by decide)).trans h70
  have h60 : C_2 6 0 = some (.inl (ca 0, 35, .inl (fun j => if j < 35 then -1 else x.2.2.1 j))) := by rw [hC1]; exact pw_up_self _ _ _ _
  have hfr : os_fr C C_2 := fun x y h => by rw [hC1]; exact (pw_up_ne _ _ (by omega)).trans (hfr x y h)
  refine lv_aload_n hx hb d_O_forgetHandles_8 rfl (lv_at hl 0 rfl) ?_
  refine lv_iconst (v := 0) hx hb d_O_forgetHandles_9 (by decide) ?_
  refine pw_put (Cn := "GraphWriter$Out") (T := F_O) (N := 11) (v := .int 0) (ty := .int) hx hb hts in_O ft_O to_O nm_O hown hK hw 3 0 (by decide) rfl h30 rfl 5 (by decide) (hts _ wd_95) (fun _ h9 => h9) rfl (by decide +kernel) rfl rfl (Nat.le_of_ble_eq_true rfl) d_O_forgetHandles_10 (fun H locs hw => ?_)
  have hw : pw_H D cls9 A s.heap ad C ad (pw_up C_2 3 0 (some (.inr (1, [.ref (ad 4 0), .ref (ad 5 0), .ref (ad 6 0), .int (nI x.1.length), .int (nI wn), .int 0, .int x.2.1, .ref (ad 7 0), .int sn.2.1, .int sn.2.2.1, .int sn.2.2.2])))) H locs := hw
  generalize hC_4 : pw_up C_2 3 0 (some (.inr (1, [.ref (ad 4 0), .ref (ad 5 0), .ref (ad 6 0), .int (nI x.1.length), .int (nI wn), .int 0, .int x.2.1, .ref (ad 7 0), .int sn.2.1, .int sn.2.2.1, .int sn.2.2.2]))) = C_4 at hw
  have h40 : C_4 4 0 = some (.inl (ca 2, 1400, .inl by0)) := by rw [← hC_4]; exact (pw_up_ne _ _ (by decide)).trans h40
  have h50 : C_4 5 0 = some (.inl (ca 2, 255, .inl wt)) := by rw [← hC_4]; exact (pw_up_ne _ _ (by decide)).trans h50
  have h60 : C_4 6 0 = some (.inl (ca 0, 35, .inl (fun j => if j < 35 then -1 else x.2.2.1 j))) := by rw [← hC_4]; exact (pw_up_ne _ _ (by decide)).trans h60
  have h70 : C_4 7 0 = some (.inl (ca 0, 35, .inl sn.1)) := by rw [← hC_4]; exact (pw_up_ne _ _ (by decide)).trans h70
  have h30 : C_4 3 0 = some (.inr (1, [.ref (ad 4 0), .ref (ad 5 0), .ref (ad 6 0), .int (nI x.1.length), .int (nI wn), .int 0, .int x.2.1, .ref (ad 7 0), .int sn.2.1, .int sn.2.2.1, .int sn.2.2.2])) := by rw [← hC_4]; exact pw_up_self _ _ _ _
  have hfr : ∀ x y, (x < 3 ∨ 7 < x) → C_4 x y = C x y := fun x y h => by rw [← hC_4]; exact (pw_up_ne _ _ (by omega)).trans (hfr x y h)
  exact pw_vret hx hb hr hlocks hw ⟨rfl, ⟨by0, wt, h30, h40, h50, h60, h70, hlen, hby, hwn, hw0, hwt⟩, hfr⟩ d_O_forgetHandles_13
set_option maxHeartbeats 4000000 in
set_option maxRecDepth 100000 in
/-- O_begin -/
theorem k_O_begin {l : Launch} {D : va_G} {ca : Nat → ClassId} {Z : (Nat → Prop) → State → Prop} (hZ : pw_Zok Z) {ad : pw_A} {C : pw_C} {x : ES} {w0 : List Int32} {wn : Nat} {sn : SN} (hO : os_x ca ad C x w0 wn sn) : gc_Con l y_O_begin c_O_begin ({ frames := 1, cells := 0, slots := 0, locals := 60 }) D ca Z [.ref (ad 3 0)] ad C (pw_pv (fun ad' C' => ad' = ad ∧ os_x ca ad C' x w0 wn (es_snap x wn sn) ∧ os_fr C C')) 0 0 := by
  have hO0 := hO
  obtain ⟨by0, wt, h30, h40, h50, h60, h70, hlen, hby, hwn, hw0, hwt⟩ := hO
  refine pw_ofW (cc := b_O_begin) (maxL := 1) (ret := none) (by decide) rfl (Nat.le_of_ble_eq_true rfl) ?_
  intro p e s m args below meth c A ls hB hA hw hK hz hl
  obtain ⟨hx, hb, hr, hml, hts0, hlocks, hown, hnm⟩ := hB
  have hts := wd_hts hts0
  have hown : s.vm.findClass "GraphWriter$Out" = some m.cls := hown
  have hl : lv_has ls 1 [(0, .ref (ad 3 0))] := hl
  have hfr : os_fr C C := fun _ _ _ => rfl
  refine lv_aload_n hx hb d_O_begin_0 rfl (lv_at hl 0 rfl) ?_
  refine pw_get (Cn := "GraphWriter$Out") (T := F_O) (N := 11) hx hb hts in_O hown hK hw 3 0 rfl h30 rfl 2 (by decide) (hts _ wd_89) (fun _ h9 => h9) rfl d_O_begin_1 ?_
  refine lv_iconst (v := 0) hx hb d_O_begin_4 (by decide) ?_
  refine lv_aload_n hx hb d_O_begin_5 rfl (lv_at hl 0 rfl) ?_
  refine pw_get (Cn := "GraphWriter$Out") (T := F_O) (N := 11) hx hb hts in_O hown hK hw 3 0 rfl h30 rfl 7 (by decide) (hts _ wd_99) (fun _ h9 => h9) rfl d_O_begin_6 ?_
  refine lv_iconst (v := 0) hx hb d_O_begin_9 (by decide) ?_
  refine lv_bipush (v := 35) hx hb d_O_begin_10 (by decide) ?_
  refine pw_copyi hx hb (hml.trans hl.1.symm) hown (hts _ wd_594) (hts _ wd_185) (hts _ wd_184) (hts _ wd_59) hK hw 6 0 7 0 (by decide) (by decide) rfl rfl 0 0 h60 h70 rfl rfl rfl 0 0 35 (by decide) (by decide) (by decide) (by omega) (by omega) ⟨by omega, by omega⟩ (fun _ _ => rfl) (Nat.le_of_ble_eq_true rfl) (Nat.le_of_ble_eq_true rfl) d_O_begin_12 (fun H locs hw => ?_)
  have hw : pw_H D cls9 A s.heap ad C ad (pw_up C 7 0 (some (.inl (ca 0, 35, .inl (va_cpy x.2.2.1 sn.1 0 0 35))))) H locs := hw
  generalize hC_1 : pw_up C 7 0 (some (.inl (ca 0, 35, .inl (va_cpy x.2.2.1 sn.1 0 0 35)))) = C_1 at hw
  have h30 : C_1 3 0 = some (.inr (1, [.ref (ad 4 0), .ref (ad 5 0), .ref (ad 6 0), .int (nI x.1.length), .int (nI wn), .int x.2.2.2, .int x.2.1, .ref (ad 7 0), .int sn.2.1, .int sn.2.2.1, .int sn.2.2.2])) := by rw [← hC_1]; exact (pw_up_ne _ _ (by decide)).trans h30
  have h40 : C_1 4 0 = some (.inl (ca 2, 1400, .inl by0)) := by rw [← hC_1]; exact (pw_up_ne _ _ (by decide)).trans h40
  have h50 : C_1 5 0 = some (.inl (ca 2, 255, .inl wt)) := by rw [← hC_1]; exact (pw_up_ne _ _ (by decide)).trans h50
  have h60 : C_1 6 0 = some (.inl (ca 0, 35, .inl x.2.2.1)) := by rw [← hC_1]; exact (pw_up_ne _ _ (by decide)).trans h60
  have h70 : C_1 7 0 = some (.inl (ca 0, 35, .inl (va_cpy x.2.2.1 sn.1 0 0 35))) := by rw [← hC_1]; exact pw_up_self _ _ _ _
  have hfr : ∀ x y, (x < 3 ∨ 7 < x) → C_1 x y = C x y := fun x y h => by rw [← hC_1]; exact (pw_up_ne _ _ (by omega)).trans (hfr x y h)
  refine lv_aload_n hx hb d_O_begin_15 rfl (lv_at hl 0 rfl) ?_
  refine lv_aload_n hx hb d_O_begin_16 rfl (lv_at hl 0 rfl) ?_
  refine pw_get (Cn := "GraphWriter$Out") (T := F_O) (N := 11) hx hb hts in_O hown hK hw 3 0 rfl h30 rfl 3 (by decide) (hts _ wd_91) (fun _ h9 => h9) rfl d_O_begin_17 ?_
  refine pw_put (Cn := "GraphWriter$Out") (T := F_O) (N := 11) (v := .int (nI x.1.length)) (ty := .int) hx hb hts in_O ft_O to_O nm_O hown hK hw 3 0 (by decide) rfl h30 rfl 8 (by decide) (hts _ wd_100) (fun _ h9 => h9) rfl (by decide +kernel) rfl rfl (Nat.le_of_ble_eq_true rfl) d_O_begin_20 (fun H locs hw => ?_)
  have hw : pw_H D cls9 A s.heap ad C ad (pw_up C_1 3 0 (some (.inr (1, [.ref (ad 4 0), .ref (ad 5 0), .ref (ad 6 0), .int (nI x.1.length), .int (nI wn), .int x.2.2.2, .int x.2.1, .ref (ad 7 0), .int (nI x.1.length), .int sn.2.2.1, .int sn.2.2.2])))) H locs := hw
  generalize hC_2 : pw_up C_1 3 0 (some (.inr (1, [.ref (ad 4 0), .ref (ad 5 0), .ref (ad 6 0), .int (nI x.1.length), .int (nI wn), .int x.2.2.2, .int x.2.1, .ref (ad 7 0), .int (nI x.1.length), .int sn.2.2.1, .int sn.2.2.2]))) = C_2 at hw
  have h40 : C_2 4 0 = some (.inl (ca 2, 1400, .inl by0)) := by rw [← hC_2]; exact (pw_up_ne _ _ (by decide)).trans h40
  have h50 : C_2 5 0 = some (.inl (ca 2, 255, .inl wt)) := by rw [← hC_2]; exact (pw_up_ne _ _ (by decide)).trans h50
  have h60 : C_2 6 0 = some (.inl (ca 0, 35, .inl x.2.2.1)) := by rw [← hC_2]; exact (pw_up_ne _ _ (by decide)).trans h60
  have h70 : C_2 7 0 = some (.inl (ca 0, 35, .inl (va_cpy x.2.2.1 sn.1 0 0 35))) := by rw [← hC_2]; exact (pw_up_ne _ _ (by decide)).trans h70
  have h30 : C_2 3 0 = some (.inr (1, [.ref (ad 4 0), .ref (ad 5 0), .ref (ad 6 0), .int (nI x.1.length), .int (nI wn), .int x.2.2.2, .int x.2.1, .ref (ad 7 0), .int (nI x.1.length), .int sn.2.2.1, .int sn.2.2.2])) := by rw [← hC_2]; exact pw_up_self _ _ _ _
  have hfr : ∀ x y, (x < 3 ∨ 7 < x) → C_2 x y = C x y := fun x y h => by rw [← hC_2]; exact (pw_up_ne _ _ (by omega)).trans (hfr x y h)
  refine lv_aload_n hx hb d_O_begin_23 rfl (lv_at hl 0 rfl) ?_
  refine lv_aload_n hx hb d_O_begin_24 rfl (lv_at hl 0 rfl) ?_
  refine pw_get (Cn := "GraphWriter$Out") (T := F_O) (N := 11) hx hb hts in_O hown hK hw 3 0 rfl h30 rfl 4 (by decide) (hts _ wd_93) (fun _ h9 => h9) rfl d_O_begin_25 ?_
  refine pw_put (Cn := "GraphWriter$Out") (T := F_O) (N := 11) (v := .int (nI wn)) (ty := .int) hx hb hts in_O ft_O to_O nm_O hown hK hw 3 0 (by decide) rfl h30 rfl 9 (by decide) (hts _ wd_101) (fun _ h9 => h9) rfl (by decide +kernel) rfl rfl (Nat.le_of_ble_eq_true rfl) d_O_begin_28 (fun H locs hw => ?_)
  have hw : pw_H D cls9 A s.heap ad C ad (pw_up C_2 3 0 (some (.inr (1, [.ref (ad 4 0), .ref (ad 5 0), .ref (ad 6 0), .int (nI x.1.length), .int (nI wn), .int x.2.2.2, .int x.2.1, .ref (ad 7 0), .int (nI x.1.length), .int (nI wn), .int sn.2.2.2])))) H locs := hw
  generalize hC_3 : pw_up C_2 3 0 (some (.inr (1, [.ref (ad 4 0), .ref (ad 5 0), .ref (ad 6 0), .int (nI x.1.length), .int (nI wn), .int x.2.2.2, .int x.2.1, .ref (ad 7 0), .int (nI x.1.length), .int (nI wn), .int sn.2.2.2]))) = C_3 at hw
  have h40 : C_3 4 0 = some (.inl (ca 2, 1400, .inl by0)) := by rw [← hC_3]; exact (pw_up_ne _ _ (by decide)).trans h40
  have h50 : C_3 5 0 = some (.inl (ca 2, 255, .inl wt)) := by rw [← hC_3]; exact (pw_up_ne _ _ (by decide)).trans h50
  have h60 : C_3 6 0 = some (.inl (ca 0, 35, .inl x.2.2.1)) := by rw [← hC_3]; exact (pw_up_ne _ _ (by decide)).trans h60
  have h70 : C_3 7 0 = some (.inl (ca 0, 35, .inl (va_cpy x.2.2.1 sn.1 0 0 35))) := by rw [← hC_3]; exact (pw_up_ne _ _ (by decide)).trans h70
  have h30 : C_3 3 0 = some (.inr (1, [.ref (ad 4 0), .ref (ad 5 0), .ref (ad 6 0), .int (nI x.1.length), .int (nI wn), .int x.2.2.2, .int x.2.1, .ref (ad 7 0), .int (nI x.1.length), .int (nI wn), .int sn.2.2.2])) := by rw [← hC_3]; exact pw_up_self _ _ _ _
  have hfr : ∀ x y, (x < 3 ∨ 7 < x) → C_3 x y = C x y := fun x y h => by rw [← hC_3]; exact (pw_up_ne _ _ (by omega)).trans (hfr x y h)
  refine lv_aload_n hx hb d_O_begin_31 rfl (lv_at hl 0 rfl) ?_
  refine lv_aload_n hx hb d_O_begin_32 rfl (lv_at hl 0 rfl) ?_
  refine pw_get (Cn := "GraphWriter$Out") (T := F_O) (N := 11) hx hb hts in_O hown hK hw 3 0 rfl h30 rfl 5 (by decide) (hts _ wd_95) (fun _ h9 => h9) rfl d_O_begin_33 ?_
  refine pw_put (Cn := "GraphWriter$Out") (T := F_O) (N := 11) (v := .int x.2.2.2) (ty := .int) hx hb hts in_O ft_O to_O nm_O hown hK hw 3 0 (by decide) rfl h30 rfl 10 (by decide) (hts _ wd_102) (fun _ h9 => h9) rfl (by decide +kernel) rfl rfl (Nat.le_of_ble_eq_true rfl) d_O_begin_36 (fun H locs hw => ?_)
  have hw : pw_H D cls9 A s.heap ad C ad (pw_up C_3 3 0 (some (.inr (1, [.ref (ad 4 0), .ref (ad 5 0), .ref (ad 6 0), .int (nI x.1.length), .int (nI wn), .int x.2.2.2, .int x.2.1, .ref (ad 7 0), .int (nI x.1.length), .int (nI wn), .int x.2.2.2])))) H locs := hw
  generalize hC_4 : pw_up C_3 3 0 (some (.inr (1, [.ref (ad 4 0), .ref (ad 5 0), .ref (ad 6 0), .int (nI x.1.length), .int (nI wn), .int x.2.2.2, .int x.2.1, .ref (ad 7 0), .int (nI x.1.length), .int (nI wn), .int x.2.2.2]))) = C_4 at hw
  have h40 : C_4 4 0 = some (.inl (ca 2, 1400, .inl by0)) := by rw [← hC_4]; exact (pw_up_ne _ _ (by decide)).trans h40
  have h50 : C_4 5 0 = some (.inl (ca 2, 255, .inl wt)) := by rw [← hC_4]; exact (pw_up_ne _ _ (by decide)).trans h50
  have h60 : C_4 6 0 = some (.inl (ca 0, 35, .inl x.2.2.1)) := by rw [← hC_4]; exact (pw_up_ne _ _ (by decide)).trans h60
  have h70 : C_4 7 0 = some (.inl (ca 0, 35, .inl (va_cpy x.2.2.1 sn.1 0 0 35))) := by rw [← hC_4]; exact (pw_up_ne _ _ (by decide)).trans h70
  have h30 : C_4 3 0 = some (.inr (1, [.ref (ad 4 0), .ref (ad 5 0), .ref (ad 6 0), .int (nI x.1.length), .int (nI wn), .int x.2.2.2, .int x.2.1, .ref (ad 7 0), .int (nI x.1.length), .int (nI wn), .int x.2.2.2])) := by rw [← hC_4]; exact pw_up_self _ _ _ _
  have hfr : ∀ x y, (x < 3 ∨ 7 < x) → C_4 x y = C x y := fun x y h => by rw [← hC_4]; exact (pw_up_ne _ _ (by omega)).trans (hfr x y h)
  exact pw_vret hx hb hr hlocks hw ⟨rfl, ⟨by0, wt, h30, h40, h50, h60, h70, hlen, hby, hwn, hw0, hwt⟩, hfr⟩ d_O_begin_39
set_option maxHeartbeats 4000000 in
set_option maxRecDepth 100000 in
/-- O_goBack -/
theorem k_O_goBack {l : Launch} {D : va_G} {ca : Nat → ClassId} {Z : (Nat → Prop) → State → Prop} (hZ : pw_Zok Z) {ad : pw_A} {C : pw_C} {x : ES} {w0 : List Int32} {wn : Nat} {sn : SN} (hO : os_x ca ad C x w0 wn sn) {l0 wz : Nat} (h1 : sn.2.1 = nI l0) (h2 : sn.2.2.1 = nI wz) (h3 : l0 ≤ x.1.length) (h4 : wz ≤ w0.length) : gc_Con l y_O_goBack c_O_goBack ({ frames := 1, cells := 0, slots := 0, locals := 60 }) D ca Z [.ref (ad 3 0)] ad C (pw_pv (fun ad' C' => ad' = ad ∧ os_x ca ad C' (es_back x l0 sn) w0 wz sn ∧ os_fr C C')) 0 0 := by
  have hO0 := hO
  obtain ⟨by0, wt, h30, h40, h50, h60, h70, hlen, hby, hwn, hw0, hwt⟩ := hO
  refine pw_ofW (cc := b_O_goBack) (maxL := 1) (ret := none) (by decide) rfl (Nat.le_of_ble_eq_true rfl) ?_
  intro p e s m args below meth c A ls hB hA hw hK hz hl
  obtain ⟨hx, hb, hr, hml, hts0, hlocks, hown, hnm⟩ := hB
  have hts := wd_hts hts0
  have hown : s.vm.findClass "GraphWriter$Out" = some m.cls := hown
  have hl : lv_has ls 1 [(0, .ref (ad 3 0))] := hl
  have hfr : os_fr C C := fun _ _ _ => rfl
  refine lv_aload_n hx hb d_O_goBack_0 rfl (lv_at hl 0 rfl) ?_
  refine pw_get (Cn := "GraphWriter$Out") (T := F_O) (N := 11) hx hb hts in_O hown hK hw 3 0 rfl h30 rfl 7 (by decide) (hts _ wd_99) (fun _ h9 => h9) rfl d_O_goBack_1 ?_
  refine lv_iconst (v := 0) hx hb d_O_goBack_4 (by decide) ?_
  refine lv_aload_n hx hb d_O_goBack_5 rfl (lv_at hl 0 rfl) ?_
  refine pw_get (Cn := "GraphWriter$Out") (T := F_O) (N := 11) hx hb hts in_O hown hK hw 3 0 rfl h30 rfl 2 (by decide) (hts _ wd_89) (fun _ h9 => h9) rfl d_O_goBack_6 ?_
  refine lv_iconst (v := 0) hx hb d_O_goBack_9 (by decide) ?_
  refine lv_bipush (v := 35) hx hb d_O_goBack_10 (by decide) ?_
  refine pw_copyi hx hb (hml.trans hl.1.symm) hown (hts _ wd_594) (hts _ wd_185) (hts _ wd_184) (hts _ wd_59) hK hw 7 0 6 0 (by decide) (by decide) rfl rfl 0 0 h70 h60 rfl rfl rfl 0 0 35 (by decide) (by decide) (by decide) (by omega) (by omega) ⟨by omega, by omega⟩ (fun _ _ => rfl) (Nat.le_of_ble_eq_true rfl) (Nat.le_of_ble_eq_true rfl) d_O_goBack_12 (fun H locs hw => ?_)
  have hw : pw_H D cls9 A s.heap ad C ad (pw_up C 6 0 (some (.inl (ca 0, 35, .inl (va_cpy sn.1 x.2.2.1 0 0 35))))) H locs := hw
  generalize hC_1 : pw_up C 6 0 (some (.inl (ca 0, 35, .inl (va_cpy sn.1 x.2.2.1 0 0 35)))) = C_1 at hw
  have h30 : C_1 3 0 = some (.inr (1, [.ref (ad 4 0), .ref (ad 5 0), .ref (ad 6 0), .int (nI x.1.length), .int (nI wn), .int x.2.2.2, .int x.2.1, .ref (ad 7 0), .int sn.2.1, .int sn.2.2.1, .int sn.2.2.2])) := by rw [← hC_1]; exact (pw_up_ne _ _ (by decide)).trans h30
  have h40 : C_1 4 0 = some (.inl (ca 2, 1400, .inl by0)) := by rw [← hC_1]; exact (pw_up_ne _ _ (by decide)).trans h40
  have h50 : C_1 5 0 = some (.inl (ca 2, 255, .inl wt)) := by rw [← hC_1]; exact (pw_up_ne _ _ (by decide)).trans h50
  have h70 : C_1 7 0 = some (.inl (ca 0, 35, .inl sn.1)) := by rw [← hC_1]; exact (pw_up_ne _ _ (by decide)).trans h70
  have h60 : C_1 6 0 = some (.inl (ca 0, 35, .inl (va_cpy sn.1 x.2.2.1 0 0 35))) := by rw [← hC_1]; exact pw_up_self _ _ _ _
  have hfr : ∀ x y, (x < 3 ∨ 7 < x) → C_1 x y = C x y := fun x y h => by rw [← hC_1]; exact (pw_up_ne _ _ (by omega)).trans (hfr x y h)
  refine lv_aload_n hx hb d_O_goBack_15 rfl (lv_at hl 0 rfl) ?_
  refine lv_aload_n hx hb d_O_goBack_16 rfl (lv_at hl 0 rfl) ?_
  refine pw_get (Cn := "GraphWriter$Out") (T := F_O) (N := 11) hx hb hts in_O hown hK hw 3 0 rfl h30 rfl 8 (by decide) (hts _ wd_100) (fun _ h9 => h9) rfl d_O_goBack_17 ?_
  refine pw_put (Cn := "GraphWriter$Out") (T := F_O) (N := 11) (v := .int sn.2.1) (ty := .int) hx hb hts in_O ft_O to_O nm_O hown hK hw 3 0 (by decide) rfl h30 rfl 3 (by decide) (hts _ wd_91) (fun _ h9 => h9) rfl (by decide +kernel) rfl rfl (Nat.le_of_ble_eq_true rfl) d_O_goBack_20 (fun H locs hw => ?_)
  have hw : pw_H D cls9 A s.heap ad C ad (pw_up C_1 3 0 (some (.inr (1, [.ref (ad 4 0), .ref (ad 5 0), .ref (ad 6 0), .int sn.2.1, .int (nI wn), .int x.2.2.2, .int x.2.1, .ref (ad 7 0), .int sn.2.1, .int sn.2.2.1, .int sn.2.2.2])))) H locs := hw
  generalize hC_2 : pw_up C_1 3 0 (some (.inr (1, [.ref (ad 4 0), .ref (ad 5 0), .ref (ad 6 0), .int sn.2.1, .int (nI wn), .int x.2.2.2, .int x.2.1, .ref (ad 7 0), .int sn.2.1, .int sn.2.2.1, .int sn.2.2.2]))) = C_2 at hw
  have h40 : C_2 4 0 = some (.inl (ca 2, 1400, .inl by0)) := by rw [← hC_2]; exact (pw_up_ne _ _ (by decide)).trans h40
  have h50 : C_2 5 0 = some (.inl (ca 2, 255, .inl wt)) := by rw [← hC_2]; exact (pw_up_ne _ _ (by decide)).trans h50
  have h60 : C_2 6 0 = some (.inl (ca 0, 35, .inl (va_cpy sn.1 x.2.2.1 0 0 35))) := by rw [← hC_2]; exact (pw_up_ne _ _ (by decide)).trans h60
  have h70 : C_2 7 0 = some (.inl (ca 0, 35, .inl sn.1)) := by rw [← hC_2]; exact (pw_up_ne _ _ (by decide)).trans h70
  have h30 : C_2 3 0 = some (.inr (1, [.ref (ad 4 0), .ref (ad 5 0), .ref (ad 6 0), .int sn.2.1, .int (nI wn), .int x.2.2.2, .int x.2.1, .ref (ad 7 0), .int sn.2.1, .int sn.2.2.1, .int sn.2.2.2])) := by rw [← hC_2]; exact pw_up_self _ _ _ _
  have hfr : ∀ x y, (x < 3 ∨ 7 < x) → C_2 x y = C x y := fun x y h => by rw [← hC_2]; exact (pw_up_ne _ _ (by omega)).trans (hfr x y h)
  refine lv_aload_n hx hb d_O_goBack_23 rfl (lv_at hl 0 rfl) ?_
  refine lv_aload_n hx hb d_O_goBack_24 rfl (lv_at hl 0 rfl) ?_
  refine pw_get (Cn := "GraphWriter$Out") (T := F_O) (N := 11) hx hb hts in_O hown hK hw 3 0 rfl h30 rfl 9 (by decide) (hts _ wd_101) (fun _ h9 => h9) rfl d_O_goBack_25 ?_
  refine pw_put (Cn := "GraphWriter$Out") (T := F_O) (N := 11) (v := .int sn.2.2.1) (ty := .int) hx hb hts in_O ft_O to_O nm_O hown hK hw 3 0 (by decide) rfl h30 rfl 4 (by decide) (hts _ wd_93) (fun _ h9 => h9) rfl (by decide +kernel) rfl rfl (Nat.le_of_ble_eq_true rfl) d_O_goBack_28 (fun H locs hw => ?_)
  have hw : pw_H D cls9 A s.heap ad C ad (pw_up C_2 3 0 (some (.inr (1, [.ref (ad 4 0), .ref (ad 5 0), .ref (ad 6 0), .int sn.2.1, .int sn.2.2.1, .int x.2.2.2, .int x.2.1, .ref (ad 7 0), .int sn.2.1, .int sn.2.2.1, .int sn.2.2.2])))) H locs := hw
  generalize hC_3 : pw_up C_2 3 0 (some (.inr (1, [.ref (ad 4 0), .ref (ad 5 0), .ref (ad 6 0), .int sn.2.1, .int sn.2.2.1, .int x.2.2.2, .int x.2.1, .ref (ad 7 0), .int sn.2.1, .int sn.2.2.1, .int sn.2.2.2]))) = C_3 at hw
  have h40 : C_3 4 0 = some (.inl (ca 2, 1400, .inl by0)) := by rw [← hC_3]; exact (pw_up_ne _ _ (by decide)).trans h40
  have h50 : C_3 5 0 = some (.inl (ca 2, 255, .inl wt)) := by rw [← hC_3]; exact (pw_up_ne _ _ (by decide)).trans h50
  have h60 : C_3 6 0 = some (.inl (ca 0, 35, .inl (va_cpy sn.1 x.2.2.1 0 0 35))) := by rw [← hC_3]; exact (pw_up_ne _ _ (by decide)).trans h60
  have h70 : C_3 7 0 = some (.inl (ca 0, 35, .inl sn.1)) := by rw [← hC_3]; exact (pw_up_ne _ _ (by decide)).trans h70
  have h30 : C_3 3 0 = some (.inr (1, [.ref (ad 4 0), .ref (ad 5 0), .ref (ad 6 0), .int sn.2.1, .int sn.2.2.1, .int x.2.2.2, .int x.2.1, .ref (ad 7 0), .int sn.2.1, .int sn.2.2.1, .int sn.2.2.2])) := by rw [← hC_3]; exact pw_up_self _ _ _ _
  have hfr : ∀ x y, (x < 3 ∨ 7 < x) → C_3 x y = C x y := fun x y h => by rw [← hC_3]; exact (pw_up_ne _ _ (by omega)).trans (hfr x y h)
  refine lv_aload_n hx hb d_O_goBack_31 rfl (lv_at hl 0 rfl) ?_
  refine lv_aload_n hx hb d_O_goBack_32 rfl (lv_at hl 0 rfl) ?_
  refine pw_get (Cn := "GraphWriter$Out") (T := F_O) (N := 11) hx hb hts in_O hown hK hw 3 0 rfl h30 rfl 10 (by decide) (hts _ wd_102) (fun _ h9 => h9) rfl d_O_goBack_33 ?_
  refine pw_put (Cn := "GraphWriter$Out") (T := F_O) (N := 11) (v := .int sn.2.2.2) (ty := .int) hx hb hts in_O ft_O to_O nm_O hown hK hw 3 0 (by decide) rfl h30 rfl 5 (by decide) (hts _ wd_95) (fun _ h9 => h9) rfl (by decide +kernel) rfl rfl (Nat.le_of_ble_eq_true rfl) d_O_goBack_36 (fun H locs hw => ?_)
  have hw : pw_H D cls9 A s.heap ad C ad (pw_up C_3 3 0 (some (.inr (1, [.ref (ad 4 0), .ref (ad 5 0), .ref (ad 6 0), .int sn.2.1, .int sn.2.2.1, .int sn.2.2.2, .int x.2.1, .ref (ad 7 0), .int sn.2.1, .int sn.2.2.1, .int sn.2.2.2])))) H locs := hw
  generalize hC_4 : pw_up C_3 3 0 (some (.inr (1, [.ref (ad 4 0), .ref (ad 5 0), .ref (ad 6 0), .int sn.2.1, .int sn.2.2.1, .int sn.2.2.2, .int x.2.1, .ref (ad 7 0), .int sn.2.1, .int sn.2.2.1, .int sn.2.2.2]))) = C_4 at hw
  have h40 : C_4 4 0 = some (.inl (ca 2, 1400, .inl by0)) := by rw [← hC_4]; exact (pw_up_ne _ _ (by decide)).trans h40
  have h50 : C_4 5 0 = some (.inl (ca 2, 255, .inl wt)) := by rw [← hC_4]; exact (pw_up_ne _ _ (by decide)).trans h50
  have h60 : C_4 6 0 = some (.inl (ca 0, 35, .inl (va_cpy sn.1 x.2.2.1 0 0 35))) := by rw [← hC_4]; exact (pw_up_ne _ _ (by decide)).trans h60
  have h70 : C_4 7 0 = some (.inl (ca 0, 35, .inl sn.1)) := by rw [← hC_4]; exact (pw_up_ne _ _ (by decide)).trans h70
  have h30 : C_4 3 0 = some (.inr (1, [.ref (ad 4 0), .ref (ad 5 0), .ref (ad 6 0), .int sn.2.1, .int sn.2.2.1, .int sn.2.2.2, .int x.2.1, .ref (ad 7 0), .int sn.2.1, .int sn.2.2.1, .int sn.2.2.2])) := by rw [← hC_4]; exact pw_up_self _ _ _ _
  have hfr : ∀ x y, (x < 3 ∨ 7 < x) → C_4 x y = C x y := fun x y h => by rw [← hC_4]; exact (pw_up_ne _ _ (by omega)).trans (hfr x y h)
  refine pw_vret hx hb hr hlocks hw ⟨rfl, ⟨by0, wt, ?_, h40, h50, h60, h70, ?_, ?_, h4, hw0, hwt⟩, hfr⟩ d_O_goBack_39
  · have e1 : (es_back x l0 sn).1.length = l0 := by simp only [es_back, List.length_take]; omega
    rw [e1, ← h1, ← h2]; exact h30
  · simp only [es_back, List.length_take]; omega
  · intro i hi
    simp only [es_back, List.length_take] at hi
    rw [hby i (by omega)]; simp [es_back, List.getD, List.getElem?_take, show i < l0 by omega]
set_option maxHeartbeats 4000000 in
set_option maxRecDepth 100000 in
/-- O_hasRoomToWait -/
theorem k_O_hasRoomToWait {l : Launch} {D : va_G} {ca : Nat → ClassId} {Z : (Nat → Prop) → State → Prop} (hZ : pw_Zok Z) {ad : pw_A} {C : pw_C} {x : ES} {w0 : List Int32} {wn : Nat} {sn : SN} (hO : os_x ca ad C x w0 wn sn) {k : Nat} (hk : k ≤ 8) : gc_Con l y_O_hasRoomToWait c_O_hasRoomToWait ({ frames := 0, cells := 0, slots := 0, locals := 0 }) D ca Z [.ref (ad 3 0), .int (nI k)] ad C (pw_pi (fun r ad' C' => (ad' = ad ∧ C' = C) ∧ r = if x.1.length + wn + k + (if 255 ≤ wn + k then 2 else 0) ≤ 1400 then 1 else 0)) 0 0 := by
  have hO0 := hO
  obtain ⟨by0, wt, h30, h40, h50, h60, h70, hlen, hby, hwn, hw0, hwt⟩ := hO
  refine pw_ofW (cc := b_O_hasRoomToWait) (maxL := 3) (ret := (some FieldType.boolean)) (by decide) rfl (Nat.le_of_ble_eq_true rfl) ?_
  intro p e s m args below meth c A ls hB hA hw hK hz hl
  obtain ⟨hx, hb, hr, hml, hts0, hlocks, hown, hnm⟩ := hB
  have hts := wd_hts hts0
  have hown : s.vm.findClass "GraphWriter$Out" = some m.cls := hown
  have hl : lv_has ls 3 [(0, .ref (ad 3 0)), (1, .int (nI k))] := hl
  have hfr : os_fr C C := fun _ _ _ => rfl
  refine lv_aload_n hx hb d_O_hasRoomToWait_0 rfl (lv_at hl 0 rfl) ?_
  refine pw_get (Cn := "GraphWriter$Out") (T := F_O) (N := 11) hx hb hts in_O hown hK hw 3 0 rfl h30 rfl 4 (by decide) (hts _ wd_93) (fun _ h9 => h9) rfl d_O_hasRoomToWait_1 ?_
  refine lv_iload_n hx hb d_O_hasRoomToWait_4 rfl (lv_at hl 1 rfl) ?_
  refine lv_iadd hx hb d_O_hasRoomToWait_5 ?_
  rw [nI_add]
  refine lv_sipush (v := 255) hx hb d_O_hasRoomToWait_6 (by decide) ?_
  refine lv_icmp_lt (tgt := 16) hx hb d_O_hasRoomToWait_9 (by decide) (fun c_1 => ?_) (fun c_1 => ?_)
  · have h255 : ¬ 255 ≤ wn + k := by
      have := nI_ltI (a := wn + k) (b := 255) (by omega) (by decide)
      first | exact Nat.not_le.mpr (this.mp c_1) | exact Nat.not_lt.mp (fun z => c_1 (this.mpr z))
    refine lv_iconst (v := 0) hx hb d_O_hasRoomToWait_16 (by decide) ?_
    refine lv_istore_n (lv' := [(2, .int 0), (0, .ref (ad 3 0)), (1, .int (nI k))]) hx hb d_O_hasRoomToWait_17 rfl hl (by decide) rfl (fun ls hl => ?_)
    refine lv_aload_n hx hb d_O_hasRoomToWait_18 rfl (lv_at hl 1 rfl) ?_
    refine pw_get (Cn := "GraphWriter$Out") (T := F_O) (N := 11) hx hb hts in_O hown hK hw 3 0 rfl h30 rfl 3 (by decide) (hts _ wd_91) (fun _ h9 => h9) rfl d_O_hasRoomToWait_19 ?_
    refine lv_aload_n hx hb d_O_hasRoomToWait_22 rfl (lv_at hl 1 rfl) ?_
    refine pw_get (Cn := "GraphWriter$Out") (T := F_O) (N := 11) hx hb hts in_O hown hK hw 3 0 rfl h30 rfl 4 (by decide) (hts _ wd_93) (fun _ h9 => h9) rfl d_O_hasRoomToWait_23 ?_
    refine lv_iadd hx hb d_O_hasRoomToWait_26 ?_
    rw [nI_add]
    refine lv_iload_n hx hb d_O_hasRoomToWait_27 rfl (lv_at hl 2 rfl) ?_
    refine lv_iadd hx hb d_O_hasRoomToWait_28 ?_
    rw [nI_add]
    refine lv_iload_n hx hb d_O_hasRoomToWait_29 rfl (lv_at hl 0 rfl) ?_
    refine lv_iadd hx hb d_O_hasRoomToWait_30 ?_
    rw [show (0 : Int32) = nI 0 from rfl, nI_add]
    refine lv_sipush (v := 1400) hx hb d_O_hasRoomToWait_31 (by decide) ?_
    refine lv_icmp_gt (tgt := 41) hx hb d_O_hasRoomToWait_34 (by decide) (fun c_2 => ?_) (fun c_2 => ?_)
    · have hq := nI_ltI (a := 1400) (b := x.1.length + wn + k + 0) (by decide) (by omega)
      refine lv_iconst (v := 0) hx hb d_O_hasRoomToWait_41 (by decide) ?_
      exact pw_zret hx hb hr hlocks hw rfl ⟨⟨rfl, rfl⟩, by rw [if_neg h255]; exact (if_neg (by have := hq.mp c_2; omega)).symm⟩ d_O_hasRoomToWait_42
    · have hq := nI_ltI (a := 1400) (b := x.1.length + wn + k + 0) (by decide) (by omega)
      refine lv_iconst (v := 1) hx hb d_O_hasRoomToWait_37 (by decide) ?_
      refine lv_goto (tgt := 42) hx hb d_O_hasRoomToWait_38 (by decide) ?_
      exact pw_zret hx hb hr hlocks hw rfl ⟨⟨rfl, rfl⟩, by rw [if_neg h255]; exact (if_pos (by have := mt hq.mpr c_2; omega)).symm⟩ d_O_hasRoomToWait_42
  · have h255 : 255 ≤ wn + k := by
      have := nI_ltI (a := wn + k) (b := 255) (by omega) (by decide)
      first | exact Nat.not_le.mpr (this.mp c_1) | exact Nat.not_lt.mp (fun z => c_1 (this.mpr z))
    refine lv_iconst (v := 2) hx hb d_O_hasRoomToWait_12 (by decide) ?_
    refine lv_goto (tgt := 17) hx hb d_O_hasRoomToWait_13 (by decide) ?_
    refine lv_istore_n (lv' := [(2, .int 2), (0, .ref (ad 3 0)), (1, .int (nI k))]) hx hb d_O_hasRoomToWait_17 rfl hl (by decide) rfl (fun ls hl => ?_)
    refine lv_aload_n hx hb d_O_hasRoomToWait_18 rfl (lv_at hl 1 rfl) ?_
    refine pw_get (Cn := "GraphWriter$Out") (T := F_O) (N := 11) hx hb hts in_O hown hK hw 3 0 rfl h30 rfl 3 (by decide) (hts _ wd_91) (fun _ h9 => h9) rfl d_O_hasRoomToWait_19 ?_
    refine lv_aload_n hx hb d_O_hasRoomToWait_22 rfl (lv_at hl 1 rfl) ?_
    refine pw_get (Cn := "GraphWriter$Out") (T := F_O) (N := 11) hx hb hts in_O hown hK hw 3 0 rfl h30 rfl 4 (by decide) (hts _ wd_93) (fun _ h9 => h9) rfl d_O_hasRoomToWait_23 ?_
    refine lv_iadd hx hb d_O_hasRoomToWait_26 ?_
    rw [nI_add]
    refine lv_iload_n hx hb d_O_hasRoomToWait_27 rfl (lv_at hl 2 rfl) ?_
    refine lv_iadd hx hb d_O_hasRoomToWait_28 ?_
    rw [nI_add]
    refine lv_iload_n hx hb d_O_hasRoomToWait_29 rfl (lv_at hl 0 rfl) ?_
    refine lv_iadd hx hb d_O_hasRoomToWait_30 ?_
    rw [show (2 : Int32) = nI 2 from rfl, nI_add]
    refine lv_sipush (v := 1400) hx hb d_O_hasRoomToWait_31 (by decide) ?_
    refine lv_icmp_gt (tgt := 41) hx hb d_O_hasRoomToWait_34 (by decide) (fun c_3 => ?_) (fun c_3 => ?_)
    · have hq := nI_ltI (a := 1400) (b := x.1.length + wn + k + 2) (by decide) (by omega)
      refine lv_iconst (v := 0) hx hb d_O_hasRoomToWait_41 (by decide) ?_
      exact pw_zret hx hb hr hlocks hw rfl ⟨⟨rfl, rfl⟩, by rw [if_pos h255]; exact (if_neg (by have := hq.mp c_3; omega)).symm⟩ d_O_hasRoomToWait_42
    · have hq := nI_ltI (a := 1400) (b := x.1.length + wn + k + 2) (by decide) (by omega)
      refine lv_iconst (v := 1) hx hb d_O_hasRoomToWait_37 (by decide) ?_
      refine lv_goto (tgt := 42) hx hb d_O_hasRoomToWait_38 (by decide) ?_
      exact pw_zret hx hb hr hlocks hw rfl ⟨⟨rfl, rfl⟩, by rw [if_pos h255]; exact (if_pos (by have := mt hq.mpr c_3; omega)).symm⟩ d_O_hasRoomToWait_42
set_option maxHeartbeats 4000000 in
set_option maxRecDepth 100000 in
/-- O_flush -/
theorem k_O_flush {l : Launch} {D : va_G} {ca : Nat → ClassId} {Z : (Nat → Prop) → State → Prop} (hZ : pw_Zok Z) {ad : pw_A} {C : pw_C} {x : ES} {w0 : List Int32} {wn : Nat} {sn : SN} (hO : os_x ca ad C x w0 wn sn) : gc_Con l y_O_flush c_O_flush ({ frames := 1, cells := 0, slots := 0, locals := 24 }) D ca Z [.ref (ad 3 0)] ad C (pw_pv (fun ad' C' => ad' = ad ∧ os_x ca ad C' (es_flush x (w0.take wn)) w0 0 sn ∧ os_fr C C')) 0 0 := by
  have hO0 := hO
  obtain ⟨by0, wt, h30, h40, h50, h60, h70, hlen, hby, hwn, hw0, hwt⟩ := hO
  refine pw_ofW (cc := b_O_flush) (maxL := 2) (ret := none) (by decide) rfl (Nat.le_of_ble_eq_true rfl) ?_
  intro p e s m args below meth c A ls hB hA hw hK hz hl
  obtain ⟨hx, hb, hr, hml, hts0, hlocks, hown, hnm⟩ := hB
  have hts := wd_hts hts0
  have hown : s.vm.findClass "GraphWriter$Out" = some m.cls := hown
  have hl : lv_has ls 2 [(0, .ref (ad 3 0))] := hl
  have hfr : os_fr C C := fun _ _ _ => rfl
  refine lv_aload_n hx hb d_O_flush_0 rfl (lv_at hl 0 rfl) ?_
  refine pw_get (Cn := "GraphWriter$Out") (T := F_O) (N := 11) hx hb hts in_O hown hK hw 3 0 rfl h30 rfl 4 (by decide) (hts _ wd_93) (fun _ h9 => h9) rfl d_O_flush_1 ?_
  refine lv_if_ne (tgt := 8) hx hb d_O_flush_4 (by decide) (fun c_1 => ?_) (fun c_1 => ?_)
  · have hwn0 : wn ≠ 0 := fun z => c_1 (by rw [z]; rfl)
    have hne : w0.take wn ≠ [] := by
      intro z
      have h9 : (w0.take wn).length = 0 := by rw [z]; rfl
      rw [List.length_take] at h9; omega
    have hlt : (w0.take wn).length = wn := by rw [List.length_take]; omega
    refine lv_aload_n hx hb d_O_flush_8 rfl (lv_at hl 0 rfl) ?_
    refine lv_ldc2 (v := 119) hx hb hown (hts _ wd_584) d_O_flush_9 ?_
    refine lv_iconst (v := 1) hx hb d_O_flush_12 (by decide) ?_
    refine pw_callv (va_runV (As := [.long 119, .int 1]) (rest := []) ⟨hx, hb, hml, hown, hts0⟩ (k_O_put hO0 119 (w := 1) (by decide) _) (cwV 2 hts0 (wd_V wd_139 wd_585 wd_137 wd_138 wd_54) rfl rfl rfl (by decide +kernel) ⟨Nat.le_of_ble_eq_true rfl, Nat.le_of_ble_eq_true rfl⟩) (pw_preV hZ hw hA hK hz rfl h30 rfl) rfl rfl hl.1 rfl (lv_room (Nat.le_of_ble_eq_true rfl)) d_O_flush_13 ⟨Nat.le_of_ble_eq_true rfl, Nat.le_of_ble_eq_true rfl⟩) hw hA (fun ad_2 C_3 H locs hp hw => ?_)
    obtain ⟨hae, hO, hf1⟩ := hp
    rw [hae] at hw; clear hae
    have hfr : os_fr C C_3 := fun x y h => (hf1 x y h).trans (hfr x y h)
    obtain ⟨x_5, hx_5⟩ : ∃ z, z = es_put x 119 1 := ⟨_, rfl⟩
    rw [← hx_5] at hO
    have hO0 := hO
    obtain ⟨by0, wt, h30, h40, h50, h60, h70, hlen, hby, hwn, hw0, hwt⟩ := hO
    refine lv_aload_n hx hb d_O_flush_16 rfl (lv_at hl 0 rfl) ?_
    refine lv_aload_n hx hb d_O_flush_17 rfl (lv_at hl 0 rfl) ?_
    refine pw_get (Cn := "GraphWriter$Out") (T := F_O) (N := 11) hx hb hts in_O hown hK hw 3 0 rfl h30 rfl 4 (by decide) (hts _ wd_93) (fun _ h9 => h9) rfl d_O_flush_18 ?_
    refine lv_i2l hx hb d_O_flush_21 rfl ?_
    refine lv_iconst (v := 1) hx hb d_O_flush_22 (by decide) ?_
    refine pw_callv (va_runV (As := [.long ((nI wn).toInt64), .int 1]) (rest := []) ⟨hx, hb, hml, hown, hts0⟩ (k_O_put hO0 ((nI wn).toInt64) (w := 1) (by decide) _) (cwV 2 hts0 (wd_V wd_139 wd_585 wd_137 wd_138 wd_54) rfl rfl rfl (by decide +kernel) ⟨Nat.le_of_ble_eq_true rfl, Nat.le_of_ble_eq_true rfl⟩) (pw_preV hZ hw hA hK hz rfl h30 rfl) rfl rfl hl.1 rfl (lv_room (Nat.le_of_ble_eq_true rfl)) d_O_flush_23 ⟨Nat.le_of_ble_eq_true rfl, Nat.le_of_ble_eq_true rfl⟩) hw hA (fun ad_6 C_7 H locs hp hw => ?_)
    obtain ⟨hae, hO, hf1⟩ := hp
    rw [hae] at hw; clear hae
    have hfr : os_fr C C_7 := fun x y h => (hf1 x y h).trans (hfr x y h)
    obtain ⟨x_9, hx_9⟩ : ∃ z, z = es_put x_5 ((nI wn).toInt64) 1 := ⟨_, rfl⟩
    rw [← hx_9] at hO
    have hO0 := hO
    obtain ⟨by0, wt, h30, h40, h50, h60, h70, hlen, hby, hwn, hw0, hwt⟩ := hO
    refine lv_iconst (v := 0) hx hb d_O_flush_26 (by decide) ?_
    refine lv_istore_n (lv' := [(1, .int 0), (0, .ref (ad 3 0))]) hx hb d_O_flush_27 rfl hl (by decide) rfl (fun ls hl => ?_)
    obtain ⟨q0, hq0⟩ : ∃ z, z = w0.take wn := ⟨_, rfl⟩
    have hx9 : x_9 = es_put (es_put x 119 1) (nI wn).toInt64 1 := by rw [hx_9, hx_5]
    have key : ∀ (r j : Nat), j + r = wn → ∀ (x1 : ES) (C1 : pw_C) (H : Heap) (locs : List Loc) (ls : Array Slot), x1 = (q0.take j).foldl (fun x b => es_put x b.toInt64 1) x_9 → os_x ca ad C1 x1 w0 wn sn → os_fr C C1 → pw_H D cls9 A s.heap ad C ad C1 H locs → lv_has ls 2 [(1, .int (nI j)), (0, .ref (ad 3 0))] → W p l e ({ frames := 1, cells := 0, slots := 0, locals := 24 }) s m args below meth c H locs 0 0 (MQ below (pw_Q D cls9 ad C (pw_pv (fun ad' C' => ad' = ad ∧ os_x ca ad C' (es_flush x (w0.take wn)) w0 0 sn ∧ os_fr C C')) A) args s 0 0 A) (F0 m 28 ls []) := by
      intro r
      induction r with
      | zero =>
        intro j hj x1 C1 H locs ls hx1 hO hfr hw hl
        have hO0 := hO
        obtain ⟨by0, wt, h30, h40, h50, h60, h70, hlen, hby, hwn, hw0, hwt⟩ := hO
        refine lv_iload_n hx hb d_O_flush_28 rfl (lv_at hl 0 rfl) ?_
        refine lv_aload_n hx hb d_O_flush_29 rfl (lv_at hl 1 rfl) ?_
        refine pw_get (Cn := "GraphWriter$Out") (T := F_O) (N := 11) hx hb hts in_O hown hK hw 3 0 rfl h30 rfl 4 (by decide) (hts _ wd_93) (fun _ h9 => h9) rfl d_O_flush_30 ?_
        refine lv_icmp_ge (tgt := 54) hx hb d_O_flush_33 (by decide) (fun c_10 => ?_) (fun c_10 => ?_)
        · skip
          refine lv_aload_n hx hb d_O_flush_54 rfl (lv_at hl 1 rfl) ?_
          refine lv_iconst (v := 0) hx hb d_O_flush_55 (by decide) ?_
          refine pw_put (Cn := "GraphWriter$Out") (T := F_O) (N := 11) (v := .int 0) (ty := .int) hx hb hts in_O ft_O to_O nm_O hown hK hw 3 0 (by decide) rfl h30 rfl 4 (by decide) (hts _ wd_93) (fun _ h9 => h9) rfl (by decide +kernel) rfl rfl (Nat.le_of_ble_eq_true rfl) d_O_flush_56 (fun H locs hw => ?_)
          have hw : pw_H D cls9 A s.heap ad C ad (pw_up C1 3 0 (some (.inr (1, [.ref (ad 4 0), .ref (ad 5 0), .ref (ad 6 0), .int (nI x1.1.length), .int 0, .int x1.2.2.2, .int x1.2.1, .ref (ad 7 0), .int sn.2.1, .int sn.2.2.1, .int sn.2.2.2])))) H locs := hw
          generalize hC_11 : pw_up C1 3 0 (some (.inr (1, [.ref (ad 4 0), .ref (ad 5 0), .ref (ad 6 0), .int (nI x1.1.length), .int 0, .int x1.2.2.2, .int x1.2.1, .ref (ad 7 0), .int sn.2.1, .int sn.2.2.1, .int sn.2.2.2]))) = C_11 at hw
          have h40 : C_11 4 0 = some (.inl (ca 2, 1400, .inl by0)) := by rw [← hC_11]; exact (pw_up_ne _ _ (by decide)).trans h40
          have h50 : C_11 5 0 = some (.inl (ca 2, 255, .inl wt)) := by rw [← hC_11]; exact (pw_up_ne _ _ (by decide)).trans h50
          have h60 : C_11 6 0 = some (.inl (ca 0, 35, .inl x1.2.2.1)) := by rw [← hC_11]; exact (pw_up_ne _ _ (by decide)).trans h60
          have h70 : C_11 7 0 = some (.inl (ca 0, 35, .inl sn.1)) := by rw [← hC_11]; exact (pw_up_ne _ _ (by decide)).trans h70
          have h30 : C_11 3 0 = some (.inr (1, [.ref (ad 4 0), .ref (ad 5 0), .ref (ad 6 0), .int (nI x1.1.length), .int 0, .int x1.2.2.2, .int x1.2.1, .ref (ad 7 0), .int sn.2.1, .int sn.2.2.1, .int sn.2.2.2])) := by rw [← hC_11]; exact pw_up_self _ _ _ _
          have hfr : ∀ x y, (x < 3 ∨ 7 < x) → C_11 x y = C x y := fun x y h => by rw [← hC_11]; exact (pw_up_ne _ _ (by omega)).trans (hfr x y h)
          have e9 : es_flush x (w0.take wn) = x1 := by rw [hx1, ← hq0, es_flush, if_neg (by rw [hq0]; exact hne), hx9, List.take_of_length_le (by rw [hq0, hlt]; omega), hq0, hlt]
          refine pw_vret hx hb hr hlocks hw ⟨rfl, ?_, hfr⟩ d_O_flush_59
          rw [e9]; exact ⟨by0, wt, h30, h40, h50, h60, h70, hlen, hby, by omega, hw0, hwt⟩
        · exact absurd (nI_le (by omega) (by omega)) c_10
      | succ r ih =>
        intro j hj x1 C1 H locs ls hx1 hO hfr hw hl
        have hO0 := hO
        obtain ⟨by0, wt, h30, h40, h50, h60, h70, hlen, hby, hwn, hw0, hwt⟩ := hO
        refine lv_iload_n hx hb d_O_flush_28 rfl (lv_at hl 0 rfl) ?_
        refine lv_aload_n hx hb d_O_flush_29 rfl (lv_at hl 1 rfl) ?_
        refine pw_get (Cn := "GraphWriter$Out") (T := F_O) (N := 11) hx hb hts in_O hown hK hw 3 0 rfl h30 rfl 4 (by decide) (hts _ wd_93) (fun _ h9 => h9) rfl d_O_flush_30 ?_
        refine lv_icmp_ge (tgt := 54) hx hb d_O_flush_33 (by decide) (fun c_12 => ?_) (fun c_12 => ?_)
        · exact absurd c_12 (nI_ge (by omega) (by omega))
        · skip
          refine lv_aload_n hx hb d_O_flush_36 rfl (lv_at hl 1 rfl) ?_
          refine lv_aload_n hx hb d_O_flush_37 rfl (lv_at hl 1 rfl) ?_
          refine pw_get (Cn := "GraphWriter$Out") (T := F_O) (N := 11) hx hb hts in_O hown hK hw 3 0 rfl h30 rfl 1 (by decide) (hts _ wd_88) (fun _ h9 => h9) rfl d_O_flush_38 ?_
          refine lv_iload_n hx hb d_O_flush_41 rfl (lv_at hl 0 rfl) ?_
          refine pw_bald hx hb hK hw 5 0 rfl 2 h50 rfl j rfl (by omega) (by omega) d_O_flush_42 ?_
          refine lv_i2l hx hb d_O_flush_43 rfl ?_
          refine lv_iconst (v := 1) hx hb d_O_flush_44 (by decide) ?_
          have hwj : wt j = q0[j]'(by rw [hq0, hlt]; omega) := by
            rw [hwt j (by omega)]; simp [hq0, List.getD, show j < w0.length by omega]
          refine pw_callv (va_runV (As := [.long ((wt j).toInt64), .int 1]) (rest := []) ⟨hx, hb, hml, hown, hts0⟩ (k_O_put hO0 ((wt j).toInt64) (w := 1) (by decide) _) (cwV 2 hts0 (wd_V wd_139 wd_585 wd_137 wd_138 wd_54) rfl rfl rfl (by decide +kernel) ⟨Nat.le_of_ble_eq_true rfl, Nat.le_of_ble_eq_true rfl⟩) (pw_preV hZ hw hA hK hz rfl h30 rfl) rfl rfl hl.1 rfl (lv_room (Nat.le_of_ble_eq_true rfl)) d_O_flush_45 ⟨Nat.le_of_ble_eq_true rfl, Nat.le_of_ble_eq_true rfl⟩) hw hA (fun ad_13 C_14 H locs hp hw => ?_)
          obtain ⟨hae, hO, hf1⟩ := hp
          rw [hae] at hw; clear hae
          have hfr : os_fr C C_14 := fun x y h => (hf1 x y h).trans (hfr x y h)
          obtain ⟨x_16, hx_16⟩ : ∃ z, z = es_put x1 ((wt j).toInt64) 1 := ⟨_, rfl⟩
          rw [← hx_16] at hO
          have hO0 := hO
          obtain ⟨by0, wt, h30, h40, h50, h60, h70, hlen, hby, hwn, hw0, hwt⟩ := hO
          refine lv_iinc (v := (nI j) + 1) (lv' := [(1, .int ((nI j) + 1)), (0, .ref (ad 3 0))]) hx hb d_O_flush_48 hl (k := 0) rfl rfl (by decide) rfl (fun ls hl => ?_)
          refine lv_goto (tgt := 28) hx hb d_O_flush_51 (by decide) ?_
          rw [nI_1] at hl
          refine ih (j + 1) (by omega) _ _ _ _ _ ?_ hO0 hfr hw hl
          have hjl : j < q0.length := by rw [hq0, hlt]; omega
          rw [hx_16, hx1, List.take_add_one, List.getElem?_eq_getElem hjl, List.foldl_append]
          simp only [Option.toList_some, List.foldl_cons, List.foldl_nil]
          rw [hwj]
    exact key wn 0 (by omega) x_9 _ _ _ _ (by rw [List.take_zero]; rfl) hO0 hfr hw hl
  · have hwn0 : wn = 0 := (nI_eq (by omega) (by decide)).mp c_1
    subst hwn0
    have e9 : es_flush x (w0.take 0) = x := by rw [List.take_zero]; exact if_pos rfl
    refine pw_vret hx hb hr hlocks hw ⟨rfl, ?_, hfr⟩ d_O_flush_7
    rw [e9]; exact hO0
def es_ans (x : ES) : Int32 := if x.2.1 = 0 then nI x.1.length else x.2.1
def es_set (x : ES) (l0 : Nat) (sn : SN) : ES := es_oc (if x.2.1 = -2 then es_back x l0 sn else if x.2.1 = -3 then es_forget x else x) 0
set_option maxHeartbeats 4000000 in
set_option maxRecDepth 100000 in
/-- O_settle -/
theorem k_O_settle {l : Launch} {D : va_G} {ca : Nat → ClassId} {Z : (Nat → Prop) → State → Prop} (hZ : pw_Zok Z) {ad : pw_A} {C : pw_C} {x : ES} {w0 : List Int32} {wn : Nat} {sn : SN} (hO : os_x ca ad C x w0 wn sn) {l0 wz : Nat} (h1 : sn.2.1 = nI l0) (h2 : sn.2.2.1 = nI wz) (h3 : l0 ≤ x.1.length) (h4 : wz ≤ w0.length) : gc_Con l y_O_settle c_O_settle ({ frames := 2, cells := 0, slots := 0, locals := 80 }) D ca Z [.ref (ad 3 0)] ad C (pw_pi (fun r ad' C' => (ad' = ad ∧ os_x ca ad C' (es_set x l0 sn) w0 (if x.2.1 = -2 then wz else wn) sn ∧ os_fr C C') ∧ r = es_ans x)) 0 0 := by
  have hO0 := hO
  obtain ⟨by0, wt, h30, h40, h50, h60, h70, hlen, hby, hwn, hw0, hwt⟩ := hO
  refine pw_ofW (cc := b_O_settle) (maxL := 2) (ret := (some FieldType.int)) (by decide) rfl (Nat.le_of_ble_eq_true rfl) ?_
  intro p e s m args below meth c A ls hB hA hw hK hz hl
  obtain ⟨hx, hb, hr, hml, hts0, hlocks, hown, hnm⟩ := hB
  have hts := wd_hts hts0
  have hown : s.vm.findClass "GraphWriter$Out" = some m.cls := hown
  have hl : lv_has ls 2 [(0, .ref (ad 3 0))] := hl
  have hfr : os_fr C C := fun _ _ _ => rfl
  refine lv_aload_n hx hb d_O_settle_0 rfl (lv_at hl 0 rfl) ?_
  refine pw_get (Cn := "GraphWriter$Out") (T := F_O) (N := 11) hx hb hts in_O hown hK hw 3 0 rfl h30 rfl 6 (by decide) (hts _ wd_97) (fun _ h9 => h9) rfl d_O_settle_1 ?_
  refine lv_if_ne (tgt := 14) hx hb d_O_settle_4 (by decide) (fun c_1 => ?_) (fun c_1 => ?_)
  · skip
    refine lv_aload_n hx hb d_O_settle_14 rfl (lv_at hl 0 rfl) ?_
    refine pw_get (Cn := "GraphWriter$Out") (T := F_O) (N := 11) hx hb hts in_O hown hK hw 3 0 rfl h30 rfl 6 (by decide) (hts _ wd_97) (fun _ h9 => h9) rfl d_O_settle_15 ?_
    refine lv_istore_n (lv' := [(1, .int x.2.1), (0, .ref (ad 3 0))]) hx hb d_O_settle_18 rfl hl (by decide) rfl (fun ls hl => ?_)
    refine lv_aload_n hx hb d_O_settle_19 rfl (lv_at hl 1 rfl) ?_
    refine pw_get (Cn := "GraphWriter$Out") (T := F_O) (N := 11) hx hb hts in_O hown hK hw 3 0 rfl h30 rfl 6 (by decide) (hts _ wd_97) (fun _ h9 => h9) rfl d_O_settle_20 ?_
    refine lv_bipush (v := (-2)) hx hb d_O_settle_23 (by decide) ?_
    refine lv_icmp_ne (tgt := 35) hx hb d_O_settle_25 (by decide) (fun c_2 => ?_) (fun c_2 => ?_)
    · skip
      refine lv_aload_n hx hb d_O_settle_35 rfl (lv_at hl 1 rfl) ?_
      refine pw_get (Cn := "GraphWriter$Out") (T := F_O) (N := 11) hx hb hts in_O hown hK hw 3 0 rfl h30 rfl 6 (by decide) (hts _ wd_97) (fun _ h9 => h9) rfl d_O_settle_36 ?_
      refine lv_bipush (v := (-3)) hx hb d_O_settle_39 (by decide) ?_
      refine lv_icmp_ne (tgt := 48) hx hb d_O_settle_41 (by decide) (fun c_3 => ?_) (fun c_3 => ?_)
      · skip
        refine lv_aload_n hx hb d_O_settle_48 rfl (lv_at hl 1 rfl) ?_
        refine lv_iconst (v := 0) hx hb d_O_settle_49 (by decide) ?_
        refine pw_put (Cn := "GraphWriter$Out") (T := F_O) (N := 11) (v := .int 0) (ty := .int) hx hb hts in_O ft_O to_O nm_O hown hK hw 3 0 (by decide) rfl h30 rfl 6 (by decide) (hts _ wd_97) (fun _ h9 => h9) rfl (by decide +kernel) rfl rfl (Nat.le_of_ble_eq_true rfl) d_O_settle_50 (fun H locs hw => ?_)
        have hw : pw_H D cls9 A s.heap ad C ad (pw_up C 3 0 (some (.inr (1, [.ref (ad 4 0), .ref (ad 5 0), .ref (ad 6 0), .int (nI x.1.length), .int (nI wn), .int x.2.2.2, .int 0, .ref (ad 7 0), .int sn.2.1, .int sn.2.2.1, .int sn.2.2.2])))) H locs := hw
        generalize hC_4 : pw_up C 3 0 (some (.inr (1, [.ref (ad 4 0), .ref (ad 5 0), .ref (ad 6 0), .int (nI x.1.length), .int (nI wn), .int x.2.2.2, .int 0, .ref (ad 7 0), .int sn.2.1, .int sn.2.2.1, .int sn.2.2.2]))) = C_4 at hw
        have h40 : C_4 4 0 = some (.inl (ca 2, 1400, .inl by0)) := by rw [← hC_4]; exact (pw_up_ne _ _ (by decide)).trans h40
        have h50 : C_4 5 0 = some (.inl (ca 2, 255, .inl wt)) := by rw [← hC_4]; exact (pw_up_ne _ _ (by decide)).trans h50
        have h60 : C_4 6 0 = some (.inl (ca 0, 35, .inl x.2.2.1)) := by rw [← hC_4]; exact (pw_up_ne _ _ (by decide)).trans h60
        have h70 : C_4 7 0 = some (.inl (ca 0, 35, .inl sn.1)) := by rw [← hC_4]; exact (pw_up_ne _ _ (by decide)).trans h70
        have h30 : C_4 3 0 = some (.inr (1, [.ref (ad 4 0), .ref (ad 5 0), .ref (ad 6 0), .int (nI x.1.length), .int (nI wn), .int x.2.2.2, .int 0, .ref (ad 7 0), .int sn.2.1, .int sn.2.2.1, .int sn.2.2.2])) := by rw [← hC_4]; exact pw_up_self _ _ _ _
        have hfr : ∀ x y, (x < 3 ∨ 7 < x) → C_4 x y = C x y := fun x y h => by rw [← hC_4]; exact (pw_up_ne _ _ (by omega)).trans (hfr x y h)
        refine lv_iload_n hx hb d_O_settle_53 rfl (lv_at hl 0 rfl) ?_
        have ea : es_ans x = x.2.1 := by unfold es_ans; first | exact if_pos c_1 | exact if_neg c_1
        have es : es_set x l0 sn = es_oc x 0 := by unfold es_set; rw [if_neg c_2, if_neg c_3]
        refine pw_iret hx hb hr hlocks hw ⟨⟨rfl, ?_, hfr⟩, ea.symm⟩ d_O_settle_54
        rw [es]; rw [if_neg c_2]
        exact ⟨by0, wt, h30, h40, h50, h60, h70, hlen, hby, hwn, hw0, hwt⟩
      · skip
        refine lv_aload_n hx hb d_O_settle_44 rfl (lv_at hl 1 rfl) ?_
        refine pw_callv (va_runV (As := []) (rest := []) ⟨hx, hb, hml, hown, hts0⟩ (k_O_forgetHandles hZ hO0 _) (cwV 0 hts0 (wd_V wd_131 wd_711 wd_129 wd_130 wd_54) rfl rfl rfl (by decide +kernel) ⟨Nat.le_of_ble_eq_true rfl, Nat.le_of_ble_eq_true rfl⟩) (pw_preV hZ hw hA hK hz rfl h30 rfl) rfl rfl hl.1 rfl (lv_room (Nat.le_of_ble_eq_true rfl)) d_O_settle_45 ⟨Nat.le_of_ble_eq_true rfl, Nat.le_of_ble_eq_true rfl⟩) hw hA (fun ad_5 C_6 H locs hp hw => ?_)
        obtain ⟨hae, hO, hf1⟩ := hp
        rw [hae] at hw; clear hae
        have hfr : os_fr C C_6 := fun x y h => (hf1 x y h).trans (hfr x y h)
        obtain ⟨x_8, hx_8⟩ : ∃ z, z = es_forget x := ⟨_, rfl⟩
        rw [← hx_8] at hO
        have hO0 := hO
        obtain ⟨by0, wt, h30, h40, h50, h60, h70, hlen, hby, hwn, hw0, hwt⟩ := hO
        refine lv_aload_n hx hb d_O_settle_48 rfl (lv_at hl 1 rfl) ?_
        refine lv_iconst (v := 0) hx hb d_O_settle_49 (by decide) ?_
        refine pw_put (Cn := "GraphWriter$Out") (T := F_O) (N := 11) (v := .int 0) (ty := .int) hx hb hts in_O ft_O to_O nm_O hown hK hw 3 0 (by decide) rfl h30 rfl 6 (by decide) (hts _ wd_97) (fun _ h9 => h9) rfl (by decide +kernel) rfl rfl (Nat.le_of_ble_eq_true rfl) d_O_settle_50 (fun H locs hw => ?_)
        have hw : pw_H D cls9 A s.heap ad C ad (pw_up C_6 3 0 (some (.inr (1, [.ref (ad 4 0), .ref (ad 5 0), .ref (ad 6 0), .int (nI x_8.1.length), .int (nI wn), .int x_8.2.2.2, .int 0, .ref (ad 7 0), .int sn.2.1, .int sn.2.2.1, .int sn.2.2.2])))) H locs := hw
        generalize hC_9 : pw_up C_6 3 0 (some (.inr (1, [.ref (ad 4 0), .ref (ad 5 0), .ref (ad 6 0), .int (nI x_8.1.length), .int (nI wn), .int x_8.2.2.2, .int 0, .ref (ad 7 0), .int sn.2.1, .int sn.2.2.1, .int sn.2.2.2]))) = C_9 at hw
        have h40 : C_9 4 0 = some (.inl (ca 2, 1400, .inl by0)) := by rw [← hC_9]; exact (pw_up_ne _ _ (by decide)).trans h40
        have h50 : C_9 5 0 = some (.inl (ca 2, 255, .inl wt)) := by rw [← hC_9]; exact (pw_up_ne _ _ (by decide)).trans h50
        have h60 : C_9 6 0 = some (.inl (ca 0, 35, .inl x_8.2.2.1)) := by rw [← hC_9]; exact (pw_up_ne _ _ (by decide)).trans h60
        have h70 : C_9 7 0 = some (.inl (ca 0, 35, .inl sn.1)) := by rw [← hC_9]; exact (pw_up_ne _ _ (by decide)).trans h70
        have h30 : C_9 3 0 = some (.inr (1, [.ref (ad 4 0), .ref (ad 5 0), .ref (ad 6 0), .int (nI x_8.1.length), .int (nI wn), .int x_8.2.2.2, .int 0, .ref (ad 7 0), .int sn.2.1, .int sn.2.2.1, .int sn.2.2.2])) := by rw [← hC_9]; exact pw_up_self _ _ _ _
        have hfr : ∀ x y, (x < 3 ∨ 7 < x) → C_9 x y = C x y := fun x y h => by rw [← hC_9]; exact (pw_up_ne _ _ (by omega)).trans (hfr x y h)
        refine lv_iload_n hx hb d_O_settle_53 rfl (lv_at hl 0 rfl) ?_
        have ea : es_ans x = x.2.1 := by unfold es_ans; first | exact if_pos c_1 | exact if_neg c_1
        have es : es_set x l0 sn = es_oc x_8 0 := by rw [hx_8]; unfold es_set; rw [if_neg c_2, if_pos c_3]
        refine pw_iret hx hb hr hlocks hw ⟨⟨rfl, ?_, hfr⟩, ea.symm⟩ d_O_settle_54
        rw [es]; rw [if_neg c_2]
        exact ⟨by0, wt, h30, h40, h50, h60, h70, hlen, hby, hwn, hw0, hwt⟩
    · skip
      refine lv_aload_n hx hb d_O_settle_28 rfl (lv_at hl 1 rfl) ?_
      refine pw_callv (va_runV (As := []) (rest := []) ⟨hx, hb, hml, hown, hts0⟩ (k_O_goBack hZ hO0 h1 h2 h3 h4 _) (cwV 0 hts0 (wd_V wd_710 wd_707 wd_709 wd_18 wd_54) rfl rfl rfl (by decide +kernel) ⟨Nat.le_of_ble_eq_true rfl, Nat.le_of_ble_eq_true rfl⟩) (pw_preV hZ hw hA hK hz rfl h30 rfl) rfl rfl hl.1 rfl (lv_room (Nat.le_of_ble_eq_true rfl)) d_O_settle_29 ⟨Nat.le_of_ble_eq_true rfl, Nat.le_of_ble_eq_true rfl⟩) hw hA (fun ad_10 C_11 H locs hp hw => ?_)
      obtain ⟨hae, hO, hf1⟩ := hp
      rw [hae] at hw; clear hae
      have hfr : os_fr C C_11 := fun x y h => (hf1 x y h).trans (hfr x y h)
      obtain ⟨x_13, hx_13⟩ : ∃ z, z = es_back x l0 sn := ⟨_, rfl⟩
      rw [← hx_13] at hO
      have hO0 := hO
      obtain ⟨by0, wt, h30, h40, h50, h60, h70, hlen, hby, hwn, hw0, hwt⟩ := hO
      refine lv_goto (tgt := 48) hx hb d_O_settle_32 (by decide) ?_
      refine lv_aload_n hx hb d_O_settle_48 rfl (lv_at hl 1 rfl) ?_
      refine lv_iconst (v := 0) hx hb d_O_settle_49 (by decide) ?_
      refine pw_put (Cn := "GraphWriter$Out") (T := F_O) (N := 11) (v := .int 0) (ty := .int) hx hb hts in_O ft_O to_O nm_O hown hK hw 3 0 (by decide) rfl h30 rfl 6 (by decide) (hts _ wd_97) (fun _ h9 => h9) rfl (by decide +kernel) rfl rfl (Nat.le_of_ble_eq_true rfl) d_O_settle_50 (fun H locs hw => ?_)
      have hw : pw_H D cls9 A s.heap ad C ad (pw_up C_11 3 0 (some (.inr (1, [.ref (ad 4 0), .ref (ad 5 0), .ref (ad 6 0), .int (nI x_13.1.length), .int (nI wz), .int x_13.2.2.2, .int 0, .ref (ad 7 0), .int sn.2.1, .int sn.2.2.1, .int sn.2.2.2])))) H locs := hw
      generalize hC_14 : pw_up C_11 3 0 (some (.inr (1, [.ref (ad 4 0), .ref (ad 5 0), .ref (ad 6 0), .int (nI x_13.1.length), .int (nI wz), .int x_13.2.2.2, .int 0, .ref (ad 7 0), .int sn.2.1, .int sn.2.2.1, .int sn.2.2.2]))) = C_14 at hw
      have h40 : C_14 4 0 = some (.inl (ca 2, 1400, .inl by0)) := by rw [← hC_14]; exact (pw_up_ne _ _ (by decide)).trans h40
      have h50 : C_14 5 0 = some (.inl (ca 2, 255, .inl wt)) := by rw [← hC_14]; exact (pw_up_ne _ _ (by decide)).trans h50
      have h60 : C_14 6 0 = some (.inl (ca 0, 35, .inl x_13.2.2.1)) := by rw [← hC_14]; exact (pw_up_ne _ _ (by decide)).trans h60
      have h70 : C_14 7 0 = some (.inl (ca 0, 35, .inl sn.1)) := by rw [← hC_14]; exact (pw_up_ne _ _ (by decide)).trans h70
      have h30 : C_14 3 0 = some (.inr (1, [.ref (ad 4 0), .ref (ad 5 0), .ref (ad 6 0), .int (nI x_13.1.length), .int (nI wz), .int x_13.2.2.2, .int 0, .ref (ad 7 0), .int sn.2.1, .int sn.2.2.1, .int sn.2.2.2])) := by rw [← hC_14]; exact pw_up_self _ _ _ _
      have hfr : ∀ x y, (x < 3 ∨ 7 < x) → C_14 x y = C x y := fun x y h => by rw [← hC_14]; exact (pw_up_ne _ _ (by omega)).trans (hfr x y h)
      refine lv_iload_n hx hb d_O_settle_53 rfl (lv_at hl 0 rfl) ?_
      have ea : es_ans x = x.2.1 := by unfold es_ans; first | exact if_pos c_1 | exact if_neg c_1
      have es : es_set x l0 sn = es_oc x_13 0 := by rw [hx_13]; unfold es_set; rw [if_pos c_2]
      refine pw_iret hx hb hr hlocks hw ⟨⟨rfl, ?_, hfr⟩, ea.symm⟩ d_O_settle_54
      rw [es]; rw [if_pos c_2]
      exact ⟨by0, wt, h30, h40, h50, h60, h70, hlen, hby, hwn, hw0, hwt⟩
  · skip
    refine lv_aload_n hx hb d_O_settle_7 rfl (lv_at hl 0 rfl) ?_
    refine pw_get (Cn := "GraphWriter$Out") (T := F_O) (N := 11) hx hb hts in_O hown hK hw 3 0 rfl h30 rfl 3 (by decide) (hts _ wd_91) (fun _ h9 => h9) rfl d_O_settle_8 ?_
    refine lv_goto (tgt := 18) hx hb d_O_settle_11 (by decide) ?_
    refine lv_istore_n (lv' := [(1, .int (nI x.1.length)), (0, .ref (ad 3 0))]) hx hb d_O_settle_18 rfl hl (by decide) rfl (fun ls hl => ?_)
    refine lv_aload_n hx hb d_O_settle_19 rfl (lv_at hl 1 rfl) ?_
    refine pw_get (Cn := "GraphWriter$Out") (T := F_O) (N := 11) hx hb hts in_O hown hK hw 3 0 rfl h30 rfl 6 (by decide) (hts _ wd_97) (fun _ h9 => h9) rfl d_O_settle_20 ?_
    refine lv_bipush (v := (-2)) hx hb d_O_settle_23 (by decide) ?_
    refine lv_icmp_ne (tgt := 35) hx hb d_O_settle_25 (by decide) (fun c_15 => ?_) (fun c_15 => ?_)
    · skip
      refine lv_aload_n hx hb d_O_settle_35 rfl (lv_at hl 1 rfl) ?_
      refine pw_get (Cn := "GraphWriter$Out") (T := F_O) (N := 11) hx hb hts in_O hown hK hw 3 0 rfl h30 rfl 6 (by decide) (hts _ wd_97) (fun _ h9 => h9) rfl d_O_settle_36 ?_
      refine lv_bipush (v := (-3)) hx hb d_O_settle_39 (by decide) ?_
      refine lv_icmp_ne (tgt := 48) hx hb d_O_settle_41 (by decide) (fun c_16 => ?_) (fun c_16 => ?_)
      · skip
        refine lv_aload_n hx hb d_O_settle_48 rfl (lv_at hl 1 rfl) ?_
        refine lv_iconst (v := 0) hx hb d_O_settle_49 (by decide) ?_
        refine pw_put (Cn := "GraphWriter$Out") (T := F_O) (N := 11) (v := .int 0) (ty := .int) hx hb hts in_O ft_O to_O nm_O hown hK hw 3 0 (by decide) rfl h30 rfl 6 (by decide) (hts _ wd_97) (fun _ h9 => h9) rfl (by decide +kernel) rfl rfl (Nat.le_of_ble_eq_true rfl) d_O_settle_50 (fun H locs hw => ?_)
        have hw : pw_H D cls9 A s.heap ad C ad (pw_up C 3 0 (some (.inr (1, [.ref (ad 4 0), .ref (ad 5 0), .ref (ad 6 0), .int (nI x.1.length), .int (nI wn), .int x.2.2.2, .int 0, .ref (ad 7 0), .int sn.2.1, .int sn.2.2.1, .int sn.2.2.2])))) H locs := hw
        generalize hC_17 : pw_up C 3 0 (some (.inr (1, [.ref (ad 4 0), .ref (ad 5 0), .ref (ad 6 0), .int (nI x.1.length), .int (nI wn), .int x.2.2.2, .int 0, .ref (ad 7 0), .int sn.2.1, .int sn.2.2.1, .int sn.2.2.2]))) = C_17 at hw
        have h40 : C_17 4 0 = some (.inl (ca 2, 1400, .inl by0)) := by rw [← hC_17]; exact (pw_up_ne _ _ (by decide)).trans h40
        have h50 : C_17 5 0 = some (.inl (ca 2, 255, .inl wt)) := by rw [← hC_17]; exact (pw_up_ne _ _ (by decide)).trans h50
        have h60 : C_17 6 0 = some (.inl (ca 0, 35, .inl x.2.2.1)) := by rw [← hC_17]; exact (pw_up_ne _ _ (by decide)).trans h60
        have h70 : C_17 7 0 = some (.inl (ca 0, 35, .inl sn.1)) := by rw [← hC_17]; exact (pw_up_ne _ _ (by decide)).trans h70
        have h30 : C_17 3 0 = some (.inr (1, [.ref (ad 4 0), .ref (ad 5 0), .ref (ad 6 0), .int (nI x.1.length), .int (nI wn), .int x.2.2.2, .int 0, .ref (ad 7 0), .int sn.2.1, .int sn.2.2.1, .int sn.2.2.2])) := by rw [← hC_17]; exact pw_up_self _ _ _ _
        have hfr : ∀ x y, (x < 3 ∨ 7 < x) → C_17 x y = C x y := fun x y h => by rw [← hC_17]; exact (pw_up_ne _ _ (by omega)).trans (hfr x y h)
        refine lv_iload_n hx hb d_O_settle_53 rfl (lv_at hl 0 rfl) ?_
        have ea : es_ans x = nI x.1.length := by unfold es_ans; first | exact if_pos c_1 | exact if_neg c_1
        have es : es_set x l0 sn = es_oc x 0 := by unfold es_set; rw [if_neg c_15, if_neg c_16]
        refine pw_iret hx hb hr hlocks hw ⟨⟨rfl, ?_, hfr⟩, ea.symm⟩ d_O_settle_54
        rw [es]; rw [if_neg c_15]
        exact ⟨by0, wt, h30, h40, h50, h60, h70, hlen, hby, hwn, hw0, hwt⟩
      · skip
        refine lv_aload_n hx hb d_O_settle_44 rfl (lv_at hl 1 rfl) ?_
        refine pw_callv (va_runV (As := []) (rest := []) ⟨hx, hb, hml, hown, hts0⟩ (k_O_forgetHandles hZ hO0 _) (cwV 0 hts0 (wd_V wd_131 wd_711 wd_129 wd_130 wd_54) rfl rfl rfl (by decide +kernel) ⟨Nat.le_of_ble_eq_true rfl, Nat.le_of_ble_eq_true rfl⟩) (pw_preV hZ hw hA hK hz rfl h30 rfl) rfl rfl hl.1 rfl (lv_room (Nat.le_of_ble_eq_true rfl)) d_O_settle_45 ⟨Nat.le_of_ble_eq_true rfl, Nat.le_of_ble_eq_true rfl⟩) hw hA (fun ad_18 C_19 H locs hp hw => ?_)
        obtain ⟨hae, hO, hf1⟩ := hp
        rw [hae] at hw; clear hae
        have hfr : os_fr C C_19 := fun x y h => (hf1 x y h).trans (hfr x y h)
        obtain ⟨x_21, hx_21⟩ : ∃ z, z = es_forget x := ⟨_, rfl⟩
        rw [← hx_21] at hO
        have hO0 := hO
        obtain ⟨by0, wt, h30, h40, h50, h60, h70, hlen, hby, hwn, hw0, hwt⟩ := hO
        refine lv_aload_n hx hb d_O_settle_48 rfl (lv_at hl 1 rfl) ?_
        refine lv_iconst (v := 0) hx hb d_O_settle_49 (by decide) ?_
        refine pw_put (Cn := "GraphWriter$Out") (T := F_O) (N := 11) (v := .int 0) (ty := .int) hx hb hts in_O ft_O to_O nm_O hown hK hw 3 0 (by decide) rfl h30 rfl 6 (by decide) (hts _ wd_97) (fun _ h9 => h9) rfl (by decide +kernel) rfl rfl (Nat.le_of_ble_eq_true rfl) d_O_settle_50 (fun H locs hw => ?_)
        have hw : pw_H D cls9 A s.heap ad C ad (pw_up C_19 3 0 (some (.inr (1, [.ref (ad 4 0), .ref (ad 5 0), .ref (ad 6 0), .int (nI x_21.1.length), .int (nI wn), .int x_21.2.2.2, .int 0, .ref (ad 7 0), .int sn.2.1, .int sn.2.2.1, .int sn.2.2.2])))) H locs := hw
        generalize hC_22 : pw_up C_19 3 0 (some (.inr (1, [.ref (ad 4 0), .ref (ad 5 0), .ref (ad 6 0), .int (nI x_21.1.length), .int (nI wn), .int x_21.2.2.2, .int 0, .ref (ad 7 0), .int sn.2.1, .int sn.2.2.1, .int sn.2.2.2]))) = C_22 at hw
        have h40 : C_22 4 0 = some (.inl (ca 2, 1400, .inl by0)) := by rw [← hC_22]; exact (pw_up_ne _ _ (by decide)).trans h40
        have h50 : C_22 5 0 = some (.inl (ca 2, 255, .inl wt)) := by rw [← hC_22]; exact (pw_up_ne _ _ (by decide)).trans h50
        have h60 : C_22 6 0 = some (.inl (ca 0, 35, .inl x_21.2.2.1)) := by rw [← hC_22]; exact (pw_up_ne _ _ (by decide)).trans h60
        have h70 : C_22 7 0 = some (.inl (ca 0, 35, .inl sn.1)) := by rw [← hC_22]; exact (pw_up_ne _ _ (by decide)).trans h70
        have h30 : C_22 3 0 = some (.inr (1, [.ref (ad 4 0), .ref (ad 5 0), .ref (ad 6 0), .int (nI x_21.1.length), .int (nI wn), .int x_21.2.2.2, .int 0, .ref (ad 7 0), .int sn.2.1, .int sn.2.2.1, .int sn.2.2.2])) := by rw [← hC_22]; exact pw_up_self _ _ _ _
        have hfr : ∀ x y, (x < 3 ∨ 7 < x) → C_22 x y = C x y := fun x y h => by rw [← hC_22]; exact (pw_up_ne _ _ (by omega)).trans (hfr x y h)
        refine lv_iload_n hx hb d_O_settle_53 rfl (lv_at hl 0 rfl) ?_
        have ea : es_ans x = nI x.1.length := by unfold es_ans; first | exact if_pos c_1 | exact if_neg c_1
        have es : es_set x l0 sn = es_oc x_21 0 := by rw [hx_21]; unfold es_set; rw [if_neg c_15, if_pos c_16]
        refine pw_iret hx hb hr hlocks hw ⟨⟨rfl, ?_, hfr⟩, ea.symm⟩ d_O_settle_54
        rw [es]; rw [if_neg c_15]
        exact ⟨by0, wt, h30, h40, h50, h60, h70, hlen, hby, hwn, hw0, hwt⟩
    · skip
      refine lv_aload_n hx hb d_O_settle_28 rfl (lv_at hl 1 rfl) ?_
      refine pw_callv (va_runV (As := []) (rest := []) ⟨hx, hb, hml, hown, hts0⟩ (k_O_goBack hZ hO0 h1 h2 h3 h4 _) (cwV 0 hts0 (wd_V wd_710 wd_707 wd_709 wd_18 wd_54) rfl rfl rfl (by decide +kernel) ⟨Nat.le_of_ble_eq_true rfl, Nat.le_of_ble_eq_true rfl⟩) (pw_preV hZ hw hA hK hz rfl h30 rfl) rfl rfl hl.1 rfl (lv_room (Nat.le_of_ble_eq_true rfl)) d_O_settle_29 ⟨Nat.le_of_ble_eq_true rfl, Nat.le_of_ble_eq_true rfl⟩) hw hA (fun ad_23 C_24 H locs hp hw => ?_)
      obtain ⟨hae, hO, hf1⟩ := hp
      rw [hae] at hw; clear hae
      have hfr : os_fr C C_24 := fun x y h => (hf1 x y h).trans (hfr x y h)
      obtain ⟨x_26, hx_26⟩ : ∃ z, z = es_back x l0 sn := ⟨_, rfl⟩
      rw [← hx_26] at hO
      have hO0 := hO
      obtain ⟨by0, wt, h30, h40, h50, h60, h70, hlen, hby, hwn, hw0, hwt⟩ := hO
      refine lv_goto (tgt := 48) hx hb d_O_settle_32 (by decide) ?_
      refine lv_aload_n hx hb d_O_settle_48 rfl (lv_at hl 1 rfl) ?_
      refine lv_iconst (v := 0) hx hb d_O_settle_49 (by decide) ?_
      refine pw_put (Cn := "GraphWriter$Out") (T := F_O) (N := 11) (v := .int 0) (ty := .int) hx hb hts in_O ft_O to_O nm_O hown hK hw 3 0 (by decide) rfl h30 rfl 6 (by decide) (hts _ wd_97) (fun _ h9 => h9) rfl (by decide +kernel) rfl rfl (Nat.le_of_ble_eq_true rfl) d_O_settle_50 (fun H locs hw => ?_)
      have hw : pw_H D cls9 A s.heap ad C ad (pw_up C_24 3 0 (some (.inr (1, [.ref (ad 4 0), .ref (ad 5 0), .ref (ad 6 0), .int (nI x_26.1.length), .int (nI wz), .int x_26.2.2.2, .int 0, .ref (ad 7 0), .int sn.2.1, .int sn.2.2.1, .int sn.2.2.2])))) H locs := hw
      generalize hC_27 : pw_up C_24 3 0 (some (.inr (1, [.ref (ad 4 0), .ref (ad 5 0), .ref (ad 6 0), .int (nI x_26.1.length), .int (nI wz), .int x_26.2.2.2, .int 0, .ref (ad 7 0), .int sn.2.1, .int sn.2.2.1, .int sn.2.2.2]))) = C_27 at hw
      have h40 : C_27 4 0 = some (.inl (ca 2, 1400, .inl by0)) := by rw [← hC_27]; exact (pw_up_ne _ _ (by decide)).trans h40
      have h50 : C_27 5 0 = some (.inl (ca 2, 255, .inl wt)) := by rw [← hC_27]; exact (pw_up_ne _ _ (by decide)).trans h50
      have h60 : C_27 6 0 = some (.inl (ca 0, 35, .inl x_26.2.2.1)) := by rw [← hC_27]; exact (pw_up_ne _ _ (by decide)).trans h60
      have h70 : C_27 7 0 = some (.inl (ca 0, 35, .inl sn.1)) := by rw [← hC_27]; exact (pw_up_ne _ _ (by decide)).trans h70
      have h30 : C_27 3 0 = some (.inr (1, [.ref (ad 4 0), .ref (ad 5 0), .ref (ad 6 0), .int (nI x_26.1.length), .int (nI wz), .int x_26.2.2.2, .int 0, .ref (ad 7 0), .int sn.2.1, .int sn.2.2.1, .int sn.2.2.2])) := by rw [← hC_27]; exact pw_up_self _ _ _ _
      have hfr : ∀ x y, (x < 3 ∨ 7 < x) → C_27 x y = C x y := fun x y h => by rw [← hC_27]; exact (pw_up_ne _ _ (by omega)).trans (hfr x y h)
      refine lv_iload_n hx hb d_O_settle_53 rfl (lv_at hl 0 rfl) ?_
      have ea : es_ans x = nI x.1.length := by unfold es_ans; first | exact if_pos c_1 | exact if_neg c_1
      have es : es_set x l0 sn = es_oc x_26 0 := by rw [hx_26]; unfold es_set; rw [if_pos c_15]
      refine pw_iret hx hb hr hlocks hw ⟨⟨rfl, ?_, hfr⟩, ea.symm⟩ d_O_settle_54
      rw [es]; rw [if_pos c_15]
      exact ⟨by0, wt, h30, h40, h50, h60, h70, hlen, hby, hwn, hw0, hwt⟩
set_option maxHeartbeats 4000000 in
set_option maxRecDepth 100000 in
/-- O_letWait -/
theorem k_O_letWait {l : Launch} {D : va_G} {ca : Nat → ClassId} {Z : (Nat → Prop) → State → Prop} (hZ : pw_Zok Z) {ad : pw_A} {C : pw_C} {x : ES} {w0 : List Int32} {wn : Nat} {sn : SN} (hO : os_x ca ad C x w0 wn sn) (n : Int64) {w : Nat} (hw8 : w ≤ 8) (hq : wn = w0.length) (hq2 : wn < 255) : gc_Con l y_O_letWait c_O_letWait ({ frames := 2, cells := 0, slots := 0, locals := 45 }) D ca Z [.ref (ad 3 0), .long n, .int (nI w)] ad C (pw_pv (fun ad' C' => ad' = ad ∧ os_x ca ad C' (es_wait n w w x w0).1 (es_wait n w w x w0).2 (es_wait n w w x w0).2.length sn ∧ os_fr C C')) 0 0 := by
  have hO0 := hO
  obtain ⟨by0, wt, h30, h40, h50, h60, h70, hlen, hby, hwn, hw0, hwt⟩ := hO
  refine pw_ofW (cc := b_O_letWait) (maxL := 5) (ret := none) (by decide) rfl (Nat.le_of_ble_eq_true rfl) ?_
  intro p e s m args below meth c A ls hB hA hw hK hz hl
  obtain ⟨hx, hb, hr, hml, hts0, hlocks, hown, hnm⟩ := hB
  have hts := wd_hts hts0
  have hown : s.vm.findClass "GraphWriter$Out" = some m.cls := hown
  have hl : lv_has ls 5 [(0, .ref (ad 3 0)), (1, .long n), (3, .int (nI w))] := hl
  have hfr : os_fr C C := fun _ _ _ => rfl
  have key : ∀ (r : Nat), r ≤ w → ∀ (x1 : ES) (q1 : List Int32) (C1 : pw_C) (H : Heap) (locs : List Loc) (ls : Array Slot), es_wait n w r x1 q1 = es_wait n w w x w0 → q1.length < 255 → os_x ca ad C1 x1 q1 q1.length sn → os_fr C C1 → pw_H D cls9 A s.heap ad C ad C1 H locs → lv_has ls 5 [(4, .int (8 * nI r - 8)), (0, .ref (ad 3 0)), (1, .long n), (3, .int (nI w))] → W p l e ({ frames := 2, cells := 0, slots := 0, locals := 45 }) s m args below meth c H locs 0 0 (MQ below (pw_Q D cls9 ad C (pw_pv (fun ad' C' => ad' = ad ∧ os_x ca ad C' (es_wait n w w x w0).1 (es_wait n w w x w0).2 (es_wait n w w x w0).2.length sn ∧ os_fr C C')) A) args s 0 0 A) (F0 m 9 ls []) := by
    intro r
    induction r with
    | zero =>
      intro hr9 x1 q1 C1 H locs ls hes hq1 hO hfr hw hl
      have hO0 := hO
      obtain ⟨by0, wt, h30, h40, h50, h60, h70, hlen, hby, hwn, hw0, hwt⟩ := hO
      refine lv_iload hx hb d_O_letWait_9 (lv_at hl 0 rfl) ?_
      refine lv_if_lt (tgt := 59) hx hb d_O_letWait_11 (by decide) (fun c_1 => ?_) (fun c_1 => ?_)
      · skip
        have e1 : (es_wait n w w x w0) = (x1, q1) := hes.symm
        refine pw_vret hx hb hr hlocks hw ⟨rfl, ?_, hfr⟩ d_O_letWait_59
        rw [e1]; exact hO0
      · exact absurd (by decide) c_1
    | succ r ih =>
      intro hr9 x1 q1 C1 H locs ls hes hq1 hO hfr hw hl
      have hO0 := hO
      obtain ⟨by0, wt, h30, h40, h50, h60, h70, hlen, hby, hwn, hw0, hwt⟩ := hO
      rw [es_sh1 r] at hl
      refine lv_iload hx hb d_O_letWait_9 (lv_at hl 0 rfl) ?_
      refine lv_if_lt (tgt := 59) hx hb d_O_letWait_11 (by decide) (fun c_2 => ?_) (fun c_2 => ?_)
      · exact absurd c_2 (nI_pos (by omega))
      · skip
        refine lv_aload_n hx hb d_O_letWait_14 rfl (lv_at hl 1 rfl) ?_
        refine pw_get (Cn := "GraphWriter$Out") (T := F_O) (N := 11) hx hb hts in_O hown hK hw 3 0 rfl h30 rfl 1 (by decide) (hts _ wd_88) (fun _ h9 => h9) rfl d_O_letWait_15 ?_
        refine lv_aload_n hx hb d_O_letWait_18 rfl (lv_at hl 1 rfl) ?_
        refine pw_get (Cn := "GraphWriter$Out") (T := F_O) (N := 11) hx hb hts in_O hown hK hw 3 0 rfl h30 rfl 4 (by decide) (hts _ wd_93) (fun _ h9 => h9) rfl d_O_letWait_19 ?_
        refine lv_lload_n hx hb d_O_letWait_22 rfl (lv_at hl 2 rfl) ?_
        refine lv_iload hx hb d_O_letWait_23 (lv_at hl 0 rfl) ?_
        refine lv_lushr hx hb d_O_letWait_25 rfl ?_
        refine lv_l2i hx hb d_O_letWait_26 rfl ?_
        refine lv_i2b hx hb d_O_letWait_27 rfl ?_
        refine pw_bast hx hb hK hw 5 0 rfl 2 h50 rfl (by decide) q1.length rfl (by omega) (by omega) d_O_letWait_28 (fun H locs hw => ?_)
        have hw : pw_H D cls9 A s.heap ad C ad (pw_up C1 5 0 (some (.inl (ca 2, 255, .inl (upd wt q1.length (vp_nar .byte ((((n.toUInt64 >>> ((nI (8 * r)).toInt64.toUInt64 &&& Int64.toUInt64 63)).toInt64).toInt32).toInt8.toInt32))))))) H locs := hw
        generalize hC_3 : pw_up C1 5 0 (some (.inl (ca 2, 255, .inl (upd wt q1.length (vp_nar .byte ((((n.toUInt64 >>> ((nI (8 * r)).toInt64.toUInt64 &&& Int64.toUInt64 63)).toInt64).toInt32).toInt8.toInt32)))))) = C_3 at hw
        have h30 : C_3 3 0 = some (.inr (1, [.ref (ad 4 0), .ref (ad 5 0), .ref (ad 6 0), .int (nI x1.1.length), .int (nI q1.length), .int x1.2.2.2, .int x1.2.1, .ref (ad 7 0), .int sn.2.1, .int sn.2.2.1, .int sn.2.2.2])) := by rw [← hC_3]; exact (pw_up_ne _ _ (by decide)).trans h30
        have h40 : C_3 4 0 = some (.inl (ca 2, 1400, .inl by0)) := by rw [← hC_3]; exact (pw_up_ne _ _ (by decide)).trans h40
        have h60 : C_3 6 0 = some (.inl (ca 0, 35, .inl x1.2.2.1)) := by rw [← hC_3]; exact (pw_up_ne _ _ (by decide)).trans h60
        have h70 : C_3 7 0 = some (.inl (ca 0, 35, .inl sn.1)) := by rw [← hC_3]; exact (pw_up_ne _ _ (by decide)).trans h70
        have h50 : C_3 5 0 = some (.inl (ca 2, 255, .inl (upd wt q1.length (vp_nar .byte ((((n.toUInt64 >>> ((nI (8 * r)).toInt64.toUInt64 &&& Int64.toUInt64 63)).toInt64).toInt32).toInt8.toInt32))))) := by rw [← hC_3]; exact pw_up_self _ _ _ _
        have hfr : ∀ x y, (x < 3 ∨ 7 < x) → C_3 x y = C x y := fun x y h => by rw [← hC_3]; exact (pw_up_ne _ _ (by omega)).trans (hfr x y h)
        refine lv_aload_n hx hb d_O_letWait_29 rfl (lv_at hl 1 rfl) ?_
        refine lv_dup hx hb d_O_letWait_30 rfl ?_
        refine pw_get (Cn := "GraphWriter$Out") (T := F_O) (N := 11) hx hb hts in_O hown hK hw 3 0 rfl h30 rfl 4 (by decide) (hts _ wd_93) (fun _ h9 => h9) rfl d_O_letWait_31 ?_
        refine lv_iconst (v := 1) hx hb d_O_letWait_34 (by decide) ?_
        refine lv_iadd hx hb d_O_letWait_35 ?_
        rw [nI_1]
        refine pw_put (Cn := "GraphWriter$Out") (T := F_O) (N := 11) (v := .int (nI (q1.length + 1))) (ty := .int) hx hb hts in_O ft_O to_O nm_O hown hK hw 3 0 (by decide) rfl h30 rfl 4 (by decide) (hts _ wd_93) (fun _ h9 => h9) rfl (by decide +kernel) rfl rfl (Nat.le_of_ble_eq_true rfl) d_O_letWait_36 (fun H locs hw => ?_)
        have hw : pw_H D cls9 A s.heap ad C ad (pw_up C_3 3 0 (some (.inr (1, [.ref (ad 4 0), .ref (ad 5 0), .ref (ad 6 0), .int (nI x1.1.length), .int (nI (q1.length + 1)), .int x1.2.2.2, .int x1.2.1, .ref (ad 7 0), .int sn.2.1, .int sn.2.2.1, .int sn.2.2.2])))) H locs := hw
        generalize hC_4 : pw_up C_3 3 0 (some (.inr (1, [.ref (ad 4 0), .ref (ad 5 0), .ref (ad 6 0), .int (nI x1.1.length), .int (nI (q1.length + 1)), .int x1.2.2.2, .int x1.2.1, .ref (ad 7 0), .int sn.2.1, .int sn.2.2.1, .int sn.2.2.2]))) = C_4 at hw
        have h40 : C_4 4 0 = some (.inl (ca 2, 1400, .inl by0)) := by rw [← hC_4]; exact (pw_up_ne _ _ (by decide)).trans h40
        have h50 : C_4 5 0 = some (.inl (ca 2, 255, .inl (upd wt q1.length (vp_nar .byte ((((n.toUInt64 >>> ((nI (8 * r)).toInt64.toUInt64 &&& Int64.toUInt64 63)).toInt64).toInt32).toInt8.toInt32))))) := by rw [← hC_4]; exact (pw_up_ne _ _ (by decide)).trans h50
        have h60 : C_4 6 0 = some (.inl (ca 0, 35, .inl x1.2.2.1)) := by rw [← hC_4]; exact (pw_up_ne _ _ (by decide)).trans h60
        have h70 : C_4 7 0 = some (.inl (ca 0, 35, .inl sn.1)) := by rw [← hC_4]; exact (pw_up_ne _ _ (by decide)).trans h70
        have h30 : C_4 3 0 = some (.inr (1, [.ref (ad 4 0), .ref (ad 5 0), .ref (ad 6 0), .int (nI x1.1.length), .int (nI (q1.length + 1)), .int x1.2.2.2, .int x1.2.1, .ref (ad 7 0), .int sn.2.1, .int sn.2.2.1, .int sn.2.2.2])) := by rw [← hC_4]; exact pw_up_self _ _ _ _
        have hfr : ∀ x y, (x < 3 ∨ 7 < x) → C_4 x y = C x y := fun x y h => by rw [← hC_4]; exact (pw_up_ne _ _ (by omega)).trans (hfr x y h)
        obtain ⟨b1, hb1⟩ : ∃ z, z = es_by n w (w - 1 - r) := ⟨_, rfl⟩
        have hlq : (q1 ++ [b1]).length = q1.length + 1 := by simp
        have hO9 : os_x ca ad C_4 x1 (q1 ++ [b1]) (q1 ++ [b1]).length sn := by
          refine ⟨by0, _, ?_, h40, h50, h60, h70, hlen, hby, Nat.le_refl _, by rw [hlq]; omega, fun i hi => ?_⟩
          · rw [hlq]; exact h30
          · rw [hlq] at hi
            by_cases h2 : i < q1.length
            · rw [pk_un (by omega), hwt i h2, es_getl h2]
            · rw [show i = q1.length by omega, pk_us, es_getr (Nat.le_refl _), pk_vb, Nat.sub_self]; show _ = b1; rw [hb1]; unfold es_by; rw [show w - 1 - (w - 1 - r) = r by omega]
        refine lv_aload_n hx hb d_O_letWait_39 rfl (lv_at hl 1 rfl) ?_
        refine pw_get (Cn := "GraphWriter$Out") (T := F_O) (N := 11) hx hb hts in_O hown hK hw 3 0 rfl h30 rfl 4 (by decide) (hts _ wd_93) (fun _ h9 => h9) rfl d_O_letWait_40 ?_
        refine lv_sipush (v := 255) hx hb d_O_letWait_43 (by decide) ?_
        refine lv_icmp_ne (tgt := 53) hx hb d_O_letWait_46 (by decide) (fun c_5 => ?_) (fun c_5 => ?_)
        · have hn5 : ¬ q1.length + 1 = 255 := fun z => c_5 (by rw [z]; rfl)
          refine lv_iinc (v := (nI (8 * r)) + (-8)) (lv' := [(4, .int ((nI (8 * r)) + (-8))), (0, .ref (ad 3 0)), (1, .long n), (3, .int (nI w))]) hx hb d_O_letWait_53 hl (k := 0) rfl rfl (by decide) rfl (fun ls hl => ?_)
          rw [es_sh2 r] at hl
          refine lv_goto (tgt := 9) hx hb d_O_letWait_56 (by decide) ?_
          exact ih (by omega) x1 (q1 ++ [b1]) _ _ _ _ (by rw [← hes, hb1]; show _ = es_wait n w (r + 1) x1 q1; rw [es_wait, if_neg (by simp; omega)]) (by rw [hlq]; omega) hO9 hfr hw hl
        · have hn5 : q1.length + 1 = 255 := (nI_eq (by omega) (by decide)).mp c_5
          refine lv_aload_n hx hb d_O_letWait_49 rfl (lv_at hl 1 rfl) ?_
          refine pw_callv (va_runV (As := []) (rest := []) ⟨hx, hb, hml, hown, hts0⟩ (k_O_flush hZ hO9 _) (cwV 0 hts0 (wd_V wd_583 wd_580 wd_581 wd_582 wd_54) rfl rfl rfl (by decide +kernel) ⟨Nat.le_of_ble_eq_true rfl, Nat.le_of_ble_eq_true rfl⟩) (pw_preV hZ hw hA hK hz rfl h30 rfl) rfl rfl hl.1 rfl (lv_room (Nat.le_of_ble_eq_true rfl)) d_O_letWait_50 ⟨Nat.le_of_ble_eq_true rfl, Nat.le_of_ble_eq_true rfl⟩) hw hA (fun ad_6 C_7 H locs hp hw => ?_)
          obtain ⟨hae, hO, hf1⟩ := hp
          rw [hae] at hw; clear hae
          have hfr : os_fr C C_7 := fun x y h => (hf1 x y h).trans (hfr x y h)
          have hO := os_cut hO
          rw [List.take_zero, List.take_length] at hO
          refine lv_iinc (v := (nI (8 * r)) + (-8)) (lv' := [(4, .int ((nI (8 * r)) + (-8))), (0, .ref (ad 3 0)), (1, .long n), (3, .int (nI w))]) hx hb d_O_letWait_53 hl (k := 0) rfl rfl (by decide) rfl (fun ls hl => ?_)
          rw [es_sh2 r] at hl
          refine lv_goto (tgt := 9) hx hb d_O_letWait_56 (by decide) ?_
          exact ih (by omega) _ [] _ _ _ _ (by rw [← hes, hb1]; show _ = es_wait n w (r + 1) x1 q1; rw [es_wait, if_pos (by simp; omega)]) (by decide) hO hfr hw hl
  refine lv_bipush (v := 8) hx hb d_O_letWait_0 (by decide) ?_
  refine lv_iload_n hx hb d_O_letWait_2 rfl (lv_at hl 2 rfl) ?_
  refine lv_imul hx hb d_O_letWait_3 ?_
  refine lv_bipush (v := 8) hx hb d_O_letWait_4 (by decide) ?_
  refine lv_isub hx hb d_O_letWait_6 ?_
  refine lv_istore (lv' := [(4, .int ((8 * (nI w)) - 8)), (0, .ref (ad 3 0)), (1, .long n), (3, .int (nI w))]) hx hb d_O_letWait_7 hl (by decide) rfl (fun ls hl => ?_)
  exact key w (Nat.le_refl _) x w0 C _ _ _ rfl (by omega) (by rw [← hq]; exact hO0) hfr hw hl
end
section
/-- the texts of the constants -/
def z9_tx (i : Nat) : List Int32 := match i with
  | 0 => [97, 98, 99, 100, 101, 102, 103, 104, 105, 106, 107, 108, 109, 110, 111, 112, 113, 114, 115, 116, 117, 118, 119, 120, 121, 122]
  | 1 => [91, 73]
  | 2 => [91, 76, 106, 97, 118, 97, 46, 108, 97, 110, 103, 46, 79, 98, 106, 101, 99, 116, 59]
  | 3 => [66, 67, 73, 74, 83, 90, 91, 76]
  | 4 => [76, 106, 97, 118, 97, 47, 108, 97, 110, 103, 47, 79, 98, 106, 101, 99, 116, 59]
  | 5 => [106, 97, 118, 97, 46, 108, 97, 110, 103, 46, 69, 110, 117, 109]
  | 6 => []
  | _ => [65, 66, 67, 68, 69, 70]
/-- what stays: statics, constants' places, tables' words of their own kind -/
def z9_Z (kS : Nat → Nat) (kT : Nat) (A : Nat → Prop) (U : State) : Prop :=
  va_Z "java/lang/String" "COMPACT_STRINGS" "Z" (.int 1) A U U.heap ∧
  va_Zq "jdk/internal/util/Preconditions" "SIOOBE_FORMATTER" "Ljava/util/function/BiFunction;" A U U.heap ∧
  va_Z "GraphWriter" "TYPE_WIDTHS" "[I" (.ref kT) A U U.heap ∧
  vk_R "GraphWriter" 102 "abcdefghijklmnopqrstuvwxyz" (kS 0) U ∧
  vk_R "GraphWriter" 244 "[I" (kS 1) U ∧
  vk_R "GraphWriter" 257 "[Ljava.lang.Object;" (kS 2) U ∧
  vk_R "GraphWriter" 305 "BCIJSZ[L" (kS 3) U ∧
  vk_R "GraphWriter" 318 "Ljava/lang/Object;" (kS 4) U ∧
  vk_R "GraphWriter" 320 "java.lang.Enum" (kS 5) U ∧
  vk_R "GraphWriter" 81 "" (kS 6) U ∧
  vk_R "GraphWriter$Defined" 32 "ABCDEF" (kS 7) U ∧
  va_AO "GraphWriter$Defined" U ∧ va_AO "GraphWriter$Thing" U ∧ va_Nw (.methodLinkNest "GraphWriter" 23 ⟨"GraphWriter$Out", "<init>", "()V"⟩ "GraphWriter") U
theorem z9_ok (kS : Nat → Nat) (kT : Nat) : pw_Zok (z9_Z kS kT) := by
  intro A A' U V hW hA hs hk h
  obtain ⟨h1, h2, h3, s0, s1, s2, s3, s4, s5, s6, s7, a1, a2, n1⟩ := h
  have hk' : ∀ a : Nat, a < U.heap.size → ¬ A a → V.heap[a]? = U.heap[a]? := hk
  exact ⟨((va_Z.moved hW.alike h1).kept hk').narrow hA, ((va_Zq.moved hW.alike h2).kept hk').narrow hA, ((va_Z.moved hW.alike h3).kept hk').narrow hA, s0.warm hW, s1.warm hW, s2.warm hW, s3.warm hW, s4.warm hW, s5.warm hW, s6.warm hW, s7.warm hW, va_AO.moved hW.alike a1, va_AO.moved hW.alike a2, va_Nw.warmM hW n1⟩
/-- a text's two cells -/
def st_at (ca : Nat → ClassId) (ad : pw_A) (C : pw_C) (x y x2 y2 : Nat) (t : List Int32) : Prop := ∃ (f : Nat → Int32) (g1 g2 : Value), C x y = some (.inr (5, [.ref (ad x2 y2), .int 0, g1, g2])) ∧ C x2 y2 = some (.inl (ca 2, t.length, .inl f)) ∧ (∀ i, i < t.length → f i = t.getD i 0) ∧ t.length < 2 ^ 15 ∧ ∀ i, i < t.length → ∃ k : Nat, k < 128 ∧ t.getD i 0 = nI k
set_option maxHeartbeats 4000000 in
set_option maxRecDepth 100000 in
theorem k_JS_coder {l : Launch} {D : va_G} {ca : Nat → ClassId} {kS : Nat → Nat} {kT : Nat} {ad : pw_A} {C : pw_C} {x y x2 y2 : Nat} {t : List Int32} (hT : st_at ca ad C x y x2 y2 t) : gc_Con l y_JS_coder c_JS_coder ({ frames := 0, cells := 0, slots := 0, locals := 0 }) D ca (z9_Z kS kT) [.ref (ad x y)] ad C (pw_pi (fun r ad' C' => (ad' = ad ∧ C' = C) ∧ r = 0)) 0 0 := by
  have hZ := z9_ok kS kT
  have hT0 := hT
  obtain ⟨f, g1, g2, hs0, hs1, hsf, hsn, hsc⟩ := hT
  refine pw_ofW (cc := b_JS_coder) (maxL := 1) (ret := (some FieldType.byte)) (by decide) rfl (Nat.le_of_ble_eq_true rfl) ?_
  intro p e s m args below meth c A ls hB hA hw hK hz hl
  obtain ⟨hx, hb, hr, hml, hts0, hlocks, hown, hnm⟩ := hB
  have hts := wd_hts hts0
  have hown : s.vm.findClass "java/lang/String" = some m.cls := hown
  have hl : lv_has ls 1 [(0, .ref (ad x y))] := hl
  have hz0 := hz
  obtain ⟨hz1, hz2, hz3, -⟩ := hz0
  refine va_gets (v := .int 1) hx hb hz1 hw.2.2.1 hown (hts _ wd_203) (fun _ h9 => h9) d_JS_coder_0 ?_
  refine lv_if_eq (tgt := 13) hx hb d_JS_coder_3 (by decide) (fun c_1 => ?_) (fun c_1 => ?_)
  · exact absurd c_1 (by decide)
  · skip
    refine lv_aload_n hx hb d_JS_coder_6 rfl (lv_at hl 0 rfl) ?_
    refine pw_get (Cn := "java/lang/String") (T := F_JS) (N := 4) hx hb hts in_JS hown hK hw x y rfl hs0 rfl 1 (by decide) (hts _ wd_242) (fun _ h9 => h9) rfl d_JS_coder_7 ?_
    refine lv_goto (tgt := 14) hx hb d_JS_coder_10 (by decide) ?_
    exact pw_zret hx hb hr hlocks hw rfl ⟨⟨rfl, rfl⟩, rfl⟩ d_JS_coder_14
set_option maxHeartbeats 4000000 in
set_option maxRecDepth 100000 in
theorem k_JS_isLatin1 {l : Launch} {D : va_G} {ca : Nat → ClassId} {kS : Nat → Nat} {kT : Nat} {ad : pw_A} {C : pw_C} {x y x2 y2 : Nat} {t : List Int32} (hT : st_at ca ad C x y x2 y2 t) : gc_Con l y_JS_isLatin1 c_JS_isLatin1 ({ frames := 0, cells := 0, slots := 0, locals := 0 }) D ca (z9_Z kS kT) [.ref (ad x y)] ad C (pw_pi (fun r ad' C' => (ad' = ad ∧ C' = C) ∧ r = 1)) 0 0 := by
  have hZ := z9_ok kS kT
  have hT0 := hT
  obtain ⟨f, g1, g2, hs0, hs1, hsf, hsn, hsc⟩ := hT
  refine pw_ofW (cc := b_JS_isLatin1) (maxL := 1) (ret := (some FieldType.boolean)) (by decide) rfl (Nat.le_of_ble_eq_true rfl) ?_
  intro p e s m args below meth c A ls hB hA hw hK hz hl
  obtain ⟨hx, hb, hr, hml, hts0, hlocks, hown, hnm⟩ := hB
  have hts := wd_hts hts0
  have hown : s.vm.findClass "java/lang/String" = some m.cls := hown
  have hl : lv_has ls 1 [(0, .ref (ad x y))] := hl
  have hz0 := hz
  obtain ⟨hz1, hz2, hz3, -⟩ := hz0
  refine va_gets (v := .int 1) hx hb hz1 hw.2.2.1 hown (hts _ wd_203) (fun _ h9 => h9) d_JS_isLatin1_0 ?_
  refine lv_if_eq (tgt := 17) hx hb d_JS_isLatin1_3 (by decide) (fun c_1 => ?_) (fun c_1 => ?_)
  · exact absurd c_1 (by decide)
  · skip
    refine lv_aload_n hx hb d_JS_isLatin1_6 rfl (lv_at hl 0 rfl) ?_
    refine pw_get (Cn := "java/lang/String") (T := F_JS) (N := 4) hx hb hts in_JS hown hK hw x y rfl hs0 rfl 1 (by decide) (hts _ wd_242) (fun _ h9 => h9) rfl d_JS_isLatin1_7 ?_
    refine lv_if_ne (tgt := 17) hx hb d_JS_isLatin1_10 (by decide) (fun c_2 => ?_) (fun c_2 => ?_)
    · exact absurd rfl c_2
    · skip
      refine lv_iconst (v := 1) hx hb d_JS_isLatin1_13 (by decide) ?_
      refine lv_goto (tgt := 18) hx hb d_JS_isLatin1_14 (by decide) ?_
      exact pw_zret hx hb hr hlocks hw rfl ⟨⟨rfl, rfl⟩, rfl⟩ d_JS_isLatin1_18
set_option maxHeartbeats 4000000 in
set_option maxRecDepth 100000 in
theorem k_JS_length {l : Launch} {D : va_G} {ca : Nat → ClassId} {kS : Nat → Nat} {kT : Nat} {ad : pw_A} {C : pw_C} {x y x2 y2 : Nat} {t : List Int32} (hT : st_at ca ad C x y x2 y2 t) : gc_Con l y_JS_length c_JS_length ({ frames := 1, cells := 0, slots := 0, locals := 20 }) D ca (z9_Z kS kT) [.ref (ad x y)] ad C (pw_pi (fun r ad' C' => (ad' = ad ∧ C' = C) ∧ r = nI t.length)) 0 0 := by
  have hZ := z9_ok kS kT
  have hT0 := hT
  obtain ⟨f, g1, g2, hs0, hs1, hsf, hsn, hsc⟩ := hT
  refine pw_ofW (cc := b_JS_length) (maxL := 1) (ret := (some FieldType.int)) (by decide) rfl (Nat.le_of_ble_eq_true rfl) ?_
  intro p e s m args below meth c A ls hB hA hw hK hz hl
  obtain ⟨hx, hb, hr, hml, hts0, hlocks, hown, hnm⟩ := hB
  have hts := wd_hts hts0
  have hown : s.vm.findClass "java/lang/String" = some m.cls := hown
  have hl : lv_has ls 1 [(0, .ref (ad x y))] := hl
  have hz0 := hz
  obtain ⟨hz1, hz2, hz3, -⟩ := hz0
  refine lv_aload_n hx hb d_JS_length_0 rfl (lv_at hl 0 rfl) ?_
  refine pw_get (Cn := "java/lang/String") (T := F_JS) (N := 4) hx hb hts in_JS hown hK hw x y rfl hs0 rfl 0 (by decide) (hts _ wd_241) (fun _ h9 => h9) rfl d_JS_length_1 ?_
  refine pw_alen hx hb hK hw x2 y2 rfl 2 hs1 rfl d_JS_length_4 ?_
  refine lv_aload_n hx hb d_JS_length_5 rfl (lv_at hl 0 rfl) ?_
  refine pw_calli (va_runV (As := []) (rest := [.int (nI t.length)]) ⟨hx, hb, hml, hown, hts0⟩ (k_JS_coder hT0 _) (cwV 0 hts0 (wd_V wd_202 wd_199 wd_200 wd_201 wd_60) rfl rfl rfl (by decide +kernel) ⟨Nat.le_of_ble_eq_true rfl, Nat.le_of_ble_eq_true rfl⟩) (pw_preV hZ hw hA hK hz rfl hs0 rfl) rfl rfl hl.1 rfl (lv_room (Nat.le_of_ble_eq_true rfl)) d_JS_length_6 ⟨Nat.le_of_ble_eq_true rfl, Nat.le_of_ble_eq_true rfl⟩) hw hA (fun r_3 ad_1 C_2 H locs hp hw => ?_)
  obtain ⟨⟨hae, hce⟩, hre⟩ := hp
  rw [hae, hce] at hw
  rw [hre]
  clear hae hce hre
  refine lv_ishr hx hb d_JS_length_9 ?_
  rw [sb_shr0]
  exact pw_iret hx hb hr hlocks hw ⟨⟨rfl, rfl⟩, rfl⟩ d_JS_length_10
set_option maxHeartbeats 4000000 in
set_option maxRecDepth 100000 in
theorem k_JC_checkIndexN {l : Launch} {D : va_G} {ca : Nat → ClassId} {kS : Nat → Nat} {kT : Nat} {ad : pw_A} {C : pw_C} {j n : Nat} (hj : j < n) (hn : n < 2 ^ 31) : gc_Con l y_JC_checkIndex c_JC_checkIndex ({ frames := 0, cells := 0, slots := 0, locals := 0 }) D ca (z9_Z kS kT) [.int (nI j), .int (nI n), .null] ad C (pw_pi (fun r ad' C' => (ad' = ad ∧ C' = C) ∧ r = nI j)) 0 0 := by
  have hZ := z9_ok kS kT
  refine pw_ofW (cc := b_JC_checkIndex) (maxL := 3) (ret := (some FieldType.int)) (by decide) rfl (Nat.le_of_ble_eq_true rfl) ?_
  intro p e s m args below meth c A ls hB hA hw hK hz hl
  obtain ⟨hx, hb, hr, hml, hts0, hlocks, hown, hnm⟩ := hB
  have hts := wd_hts hts0
  have hown : s.vm.findClass "jdk/internal/util/Preconditions" = some m.cls := hown
  have hl : lv_has ls 3 [(0, .int (nI j)), (1, .int (nI n)), (2, .null)] := hl
  have hz0 := hz
  obtain ⟨hz1, hz2, hz3, -⟩ := hz0
  refine lv_iload_n hx hb d_JC_checkIndex_0 rfl (lv_at hl 0 rfl) ?_
  refine lv_if_lt (tgt := 9) hx hb d_JC_checkIndex_1 (by decide) (fun c_1 => ?_) (fun c_1 => ?_)
  · exact absurd c_1 (nI_pos (by omega))
  · skip
    refine lv_iload_n hx hb d_JC_checkIndex_4 rfl (lv_at hl 0 rfl) ?_
    refine lv_iload_n hx hb d_JC_checkIndex_5 rfl (lv_at hl 1 rfl) ?_
    refine lv_icmp_lt (tgt := 16) hx hb d_JC_checkIndex_6 (by decide) (fun c_2 => ?_) (fun c_2 => ?_)
    · skip
      refine lv_iload_n hx hb d_JC_checkIndex_16 rfl (lv_at hl 0 rfl) ?_
      exact pw_iret hx hb hr hlocks hw ⟨⟨rfl, rfl⟩, rfl⟩ d_JC_checkIndex_17
    · exact absurd (nI_lt hj hn) c_2
set_option maxHeartbeats 4000000 in
set_option maxRecDepth 100000 in
theorem k_JC_checkIndexR {l : Launch} {D : va_G} {ca : Nat → ClassId} {kS : Nat → Nat} {kT : Nat} {ad : pw_A} {C : pw_C} {q : Nat} {j n : Nat} (hj : j < n) (hn : n < 2 ^ 31) : gc_Con l y_JC_checkIndex c_JC_checkIndex ({ frames := 0, cells := 0, slots := 0, locals := 0 }) D ca (z9_Z kS kT) [.int (nI j), .int (nI n), .ref q] ad C (pw_pi (fun r ad' C' => (ad' = ad ∧ C' = C) ∧ r = nI j)) 0 0 := by
  have hZ := z9_ok kS kT
  refine pw_ofW (cc := b_JC_checkIndex) (maxL := 3) (ret := (some FieldType.int)) (by decide) rfl (Nat.le_of_ble_eq_true rfl) ?_
  intro p e s m args below meth c A ls hB hA hw hK hz hl
  obtain ⟨hx, hb, hr, hml, hts0, hlocks, hown, hnm⟩ := hB
  have hts := wd_hts hts0
  have hown : s.vm.findClass "jdk/internal/util/Preconditions" = some m.cls := hown
  have hl : lv_has ls 3 [(0, .int (nI j)), (1, .int (nI n)), (2, .ref q)] := hl
  have hz0 := hz
  obtain ⟨hz1, hz2, hz3, -⟩ := hz0
  refine lv_iload_n hx hb d_JC_checkIndex_0 rfl (lv_at hl 0 rfl) ?_
  refine lv_if_lt (tgt := 9) hx hb d_JC_checkIndex_1 (by decide) (fun c_1 => ?_) (fun c_1 => ?_)
  · exact absurd c_1 (nI_pos (by omega))
  · skip
    refine lv_iload_n hx hb d_JC_checkIndex_4 rfl (lv_at hl 0 rfl) ?_
    refine lv_iload_n hx hb d_JC_checkIndex_5 rfl (lv_at hl 1 rfl) ?_
    refine lv_icmp_lt (tgt := 16) hx hb d_JC_checkIndex_6 (by decide) (fun c_2 => ?_) (fun c_2 => ?_)
    · skip
      refine lv_iload_n hx hb d_JC_checkIndex_16 rfl (lv_at hl 0 rfl) ?_
      exact pw_iret hx hb hr hlocks hw ⟨⟨rfl, rfl⟩, rfl⟩ d_JC_checkIndex_17
    · exact absurd (nI_lt hj hn) c_2
set_option maxHeartbeats 4000000 in
set_option maxRecDepth 100000 in
theorem k_JS_checkIndex {l : Launch} {D : va_G} {ca : Nat → ClassId} {kS : Nat → Nat} {kT : Nat} {ad : pw_A} {C : pw_C} {j n : Nat} (hj : j < n) (hn : n < 2 ^ 31) : gc_Con l y_JS_checkIndex c_JS_checkIndex ({ frames := 1, cells := 0, slots := 0, locals := 22 }) D ca (z9_Z kS kT) [.int (nI j), .int (nI n)] ad C (pw_pv (fun ad' C' => ad' = ad ∧ C' = C)) 0 0 := by
  have hZ := z9_ok kS kT
  refine pw_ofW (cc := b_JS_checkIndex) (maxL := 2) (ret := none) (by decide) rfl (Nat.le_of_ble_eq_true rfl) ?_
  intro p e s m args below meth c A ls hB hA hw hK hz hl
  obtain ⟨hx, hb, hr, hml, hts0, hlocks, hown, hnm⟩ := hB
  have hts := wd_hts hts0
  have hown : s.vm.findClass "java/lang/String" = some m.cls := hown
  have hl : lv_has ls 2 [(0, .int (nI j)), (1, .int (nI n))] := hl
  have hz0 := hz
  obtain ⟨hz1, hz2, hz3, -⟩ := hz0
  refine lv_iload_n hx hb d_JS_checkIndex_0 rfl (lv_at hl 0 rfl) ?_
  refine lv_iload_n hx hb d_JS_checkIndex_1 rfl (lv_at hl 1 rfl) ?_
  rcases hz2 with hz2 | ⟨q, hz2⟩
  · skip
    refine va_gets (v := .null) hx hb hz2 hw.2.2.1 hown (hts _ wd_208) (fun _ h9 => h9) d_JS_checkIndex_2 ?_
    refine pw_calli (va_runS (As := [.int (nI j), .int (nI n), .null]) (rest := []) ⟨hx, hb, hml, hown, hts0⟩ (k_JC_checkIndexN hj hn _) (va_cwS 3 hts0 (wd_S wd_503 wd_501 wd_502 wd_61) rfl rfl rfl (by decide +kernel) ⟨Nat.le_of_ble_eq_true rfl, Nat.le_of_ble_eq_true rfl⟩) (pw_preS hZ hw hA hK hz) rfl rfl hl.1 rfl (lv_room (Nat.le_of_ble_eq_true rfl)) d_JS_checkIndex_5 ⟨Nat.le_of_ble_eq_true rfl, Nat.le_of_ble_eq_true rfl⟩) hw hA (fun r_3 ad_1 C_2 H locs hp hw => ?_)
    obtain ⟨⟨hae, hce⟩, hre⟩ := hp
    rw [hae, hce] at hw
    rw [hre]
    clear hae hce hre
    refine lv_pop hx hb d_JS_checkIndex_8 rfl ?_
    exact pw_vret hx hb hr hlocks hw ⟨rfl, rfl⟩ d_JS_checkIndex_9
  · skip
    refine va_gets (v := .ref q) hx hb hz2 hw.2.2.1 hown (hts _ wd_208) (fun _ h9 => h9) d_JS_checkIndex_2 ?_
    refine pw_calli (va_runS (As := [.int (nI j), .int (nI n), .ref q]) (rest := []) ⟨hx, hb, hml, hown, hts0⟩ (k_JC_checkIndexR hj hn _) (va_cwS 3 hts0 (wd_S wd_503 wd_501 wd_502 wd_61) rfl rfl rfl (by decide +kernel) ⟨Nat.le_of_ble_eq_true rfl, Nat.le_of_ble_eq_true rfl⟩) (pw_preS hZ hw hA hK hz) rfl rfl hl.1 rfl (lv_room (Nat.le_of_ble_eq_true rfl)) d_JS_checkIndex_5 ⟨Nat.le_of_ble_eq_true rfl, Nat.le_of_ble_eq_true rfl⟩) hw hA (fun r_6 ad_4 C_5 H locs hp hw => ?_)
    obtain ⟨⟨hae, hce⟩, hre⟩ := hp
    rw [hae, hce] at hw
    rw [hre]
    clear hae hce hre
    refine lv_pop hx hb d_JS_checkIndex_8 rfl ?_
    exact pw_vret hx hb hr hlocks hw ⟨rfl, rfl⟩ d_JS_checkIndex_9
theorem st_char : ∀ k, k < 128 → ((nI k &&& nI 255).toUInt32 % 65536).toInt32 = nI k := by decide +kernel
set_option maxHeartbeats 4000000 in
set_option maxRecDepth 100000 in
theorem k_JL_charAt {l : Launch} {D : va_G} {ca : Nat → ClassId} {kS : Nat → Nat} {kT : Nat} {ad : pw_A} {C : pw_C} {x y x2 y2 : Nat} {t : List Int32} (hT : st_at ca ad C x y x2 y2 t) {j : Nat} (hj : j < t.length) : gc_Con l y_JL_charAt c_JL_charAt ({ frames := 2, cells := 0, slots := 0, locals := 43 }) D ca (z9_Z kS kT) [.ref (ad x2 y2), .int (nI j)] ad C (pw_pi (fun r ad' C' => (ad' = ad ∧ C' = C) ∧ r = t.getD j 0)) 0 0 := by
  have hZ := z9_ok kS kT
  have hT0 := hT
  obtain ⟨f, g1, g2, hs0, hs1, hsf, hsn, hsc⟩ := hT
  refine pw_ofW (cc := b_JL_charAt) (maxL := 2) (ret := (some FieldType.char)) (by decide) rfl (Nat.le_of_ble_eq_true rfl) ?_
  intro p e s m args below meth c A ls hB hA hw hK hz hl
  obtain ⟨hx, hb, hr, hml, hts0, hlocks, hown, hnm⟩ := hB
  have hts := wd_hts hts0
  have hown : s.vm.findClass "java/lang/StringLatin1" = some m.cls := hown
  have hl : lv_has ls 2 [(0, .ref (ad x2 y2)), (1, .int (nI j))] := hl
  have hz0 := hz
  obtain ⟨hz1, hz2, hz3, -⟩ := hz0
  refine lv_iload_n hx hb d_JL_charAt_0 rfl (lv_at hl 1 rfl) ?_
  refine lv_aload_n hx hb d_JL_charAt_1 rfl (lv_at hl 0 rfl) ?_
  refine pw_alen hx hb hK hw x2 y2 rfl 2 hs1 rfl d_JL_charAt_2 ?_
  refine pw_callv (va_runS (As := [.int (nI j), .int (nI t.length)]) (rest := []) ⟨hx, hb, hml, hown, hts0⟩ (k_JS_checkIndex hj (by omega) _) (va_cwS 2 hts0 (wd_S wd_500 wd_632 wd_499 wd_60) rfl rfl rfl (by decide +kernel) ⟨Nat.le_of_ble_eq_true rfl, Nat.le_of_ble_eq_true rfl⟩) (pw_preS hZ hw hA hK hz) rfl rfl hl.1 rfl (lv_room (Nat.le_of_ble_eq_true rfl)) d_JL_charAt_3 ⟨Nat.le_of_ble_eq_true rfl, Nat.le_of_ble_eq_true rfl⟩) hw hA (fun ad_1 C_2 H locs hp hw => ?_)
  obtain ⟨hae, hce⟩ := hp
  rw [hae, hce] at hw
  clear hae hce
  refine lv_aload_n hx hb d_JL_charAt_6 rfl (lv_at hl 0 rfl) ?_
  refine lv_iload_n hx hb d_JL_charAt_7 rfl (lv_at hl 1 rfl) ?_
  refine pw_bald hx hb hK hw x2 y2 rfl 2 hs1 rfl j rfl (by omega) (by omega) d_JL_charAt_8 ?_
  refine lv_sipush (v := 255) hx hb d_JL_charAt_9 (by decide) ?_
  refine lv_iand hx hb d_JL_charAt_12 ?_
  refine lv_i2c hx hb d_JL_charAt_13 rfl ?_
  obtain ⟨k, hk, hk2⟩ := hsc j hj
  have e9 : ((f j &&& 255).toUInt32 % 65536).toInt32 = t.getD j 0 := by
    rw [hsf j hj, hk2, show (255 : Int32) = nI 255 from rfl]
    exact st_char k hk
  rw [e9]
  exact pw_zret hx hb hr hlocks hw (by rw [hk2]; exact (pk_charN (by omega)).1) ⟨⟨rfl, rfl⟩, rfl⟩ d_JL_charAt_14
set_option maxHeartbeats 4000000 in
set_option maxRecDepth 100000 in
theorem k_JS_charAt {l : Launch} {D : va_G} {ca : Nat → ClassId} {kS : Nat → Nat} {kT : Nat} {ad : pw_A} {C : pw_C} {x y x2 y2 : Nat} {t : List Int32} (hT : st_at ca ad C x y x2 y2 t) {j : Nat} (hj : j < t.length) : gc_Con l y_JS_charAt c_JS_charAt ({ frames := 3, cells := 0, slots := 0, locals := 64 }) D ca (z9_Z kS kT) [.ref (ad x y), .int (nI j)] ad C (pw_pi (fun r ad' C' => (ad' = ad ∧ C' = C) ∧ r = t.getD j 0)) 0 0 := by
  have hZ := z9_ok kS kT
  have hT0 := hT
  obtain ⟨f, g1, g2, hs0, hs1, hsf, hsn, hsc⟩ := hT
  refine pw_ofW (cc := b_JS_charAt) (maxL := 2) (ret := (some FieldType.char)) (by decide) rfl (Nat.le_of_ble_eq_true rfl) ?_
  intro p e s m args below meth c A ls hB hA hw hK hz hl
  obtain ⟨hx, hb, hr, hml, hts0, hlocks, hown, hnm⟩ := hB
  have hts := wd_hts hts0
  have hown : s.vm.findClass "java/lang/String" = some m.cls := hown
  have hl : lv_has ls 2 [(0, .ref (ad x y)), (1, .int (nI j))] := hl
  have hz0 := hz
  obtain ⟨hz1, hz2, hz3, -⟩ := hz0
  refine lv_aload_n hx hb d_JS_charAt_0 rfl (lv_at hl 0 rfl) ?_
  refine pw_calli (va_runV (As := []) (rest := []) ⟨hx, hb, hml, hown, hts0⟩ (k_JS_isLatin1 hT0 _) (cwV 0 hts0 (wd_V wd_216 wd_213 wd_214 wd_215 wd_60) rfl rfl rfl (by decide +kernel) ⟨Nat.le_of_ble_eq_true rfl, Nat.le_of_ble_eq_true rfl⟩) (pw_preV hZ hw hA hK hz rfl hs0 rfl) rfl rfl hl.1 rfl (lv_room (Nat.le_of_ble_eq_true rfl)) d_JS_charAt_1 ⟨Nat.le_of_ble_eq_true rfl, Nat.le_of_ble_eq_true rfl⟩) hw hA (fun r_3 ad_1 C_2 H locs hp hw => ?_)
  obtain ⟨⟨hae, hce⟩, hre⟩ := hp
  rw [hae, hce] at hw
  rw [hre]
  clear hae hce hre
  refine lv_if_eq (tgt := 16) hx hb d_JS_charAt_4 (by decide) (fun c_4 => ?_) (fun c_4 => ?_)
  · exact absurd c_4 (by decide)
  · skip
    refine lv_aload_n hx hb d_JS_charAt_7 rfl (lv_at hl 0 rfl) ?_
    refine pw_get (Cn := "java/lang/String") (T := F_JS) (N := 4) hx hb hts in_JS hown hK hw x y rfl hs0 rfl 0 (by decide) (hts _ wd_241) (fun _ h9 => h9) rfl d_JS_charAt_8 ?_
    refine lv_iload_n hx hb d_JS_charAt_11 rfl (lv_at hl 1 rfl) ?_
    refine pw_calli (va_runS (As := [.ref (ad x2 y2), .int (nI j)]) (rest := []) ⟨hx, hb, hml, hown, hts0⟩ (k_JL_charAt hT0 hj _) (va_cwS 2 hts0 (wd_S wd_631 wd_629 wd_630 wd_62) rfl rfl rfl (by decide +kernel) ⟨Nat.le_of_ble_eq_true rfl, Nat.le_of_ble_eq_true rfl⟩) (pw_preS hZ hw hA hK hz) rfl rfl hl.1 rfl (lv_room (Nat.le_of_ble_eq_true rfl)) d_JS_charAt_12 ⟨Nat.le_of_ble_eq_true rfl, Nat.le_of_ble_eq_true rfl⟩) hw hA (fun r_7 ad_5 C_6 H locs hp hw => ?_)
    obtain ⟨⟨hae, hce⟩, hre⟩ := hp
    rw [hae, hce] at hw
    rw [hre]
    clear hae hce hre
    obtain ⟨k, hk, hk2⟩ := hsc j hj
    exact pw_zret hx hb hr hlocks hw (by rw [hk2]; exact (pk_charN (by omega)).1) ⟨⟨rfl, rfl⟩, rfl⟩ d_JS_charAt_15
end
section
theorem st_at.fr {ca : Nat → ClassId} {ad : pw_A} {C C1 : pw_C} {u v u2 v2 : Nat} {t : List Int32} (h : st_at ca ad C u v u2 v2 t) (hf : os_fr C C1) (hu : u < 3 ∨ 7 < u) (hu2 : u2 < 3 ∨ 7 < u2) : st_at ca ad C1 u v u2 v2 t := by
  obtain ⟨f, g1, g2, h0, h1, h2⟩ := h
  exact ⟨f, g1, g2, (hf u v hu).trans h0, (hf u2 v2 hu2).trans h1, h2⟩
def es_utf (x : ES) (t : List Int32) : ES := t.foldl (fun x c => es_put x c.toInt64 1) (es_put x (nI t.length).toInt64 2)
def es_text (x : ES) (k : Nat) (t : List Int32) : ES := es_utf (es_give (es_put x 116 1) k) t
/-- a descriptor is begun; 0 if it has a handle: then a reference is all -/
def es_desc (x : ES) (k : Nat) (t : List Int32) (i : Int64) (fl fd : Int32) : ES × Int32 := if (es_ref x k).2 = 0 then (es_put (es_put (es_give (es_put (es_utf (es_put (es_ref x k).1 114 1) t) i 8) k) fl.toInt64 1) fd.toInt64 2, 1) else ((es_ref x k).1, 0)
def es_abort (x : ES) (t : List Int32) : ES := (fun z : ES => if z.2.1 = 0 then es_oc z (-3) else z) (es_put (es_utf (es_put (es_put (es_put x 123 1) 121 1) 116 1) t) 121 1)
set_option maxHeartbeats 4000000 in
set_option maxRecDepth 100000 in
theorem k_O_putUtf {l : Launch} {D : va_G} {ca : Nat → ClassId} {kS : Nat → Nat} {kT : Nat} {ad : pw_A} {C : pw_C} {x : ES} {w0 : List Int32} {wn : Nat} {sn : SN} (hO : os_x ca ad C x w0 wn sn) {u v u2 v2 : Nat} {t : List Int32} (hT : st_at ca ad C u v u2 v2 t) (hu : u < 3 ∨ 7 < u) (hu2 : u2 < 3 ∨ 7 < u2) : gc_Con l y_O_putUtf c_O_putUtf ({ frames := 4, cells := 0, slots := 0, locals := 85 }) D ca (z9_Z kS kT) [.ref (ad 3 0), .ref (ad u v)] ad C (pw_pv (fun ad' C' => ad' = ad ∧ os_x ca ad C' (es_utf x t) w0 wn sn ∧ os_fr C C')) 0 0 := by
  have hZ := z9_ok kS kT
  have hO0 := hO
  obtain ⟨by0, wt, h30, h40, h50, h60, h70, hlen, hby, hwn, hw0, hwt⟩ := hO
  have hT0 := hT
  obtain ⟨f, g1, g2, hs0, hs1, hsf, hsn, hsc⟩ := hT
  refine pw_ofW (cc := b_O_putUtf) (maxL := 3) (ret := none) (by decide) rfl (Nat.le_of_ble_eq_true rfl) ?_
  intro p e s m args below meth c A ls hB hA hw hK hz hl
  obtain ⟨hx, hb, hr, hml, hts0, hlocks, hown, hnm⟩ := hB
  have hts := wd_hts hts0
  have hown : s.vm.findClass "GraphWriter$Out" = some m.cls := hown
  have hl : lv_has ls 3 [(0, .ref (ad 3 0)), (1, .ref (ad u v))] := hl
  have hfr : os_fr C C := fun _ _ _ => rfl
  refine lv_aload_n hx hb d_O_putUtf_0 rfl (lv_at hl 0 rfl) ?_
  refine lv_aload_n hx hb d_O_putUtf_1 rfl (lv_at hl 1 rfl) ?_
  refine pw_calli (va_runV (As := []) (rest := [.ref (ad 3 0)]) ⟨hx, hb, hml, hown, hts0⟩ (k_JS_length hT0 _) (cwV 0 hts0 (wd_V wd_198 wd_624 wd_196 wd_197 wd_60) rfl rfl rfl (by decide +kernel) ⟨Nat.le_of_ble_eq_true rfl, Nat.le_of_ble_eq_true rfl⟩) (pw_preV hZ hw hA hK hz rfl hs0 rfl) rfl rfl hl.1 rfl (lv_room (Nat.le_of_ble_eq_true rfl)) d_O_putUtf_2 ⟨Nat.le_of_ble_eq_true rfl, Nat.le_of_ble_eq_true rfl⟩) hw hA (fun r_3 ad_1 C_2 H locs hp hw => ?_)
  obtain ⟨⟨hae, hce⟩, hre⟩ := hp
  rw [hae, hce] at hw
  rw [hre]
  clear hae hce hre
  refine lv_i2l hx hb d_O_putUtf_5 rfl ?_
  refine lv_iconst (v := 2) hx hb d_O_putUtf_6 (by decide) ?_
  refine pw_callv (va_runV (As := [.long ((nI t.length).toInt64), .int 2]) (rest := []) ⟨hx, hb, hml, hown, hts0⟩ (k_O_put hO0 ((nI t.length).toInt64) (w := 2) (by decide) _) (cwV 2 hts0 (wd_V wd_139 wd_585 wd_137 wd_138 wd_54) rfl rfl rfl (by decide +kernel) ⟨Nat.le_of_ble_eq_true rfl, Nat.le_of_ble_eq_true rfl⟩) (pw_preV hZ hw hA hK hz rfl h30 rfl) rfl rfl hl.1 rfl (lv_room (Nat.le_of_ble_eq_true rfl)) d_O_putUtf_7 ⟨Nat.le_of_ble_eq_true rfl, Nat.le_of_ble_eq_true rfl⟩) hw hA (fun ad_4 C_5 H locs hp hw => ?_)
  obtain ⟨hae, hO, hf1⟩ := hp
  rw [hae] at hw; clear hae
  have hfr : os_fr C C_5 := fun x y h => (hf1 x y h).trans (hfr x y h)
  obtain ⟨x_7, hx_7⟩ : ∃ z, z = es_put x ((nI t.length).toInt64) 2 := ⟨_, rfl⟩
  rw [← hx_7] at hO
  have hO0 := hO
  obtain ⟨by0, wt, h30, h40, h50, h60, h70, hlen, hby, hwn, hw0, hwt⟩ := hO
  have hT := hT0.fr hf1 hu hu2
  have hT0 := hT
  obtain ⟨f, g1, g2, hs0, hs1, hsf, hsn, hsc⟩ := hT
  refine lv_iconst (v := 0) hx hb d_O_putUtf_10 (by decide) ?_
  refine lv_istore_n (lv' := [(2, .int 0), (0, .ref (ad 3 0)), (1, .ref (ad u v))]) hx hb d_O_putUtf_11 rfl hl (by decide) rfl (fun ls hl => ?_)
  have key : ∀ (r j : Nat), j + r = t.length → ∀ (x1 : ES) (C1 : pw_C) (H : Heap) (locs : List Loc) (ls : Array Slot), x1 = (t.take j).foldl (fun x c => es_put x c.toInt64 1) x_7 → os_x ca ad C1 x1 w0 wn sn → st_at ca ad C1 u v u2 v2 t → os_fr C C1 → pw_H D cls9 A s.heap ad C ad C1 H locs → lv_has ls 3 [(2, .int (nI j)), (0, .ref (ad 3 0)), (1, .ref (ad u v))] → W p l e ({ frames := 4, cells := 0, slots := 0, locals := 85 }) s m args below meth c H locs 0 0 (MQ below (pw_Q D cls9 ad C (pw_pv (fun ad' C' => ad' = ad ∧ os_x ca ad C' (es_utf x t) w0 wn sn ∧ os_fr C C')) A) args s 0 0 A) (F0 m 12 ls []) := by
    intro r
    induction r with
    | zero =>
      intro j hj x1 C1 H locs ls hx1 hO hT hfr hw hl
      have hO0 := hO
      obtain ⟨by0, wt, h30, h40, h50, h60, h70, hlen, hby, hwn, hw0, hwt⟩ := hO
      have hT0 := hT
      obtain ⟨f, g1, g2, hs0, hs1, hsf, hsn, hsc⟩ := hT
      refine lv_iload_n hx hb d_O_putUtf_12 rfl (lv_at hl 0 rfl) ?_
      refine lv_aload_n hx hb d_O_putUtf_13 rfl (lv_at hl 2 rfl) ?_
      refine pw_calli (va_runV (As := []) (rest := [.int (nI j)]) ⟨hx, hb, hml, hown, hts0⟩ (k_JS_length hT0 _) (cwV 0 hts0 (wd_V wd_198 wd_624 wd_196 wd_197 wd_60) rfl rfl rfl (by decide +kernel) ⟨Nat.le_of_ble_eq_true rfl, Nat.le_of_ble_eq_true rfl⟩) (pw_preV hZ hw hA hK hz rfl hs0 rfl) rfl rfl hl.1 rfl (lv_room (Nat.le_of_ble_eq_true rfl)) d_O_putUtf_14 ⟨Nat.le_of_ble_eq_true rfl, Nat.le_of_ble_eq_true rfl⟩) hw hA (fun r_10 ad_8 C_9 H locs hp hw => ?_)
      obtain ⟨⟨hae, hce⟩, hre⟩ := hp
      rw [hae, hce] at hw
      rw [hre]
      clear hae hce hre
      refine lv_icmp_ge (tgt := 37) hx hb d_O_putUtf_17 (by decide) (fun c_11 => ?_) (fun c_11 => ?_)
      · skip
        have e9 : es_utf x t = x1 := by rw [hx1, hx_7, List.take_of_length_le (by omega)]; rfl
        refine pw_vret hx hb hr hlocks hw ⟨rfl, ?_, hfr⟩ d_O_putUtf_37
        rw [e9]; exact hO0
      · exact absurd (nI_le (by omega) (by omega)) c_11
    | succ r ih =>
      intro j hj x1 C1 H locs ls hx1 hO hT hfr hw hl
      have hO0 := hO
      obtain ⟨by0, wt, h30, h40, h50, h60, h70, hlen, hby, hwn, hw0, hwt⟩ := hO
      have hT0 := hT
      obtain ⟨f, g1, g2, hs0, hs1, hsf, hsn, hsc⟩ := hT
      refine lv_iload_n hx hb d_O_putUtf_12 rfl (lv_at hl 0 rfl) ?_
      refine lv_aload_n hx hb d_O_putUtf_13 rfl (lv_at hl 2 rfl) ?_
      refine pw_calli (va_runV (As := []) (rest := [.int (nI j)]) ⟨hx, hb, hml, hown, hts0⟩ (k_JS_length hT0 _) (cwV 0 hts0 (wd_V wd_198 wd_624 wd_196 wd_197 wd_60) rfl rfl rfl (by decide +kernel) ⟨Nat.le_of_ble_eq_true rfl, Nat.le_of_ble_eq_true rfl⟩) (pw_preV hZ hw hA hK hz rfl hs0 rfl) rfl rfl hl.1 rfl (lv_room (Nat.le_of_ble_eq_true rfl)) d_O_putUtf_14 ⟨Nat.le_of_ble_eq_true rfl, Nat.le_of_ble_eq_true rfl⟩) hw hA (fun r_14 ad_12 C_13 H locs hp hw => ?_)
      obtain ⟨⟨hae, hce⟩, hre⟩ := hp
      rw [hae, hce] at hw
      rw [hre]
      clear hae hce hre
      refine lv_icmp_ge (tgt := 37) hx hb d_O_putUtf_17 (by decide) (fun c_15 => ?_) (fun c_15 => ?_)
      · exact absurd c_15 (nI_ge (by omega) (by omega))
      · skip
        refine lv_aload_n hx hb d_O_putUtf_20 rfl (lv_at hl 1 rfl) ?_
        refine lv_aload_n hx hb d_O_putUtf_21 rfl (lv_at hl 2 rfl) ?_
        refine lv_iload_n hx hb d_O_putUtf_22 rfl (lv_at hl 0 rfl) ?_
        refine pw_calli (va_runV (As := [.int (nI j)]) (rest := [.ref (ad 3 0)]) ⟨hx, hb, hml, hown, hts0⟩ (k_JS_charAt hT0 (j := j) (by omega) _) (cwV 1 hts0 (wd_V wd_628 wd_625 wd_626 wd_627 wd_60) rfl rfl rfl (by decide +kernel) ⟨Nat.le_of_ble_eq_true rfl, Nat.le_of_ble_eq_true rfl⟩) (pw_preV hZ hw hA hK hz rfl hs0 rfl) rfl rfl hl.1 rfl (lv_room (Nat.le_of_ble_eq_true rfl)) d_O_putUtf_23 ⟨Nat.le_of_ble_eq_true rfl, Nat.le_of_ble_eq_true rfl⟩) hw hA (fun r_18 ad_16 C_17 H locs hp hw => ?_)
        obtain ⟨⟨hae, hce⟩, hre⟩ := hp
        rw [hae, hce] at hw
        rw [hre]
        clear hae hce hre
        refine lv_i2l hx hb d_O_putUtf_26 rfl ?_
        refine lv_iconst (v := 1) hx hb d_O_putUtf_27 (by decide) ?_
        refine pw_callv (va_runV (As := [.long ((t.getD j 0).toInt64), .int 1]) (rest := []) ⟨hx, hb, hml, hown, hts0⟩ (k_O_put hO0 ((t.getD j 0).toInt64) (w := 1) (by decide) _) (cwV 2 hts0 (wd_V wd_139 wd_585 wd_137 wd_138 wd_54) rfl rfl rfl (by decide +kernel) ⟨Nat.le_of_ble_eq_true rfl, Nat.le_of_ble_eq_true rfl⟩) (pw_preV hZ hw hA hK hz rfl h30 rfl) rfl rfl hl.1 rfl (lv_room (Nat.le_of_ble_eq_true rfl)) d_O_putUtf_28 ⟨Nat.le_of_ble_eq_true rfl, Nat.le_of_ble_eq_true rfl⟩) hw hA (fun ad_19 C_20 H locs hp hw => ?_)
        obtain ⟨hae, hO, hf1⟩ := hp
        rw [hae] at hw; clear hae
        have hfr : os_fr C C_20 := fun x y h => (hf1 x y h).trans (hfr x y h)
        obtain ⟨x_22, hx_22⟩ : ∃ z, z = es_put x1 ((t.getD j 0).toInt64) 1 := ⟨_, rfl⟩
        rw [← hx_22] at hO
        have hO0 := hO
        obtain ⟨by0, wt, h30, h40, h50, h60, h70, hlen, hby, hwn, hw0, hwt⟩ := hO
        have hT := hT0.fr hf1 hu hu2
        have hT0 := hT
        obtain ⟨f, g1, g2, hs0, hs1, hsf, hsn, hsc⟩ := hT
        refine lv_iinc (v := (nI j) + 1) (lv' := [(2, .int ((nI j) + 1)), (0, .ref (ad 3 0)), (1, .ref (ad u v))]) hx hb d_O_putUtf_31 hl (k := 0) rfl rfl (by decide) rfl (fun ls hl => ?_)
        refine lv_goto (tgt := 12) hx hb d_O_putUtf_34 (by decide) ?_
        rw [nI_1] at hl
        refine ih (j + 1) (by omega) _ _ _ _ _ ?_ hO0 hT0 hfr hw hl
        have hjl : j < t.length := by omega
        rw [hx_22, hx1, List.take_add_one, List.getElem?_eq_getElem hjl, List.foldl_append]
        simp [List.getD, hjl]
  exact key t.length 0 (by omega) x_7 _ _ _ _ (by rw [List.take_zero]; rfl) hO0 hT0 hfr hw hl
set_option maxHeartbeats 4000000 in
set_option maxRecDepth 100000 in
theorem k_O_putText {l : Launch} {D : va_G} {ca : Nat → ClassId} {kS : Nat → Nat} {kT : Nat} {ad : pw_A} {C : pw_C} {x : ES} {w0 : List Int32} {wn : Nat} {sn : SN} (hO : os_x ca ad C x w0 wn sn) {u v u2 v2 : Nat} {t : List Int32} (hT : st_at ca ad C u v u2 v2 t) (hu : u < 3 ∨ 7 < u) (hu2 : u2 < 3 ∨ 7 < u2) {k : Nat} (hk : k < 35) : gc_Con l y_O_putText c_O_putText ({ frames := 5, cells := 0, slots := 0, locals := 107 }) D ca (z9_Z kS kT) [.ref (ad 3 0), .int (nI k), .ref (ad u v)] ad C (pw_pv (fun ad' C' => ad' = ad ∧ os_x ca ad C' (es_text x k t) w0 wn sn ∧ os_fr C C')) 0 0 := by
  have hZ := z9_ok kS kT
  have hO0 := hO
  obtain ⟨by0, wt, h30, h40, h50, h60, h70, hlen, hby, hwn, hw0, hwt⟩ := hO
  have hT0 := hT
  obtain ⟨f, g1, g2, hs0, hs1, hsf, hsn, hsc⟩ := hT
  refine pw_ofW (cc := b_O_putText) (maxL := 3) (ret := none) (by decide) rfl (Nat.le_of_ble_eq_true rfl) ?_
  intro p e s m args below meth c A ls hB hA hw hK hz hl
  obtain ⟨hx, hb, hr, hml, hts0, hlocks, hown, hnm⟩ := hB
  have hts := wd_hts hts0
  have hown : s.vm.findClass "GraphWriter$Out" = some m.cls := hown
  have hl : lv_has ls 3 [(0, .ref (ad 3 0)), (1, .int (nI k)), (2, .ref (ad u v))] := hl
  have hfr : os_fr C C := fun _ _ _ => rfl
  refine lv_aload_n hx hb d_O_putText_0 rfl (lv_at hl 0 rfl) ?_
  refine lv_ldc2 (v := 116) hx hb hown (hts _ wd_615) d_O_putText_1 ?_
  refine lv_iconst (v := 1) hx hb d_O_putText_4 (by decide) ?_
  refine pw_callv (va_runV (As := [.long 116, .int 1]) (rest := []) ⟨hx, hb, hml, hown, hts0⟩ (k_O_put hO0 116 (w := 1) (by decide) _) (cwV 2 hts0 (wd_V wd_139 wd_585 wd_137 wd_138 wd_54) rfl rfl rfl (by decide +kernel) ⟨Nat.le_of_ble_eq_true rfl, Nat.le_of_ble_eq_true rfl⟩) (pw_preV hZ hw hA hK hz rfl h30 rfl) rfl rfl hl.1 rfl (lv_room (Nat.le_of_ble_eq_true rfl)) d_O_putText_5 ⟨Nat.le_of_ble_eq_true rfl, Nat.le_of_ble_eq_true rfl⟩) hw hA (fun ad_1 C_2 H locs hp hw => ?_)
  obtain ⟨hae, hO, hf1⟩ := hp
  rw [hae] at hw; clear hae
  have hfr : os_fr C C_2 := fun x y h => (hf1 x y h).trans (hfr x y h)
  obtain ⟨x_4, hx_4⟩ : ∃ z, z = es_put x 116 1 := ⟨_, rfl⟩
  rw [← hx_4] at hO
  have hO0 := hO
  obtain ⟨by0, wt, h30, h40, h50, h60, h70, hlen, hby, hwn, hw0, hwt⟩ := hO
  have hT := hT0.fr hf1 hu hu2
  have hT0 := hT
  obtain ⟨f, g1, g2, hs0, hs1, hsf, hsn, hsc⟩ := hT
  refine lv_aload_n hx hb d_O_putText_8 rfl (lv_at hl 0 rfl) ?_
  refine lv_iload_n hx hb d_O_putText_9 rfl (lv_at hl 1 rfl) ?_
  refine pw_callv (va_runV (As := [.int (nI k)]) (rest := []) ⟨hx, hb, hml, hown, hts0⟩ (k_O_giveHandle hZ hO0 hk _) (cwV 1 hts0 (wd_V wd_619 wd_616 wd_617 wd_618 wd_54) rfl rfl rfl (by decide +kernel) ⟨Nat.le_of_ble_eq_true rfl, Nat.le_of_ble_eq_true rfl⟩) (pw_preV hZ hw hA hK hz rfl h30 rfl) rfl rfl hl.1 rfl (lv_room (Nat.le_of_ble_eq_true rfl)) d_O_putText_10 ⟨Nat.le_of_ble_eq_true rfl, Nat.le_of_ble_eq_true rfl⟩) hw hA (fun ad_5 C_6 H locs hp hw => ?_)
  obtain ⟨hae, hO, hf1⟩ := hp
  rw [hae] at hw; clear hae
  have hfr : os_fr C C_6 := fun x y h => (hf1 x y h).trans (hfr x y h)
  obtain ⟨x_8, hx_8⟩ : ∃ z, z = es_give x_4 k := ⟨_, rfl⟩
  rw [← hx_8] at hO
  have hO0 := hO
  obtain ⟨by0, wt, h30, h40, h50, h60, h70, hlen, hby, hwn, hw0, hwt⟩ := hO
  have hT := hT0.fr hf1 hu hu2
  have hT0 := hT
  obtain ⟨f, g1, g2, hs0, hs1, hsf, hsn, hsc⟩ := hT
  refine lv_aload_n hx hb d_O_putText_13 rfl (lv_at hl 0 rfl) ?_
  refine lv_aload_n hx hb d_O_putText_14 rfl (lv_at hl 2 rfl) ?_
  refine pw_callv (va_runV (As := [.ref (ad u v)]) (rest := []) ⟨hx, hb, hml, hown, hts0⟩ (k_O_putUtf hO0 hT0 hu hu2 _) (cwV 1 hts0 (wd_V wd_623 wd_620 wd_621 wd_622 wd_54) rfl rfl rfl (by decide +kernel) ⟨Nat.le_of_ble_eq_true rfl, Nat.le_of_ble_eq_true rfl⟩) (pw_preV hZ hw hA hK hz rfl h30 rfl) rfl rfl hl.1 rfl (lv_room (Nat.le_of_ble_eq_true rfl)) d_O_putText_15 ⟨Nat.le_of_ble_eq_true rfl, Nat.le_of_ble_eq_true rfl⟩) hw hA (fun ad_9 C_10 H locs hp hw => ?_)
  obtain ⟨hae, hO, hf1⟩ := hp
  rw [hae] at hw; clear hae
  have hfr : os_fr C C_10 := fun x y h => (hf1 x y h).trans (hfr x y h)
  obtain ⟨x_12, hx_12⟩ : ∃ z, z = es_utf x_8 t := ⟨_, rfl⟩
  rw [← hx_12] at hO
  have hO0 := hO
  obtain ⟨by0, wt, h30, h40, h50, h60, h70, hlen, hby, hwn, hw0, hwt⟩ := hO
  have hT := hT0.fr hf1 hu hu2
  have hT0 := hT
  obtain ⟨f, g1, g2, hs0, hs1, hsf, hsn, hsc⟩ := hT
  have e9 : es_text x k t = x_12 := by rw [hx_12, hx_8, hx_4]; rfl
  refine pw_vret hx hb hr hlocks hw ⟨rfl, ?_, hfr⟩ d_O_putText_18
  rw [e9]; exact hO0
set_option maxHeartbeats 4000000 in
set_option maxRecDepth 100000 in
theorem k_O_abort {l : Launch} {D : va_G} {ca : Nat → ClassId} {kS : Nat → Nat} {kT : Nat} {ad : pw_A} {C : pw_C} {x : ES} {w0 : List Int32} {wn : Nat} {sn : SN} (hO : os_x ca ad C x w0 wn sn) {u v u2 v2 : Nat} {t : List Int32} (hT : st_at ca ad C u v u2 v2 t) (hu : u < 3 ∨ 7 < u) (hu2 : u2 < 3 ∨ 7 < u2) : gc_Con l y_O_abort c_O_abort ({ frames := 5, cells := 0, slots := 0, locals := 107 }) D ca (z9_Z kS kT) [.ref (ad 3 0), .ref (ad u v)] ad C (pw_pv (fun ad' C' => ad' = ad ∧ os_x ca ad C' (es_abort x t) w0 wn sn ∧ os_fr C C')) 0 0 := by
  have hZ := z9_ok kS kT
  have hO0 := hO
  obtain ⟨by0, wt, h30, h40, h50, h60, h70, hlen, hby, hwn, hw0, hwt⟩ := hO
  have hT0 := hT
  obtain ⟨f, g1, g2, hs0, hs1, hsf, hsn, hsc⟩ := hT
  refine pw_ofW (cc := b_O_abort) (maxL := 2) (ret := none) (by decide) rfl (Nat.le_of_ble_eq_true rfl) ?_
  intro p e s m args below meth c A ls hB hA hw hK hz hl
  obtain ⟨hx, hb, hr, hml, hts0, hlocks, hown, hnm⟩ := hB
  have hts := wd_hts hts0
  have hown : s.vm.findClass "GraphWriter$Out" = some m.cls := hown
  have hl : lv_has ls 2 [(0, .ref (ad 3 0)), (1, .ref (ad u v))] := hl
  have hfr : os_fr C C := fun _ _ _ => rfl
  refine lv_aload_n hx hb d_O_abort_0 rfl (lv_at hl 0 rfl) ?_
  refine lv_ldc2 (v := 123) hx hb hown (hts _ wd_692) d_O_abort_1 ?_
  refine lv_iconst (v := 1) hx hb d_O_abort_4 (by decide) ?_
  refine pw_callv (va_runV (As := [.long 123, .int 1]) (rest := []) ⟨hx, hb, hml, hown, hts0⟩ (k_O_put hO0 123 (w := 1) (by decide) _) (cwV 2 hts0 (wd_V wd_139 wd_585 wd_137 wd_138 wd_54) rfl rfl rfl (by decide +kernel) ⟨Nat.le_of_ble_eq_true rfl, Nat.le_of_ble_eq_true rfl⟩) (pw_preV hZ hw hA hK hz rfl h30 rfl) rfl rfl hl.1 rfl (lv_room (Nat.le_of_ble_eq_true rfl)) d_O_abort_5 ⟨Nat.le_of_ble_eq_true rfl, Nat.le_of_ble_eq_true rfl⟩) hw hA (fun ad_1 C_2 H locs hp hw => ?_)
  obtain ⟨hae, hO, hf1⟩ := hp
  rw [hae] at hw; clear hae
  have hfr : os_fr C C_2 := fun x y h => (hf1 x y h).trans (hfr x y h)
  obtain ⟨x_4, hx_4⟩ : ∃ z, z = es_put x 123 1 := ⟨_, rfl⟩
  rw [← hx_4] at hO
  have hO0 := hO
  obtain ⟨by0, wt, h30, h40, h50, h60, h70, hlen, hby, hwn, hw0, hwt⟩ := hO
  have hT := hT0.fr hf1 hu hu2
  have hT0 := hT
  obtain ⟨f, g1, g2, hs0, hs1, hsf, hsn, hsc⟩ := hT
  refine lv_aload_n hx hb d_O_abort_8 rfl (lv_at hl 0 rfl) ?_
  refine lv_ldc2 (v := 121) hx hb hown (hts _ wd_693) d_O_abort_9 ?_
  refine lv_iconst (v := 1) hx hb d_O_abort_12 (by decide) ?_
  refine pw_callv (va_runV (As := [.long 121, .int 1]) (rest := []) ⟨hx, hb, hml, hown, hts0⟩ (k_O_put hO0 121 (w := 1) (by decide) _) (cwV 2 hts0 (wd_V wd_139 wd_585 wd_137 wd_138 wd_54) rfl rfl rfl (by decide +kernel) ⟨Nat.le_of_ble_eq_true rfl, Nat.le_of_ble_eq_true rfl⟩) (pw_preV hZ hw hA hK hz rfl h30 rfl) rfl rfl hl.1 rfl (lv_room (Nat.le_of_ble_eq_true rfl)) d_O_abort_13 ⟨Nat.le_of_ble_eq_true rfl, Nat.le_of_ble_eq_true rfl⟩) hw hA (fun ad_5 C_6 H locs hp hw => ?_)
  obtain ⟨hae, hO, hf1⟩ := hp
  rw [hae] at hw; clear hae
  have hfr : os_fr C C_6 := fun x y h => (hf1 x y h).trans (hfr x y h)
  obtain ⟨x_8, hx_8⟩ : ∃ z, z = es_put x_4 121 1 := ⟨_, rfl⟩
  rw [← hx_8] at hO
  have hO0 := hO
  obtain ⟨by0, wt, h30, h40, h50, h60, h70, hlen, hby, hwn, hw0, hwt⟩ := hO
  have hT := hT0.fr hf1 hu hu2
  have hT0 := hT
  obtain ⟨f, g1, g2, hs0, hs1, hsf, hsn, hsc⟩ := hT
  refine lv_aload_n hx hb d_O_abort_16 rfl (lv_at hl 0 rfl) ?_
  refine lv_ldc2 (v := 116) hx hb hown (hts _ wd_615) d_O_abort_17 ?_
  refine lv_iconst (v := 1) hx hb d_O_abort_20 (by decide) ?_
  refine pw_callv (va_runV (As := [.long 116, .int 1]) (rest := []) ⟨hx, hb, hml, hown, hts0⟩ (k_O_put hO0 116 (w := 1) (by decide) _) (cwV 2 hts0 (wd_V wd_139 wd_585 wd_137 wd_138 wd_54) rfl rfl rfl (by decide +kernel) ⟨Nat.le_of_ble_eq_true rfl, Nat.le_of_ble_eq_true rfl⟩) (pw_preV hZ hw hA hK hz rfl h30 rfl) rfl rfl hl.1 rfl (lv_room (Nat.le_of_ble_eq_true rfl)) d_O_abort_21 ⟨Nat.le_of_ble_eq_true rfl, Nat.le_of_ble_eq_true rfl⟩) hw hA (fun ad_9 C_10 H locs hp hw => ?_)
  obtain ⟨hae, hO, hf1⟩ := hp
  rw [hae] at hw; clear hae
  have hfr : os_fr C C_10 := fun x y h => (hf1 x y h).trans (hfr x y h)
  obtain ⟨x_12, hx_12⟩ : ∃ z, z = es_put x_8 116 1 := ⟨_, rfl⟩
  rw [← hx_12] at hO
  have hO0 := hO
  obtain ⟨by0, wt, h30, h40, h50, h60, h70, hlen, hby, hwn, hw0, hwt⟩ := hO
  have hT := hT0.fr hf1 hu hu2
  have hT0 := hT
  obtain ⟨f, g1, g2, hs0, hs1, hsf, hsn, hsc⟩ := hT
  refine lv_aload_n hx hb d_O_abort_24 rfl (lv_at hl 0 rfl) ?_
  refine lv_aload_n hx hb d_O_abort_25 rfl (lv_at hl 1 rfl) ?_
  refine pw_callv (va_runV (As := [.ref (ad u v)]) (rest := []) ⟨hx, hb, hml, hown, hts0⟩ (k_O_putUtf hO0 hT0 hu hu2 _) (cwV 1 hts0 (wd_V wd_623 wd_620 wd_621 wd_622 wd_54) rfl rfl rfl (by decide +kernel) ⟨Nat.le_of_ble_eq_true rfl, Nat.le_of_ble_eq_true rfl⟩) (pw_preV hZ hw hA hK hz rfl h30 rfl) rfl rfl hl.1 rfl (lv_room (Nat.le_of_ble_eq_true rfl)) d_O_abort_26 ⟨Nat.le_of_ble_eq_true rfl, Nat.le_of_ble_eq_true rfl⟩) hw hA (fun ad_13 C_14 H locs hp hw => ?_)
  obtain ⟨hae, hO, hf1⟩ := hp
  rw [hae] at hw; clear hae
  have hfr : os_fr C C_14 := fun x y h => (hf1 x y h).trans (hfr x y h)
  obtain ⟨x_16, hx_16⟩ : ∃ z, z = es_utf x_12 t := ⟨_, rfl⟩
  rw [← hx_16] at hO
  have hO0 := hO
  obtain ⟨by0, wt, h30, h40, h50, h60, h70, hlen, hby, hwn, hw0, hwt⟩ := hO
  have hT := hT0.fr hf1 hu hu2
  have hT0 := hT
  obtain ⟨f, g1, g2, hs0, hs1, hsf, hsn, hsc⟩ := hT
  refine lv_aload_n hx hb d_O_abort_29 rfl (lv_at hl 0 rfl) ?_
  refine lv_ldc2 (v := 121) hx hb hown (hts _ wd_693) d_O_abort_30 ?_
  refine lv_iconst (v := 1) hx hb d_O_abort_33 (by decide) ?_
  refine pw_callv (va_runV (As := [.long 121, .int 1]) (rest := []) ⟨hx, hb, hml, hown, hts0⟩ (k_O_put hO0 121 (w := 1) (by decide) _) (cwV 2 hts0 (wd_V wd_139 wd_585 wd_137 wd_138 wd_54) rfl rfl rfl (by decide +kernel) ⟨Nat.le_of_ble_eq_true rfl, Nat.le_of_ble_eq_true rfl⟩) (pw_preV hZ hw hA hK hz rfl h30 rfl) rfl rfl hl.1 rfl (lv_room (Nat.le_of_ble_eq_true rfl)) d_O_abort_34 ⟨Nat.le_of_ble_eq_true rfl, Nat.le_of_ble_eq_true rfl⟩) hw hA (fun ad_17 C_18 H locs hp hw => ?_)
  obtain ⟨hae, hO, hf1⟩ := hp
  rw [hae] at hw; clear hae
  have hfr : os_fr C C_18 := fun x y h => (hf1 x y h).trans (hfr x y h)
  obtain ⟨x_20, hx_20⟩ : ∃ z, z = es_put x_16 121 1 := ⟨_, rfl⟩
  rw [← hx_20] at hO
  have hO0 := hO
  obtain ⟨by0, wt, h30, h40, h50, h60, h70, hlen, hby, hwn, hw0, hwt⟩ := hO
  have hT := hT0.fr hf1 hu hu2
  have hT0 := hT
  obtain ⟨f, g1, g2, hs0, hs1, hsf, hsn, hsc⟩ := hT
  refine lv_aload_n hx hb d_O_abort_37 rfl (lv_at hl 0 rfl) ?_
  refine pw_get (Cn := "GraphWriter$Out") (T := F_O) (N := 11) hx hb hts in_O hown hK hw 3 0 rfl h30 rfl 6 (by decide) (hts _ wd_97) (fun _ h9 => h9) rfl d_O_abort_38 ?_
  refine lv_if_ne (tgt := 50) hx hb d_O_abort_41 (by decide) (fun c_21 => ?_) (fun c_21 => ?_)
  · skip
    have e9 : es_abort x t = x_20 := by show (fun z : ES => if z.2.1 = 0 then es_oc z (-3) else z) _ = _; rw [hx_20, hx_16, hx_12, hx_8, hx_4] at c_21 ⊢; exact if_neg c_21
    refine pw_vret hx hb hr hlocks hw ⟨rfl, ?_, hfr⟩ d_O_abort_50
    rw [e9]; exact hO0
  · skip
    refine lv_aload_n hx hb d_O_abort_44 rfl (lv_at hl 0 rfl) ?_
    refine lv_bipush (v := (-3)) hx hb d_O_abort_45 (by decide) ?_
    refine pw_put (Cn := "GraphWriter$Out") (T := F_O) (N := 11) (v := .int (-3)) (ty := .int) hx hb hts in_O ft_O to_O nm_O hown hK hw 3 0 (by decide) rfl h30 rfl 6 (by decide) (hts _ wd_97) (fun _ h9 => h9) rfl (by decide +kernel) rfl rfl (Nat.le_of_ble_eq_true rfl) d_O_abort_47 (fun H locs hw => ?_)
    have hw : pw_H D cls9 A s.heap ad C ad (pw_up C_18 3 0 (some (.inr (1, [.ref (ad 4 0), .ref (ad 5 0), .ref (ad 6 0), .int (nI x_20.1.length), .int (nI wn), .int x_20.2.2.2, .int (-3), .ref (ad 7 0), .int sn.2.1, .int sn.2.2.1, .int sn.2.2.2])))) H locs := hw
    generalize hC_22 : pw_up C_18 3 0 (some (.inr (1, [.ref (ad 4 0), .ref (ad 5 0), .ref (ad 6 0), .int (nI x_20.1.length), .int (nI wn), .int x_20.2.2.2, .int (-3), .ref (ad 7 0), .int sn.2.1, .int sn.2.2.1, .int sn.2.2.2]))) = C_22 at hw
    have h40 : C_22 4 0 = some (.inl (ca 2, 1400, .inl by0)) := by rw [← hC_22]; exact (pw_up_ne _ _ (by decide)).trans h40
    have h50 : C_22 5 0 = some (.inl (ca 2, 255, .inl wt)) := by rw [← hC_22]; exact (pw_up_ne _ _ (by decide)).trans h50
    have h60 : C_22 6 0 = some (.inl (ca 0, 35, .inl x_20.2.2.1)) := by rw [← hC_22]; exact (pw_up_ne _ _ (by decide)).trans h60
    have h70 : C_22 7 0 = some (.inl (ca 0, 35, .inl sn.1)) := by rw [← hC_22]; exact (pw_up_ne _ _ (by decide)).trans h70
    have hs0 : C_22 u v = some (.inr (5, [.ref (ad u2 v2), .int 0, g1, g2])) := by rw [← hC_22]; exact (pw_up_ne _ _ (by omega)).trans hs0
    have hs1 : C_22 u2 v2 = some (.inl (ca 2, t.length, .inl f)) := by rw [← hC_22]; exact (pw_up_ne _ _ (by omega)).trans hs1
    have h30 : C_22 3 0 = some (.inr (1, [.ref (ad 4 0), .ref (ad 5 0), .ref (ad 6 0), .int (nI x_20.1.length), .int (nI wn), .int x_20.2.2.2, .int (-3), .ref (ad 7 0), .int sn.2.1, .int sn.2.2.1, .int sn.2.2.2])) := by rw [← hC_22]; exact pw_up_self _ _ _ _
    have hfr : ∀ x y, (x < 3 ∨ 7 < x) → C_22 x y = C x y := fun x y h => by rw [← hC_22]; exact (pw_up_ne _ _ (by omega)).trans (hfr x y h)
    have e9 : es_abort x t = es_oc x_20 (-3) := by show (fun z : ES => if z.2.1 = 0 then es_oc z (-3) else z) _ = _; rw [hx_20, hx_16, hx_12, hx_8, hx_4] at c_21 ⊢; exact if_pos c_21
    refine pw_vret hx hb hr hlocks hw ⟨rfl, ?_, hfr⟩ d_O_abort_50
    rw [e9]; exact ⟨by0, wt, h30, h40, h50, h60, h70, hlen, hby, hwn, hw0, hwt⟩
set_option maxHeartbeats 4000000 in
set_option maxRecDepth 100000 in
theorem k_O_openDescriptor {l : Launch} {D : va_G} {ca : Nat → ClassId} {kS : Nat → Nat} {kT : Nat} {ad : pw_A} {C : pw_C} {x : ES} {w0 : List Int32} {wn : Nat} {sn : SN} (hO : os_x ca ad C x w0 wn sn) {u v u2 v2 : Nat} {t : List Int32} (hT : st_at ca ad C u v u2 v2 t) (hu : u < 3 ∨ 7 < u) (hu2 : u2 < 3 ∨ 7 < u2) {k : Nat} (hk : k < 35) (i0 : Int64) (fl fd : Int32) : gc_Con l y_O_openDescriptor c_O_openDescriptor ({ frames := 5, cells := 0, slots := 0, locals := 107 }) D ca (z9_Z kS kT) [.ref (ad 3 0), .int (nI k), .ref (ad u v), .long i0, .int fl, .int fd] ad C (pw_pi (fun r ad' C' => (ad' = ad ∧ os_x ca ad C' (es_desc x k t i0 fl fd).1 w0 wn sn ∧ os_fr C C') ∧ r = (es_desc x k t i0 fl fd).2)) 0 0 := by
  have hZ := z9_ok kS kT
  have hO0 := hO
  obtain ⟨by0, wt, h30, h40, h50, h60, h70, hlen, hby, hwn, hw0, hwt⟩ := hO
  have hT0 := hT
  obtain ⟨f, g1, g2, hs0, hs1, hsf, hsn, hsc⟩ := hT
  refine pw_ofW (cc := b_O_openDescriptor) (maxL := 7) (ret := (some FieldType.boolean)) (by decide) rfl (Nat.le_of_ble_eq_true rfl) ?_
  intro p e s m args below meth c A ls hB hA hw hK hz hl
  obtain ⟨hx, hb, hr, hml, hts0, hlocks, hown, hnm⟩ := hB
  have hts := wd_hts hts0
  have hown : s.vm.findClass "GraphWriter$Out" = some m.cls := hown
  have hl : lv_has ls 7 [(0, .ref (ad 3 0)), (1, .int (nI k)), (2, .ref (ad u v)), (3, .long i0), (5, .int fl), (6, .int fd)] := hl
  have hfr : os_fr C C := fun _ _ _ => rfl
  refine lv_aload_n hx hb d_O_openDescriptor_0 rfl (lv_at hl 0 rfl) ?_
  refine lv_iload_n hx hb d_O_openDescriptor_1 rfl (lv_at hl 1 rfl) ?_
  refine pw_calli (va_runV (As := [.int (nI k)]) (rest := []) ⟨hx, hb, hml, hown, hts0⟩ (k_O_putReference hZ hO0 hk _) (cwV 1 hts0 (wd_V wd_608 wd_647 wd_606 wd_607 wd_54) rfl rfl rfl (by decide +kernel) ⟨Nat.le_of_ble_eq_true rfl, Nat.le_of_ble_eq_true rfl⟩) (pw_preV hZ hw hA hK hz rfl h30 rfl) rfl rfl hl.1 rfl (lv_room (Nat.le_of_ble_eq_true rfl)) d_O_openDescriptor_2 ⟨Nat.le_of_ble_eq_true rfl, Nat.le_of_ble_eq_true rfl⟩) hw hA (fun r_3 ad_1 C_2 H locs hp hw => ?_)
  obtain ⟨⟨hae, hO, hf1⟩, hre⟩ := hp
  rw [hae] at hw; clear hae
  have hfr : os_fr C C_2 := fun x y h => (hf1 x y h).trans (hfr x y h)
  obtain ⟨x_4, hx_4⟩ : ∃ z, z = (es_ref x k).1 := ⟨_, rfl⟩
  rw [← hx_4] at hO
  have hO0 := hO
  obtain ⟨by0, wt, h30, h40, h50, h60, h70, hlen, hby, hwn, hw0, hwt⟩ := hO
  have hT := hT0.fr hf1 hu hu2
  have hT0 := hT
  obtain ⟨f, g1, g2, hs0, hs1, hsf, hsn, hsc⟩ := hT
  refine lv_if_eq (tgt := 10) hx hb d_O_openDescriptor_5 (by decide) (fun c_5 => ?_) (fun c_5 => ?_)
  · skip
    refine lv_aload_n hx hb d_O_openDescriptor_10 rfl (lv_at hl 0 rfl) ?_
    refine lv_ldc2 (v := 114) hx hb hown (hts _ wd_648) d_O_openDescriptor_11 ?_
    refine lv_iconst (v := 1) hx hb d_O_openDescriptor_14 (by decide) ?_
    refine pw_callv (va_runV (As := [.long 114, .int 1]) (rest := []) ⟨hx, hb, hml, hown, hts0⟩ (k_O_put hO0 114 (w := 1) (by decide) _) (cwV 2 hts0 (wd_V wd_139 wd_585 wd_137 wd_138 wd_54) rfl rfl rfl (by decide +kernel) ⟨Nat.le_of_ble_eq_true rfl, Nat.le_of_ble_eq_true rfl⟩) (pw_preV hZ hw hA hK hz rfl h30 rfl) rfl rfl hl.1 rfl (lv_room (Nat.le_of_ble_eq_true rfl)) d_O_openDescriptor_15 ⟨Nat.le_of_ble_eq_true rfl, Nat.le_of_ble_eq_true rfl⟩) hw hA (fun ad_6 C_7 H locs hp hw => ?_)
    obtain ⟨hae, hO, hf1⟩ := hp
    rw [hae] at hw; clear hae
    have hfr : os_fr C C_7 := fun x y h => (hf1 x y h).trans (hfr x y h)
    obtain ⟨x_9, hx_9⟩ : ∃ z, z = es_put x_4 114 1 := ⟨_, rfl⟩
    rw [← hx_9] at hO
    have hO0 := hO
    obtain ⟨by0, wt, h30, h40, h50, h60, h70, hlen, hby, hwn, hw0, hwt⟩ := hO
    have hT := hT0.fr hf1 hu hu2
    have hT0 := hT
    obtain ⟨f, g1, g2, hs0, hs1, hsf, hsn, hsc⟩ := hT
    refine lv_aload_n hx hb d_O_openDescriptor_18 rfl (lv_at hl 0 rfl) ?_
    refine lv_aload_n hx hb d_O_openDescriptor_19 rfl (lv_at hl 2 rfl) ?_
    refine pw_callv (va_runV (As := [.ref (ad u v)]) (rest := []) ⟨hx, hb, hml, hown, hts0⟩ (k_O_putUtf hO0 hT0 hu hu2 _) (cwV 1 hts0 (wd_V wd_623 wd_620 wd_621 wd_622 wd_54) rfl rfl rfl (by decide +kernel) ⟨Nat.le_of_ble_eq_true rfl, Nat.le_of_ble_eq_true rfl⟩) (pw_preV hZ hw hA hK hz rfl h30 rfl) rfl rfl hl.1 rfl (lv_room (Nat.le_of_ble_eq_true rfl)) d_O_openDescriptor_20 ⟨Nat.le_of_ble_eq_true rfl, Nat.le_of_ble_eq_true rfl⟩) hw hA (fun ad_10 C_11 H locs hp hw => ?_)
    obtain ⟨hae, hO, hf1⟩ := hp
    rw [hae] at hw; clear hae
    have hfr : os_fr C C_11 := fun x y h => (hf1 x y h).trans (hfr x y h)
    obtain ⟨x_13, hx_13⟩ : ∃ z, z = es_utf x_9 t := ⟨_, rfl⟩
    rw [← hx_13] at hO
    have hO0 := hO
    obtain ⟨by0, wt, h30, h40, h50, h60, h70, hlen, hby, hwn, hw0, hwt⟩ := hO
    have hT := hT0.fr hf1 hu hu2
    have hT0 := hT
    obtain ⟨f, g1, g2, hs0, hs1, hsf, hsn, hsc⟩ := hT
    refine lv_aload_n hx hb d_O_openDescriptor_23 rfl (lv_at hl 0 rfl) ?_
    refine lv_lload_n hx hb d_O_openDescriptor_24 rfl (lv_at hl 3 rfl) ?_
    refine lv_bipush (v := 8) hx hb d_O_openDescriptor_25 (by decide) ?_
    refine pw_callv (va_runV (As := [.long i0, .int 8]) (rest := []) ⟨hx, hb, hml, hown, hts0⟩ (k_O_put hO0 i0 (w := 8) (by decide) _) (cwV 2 hts0 (wd_V wd_139 wd_585 wd_137 wd_138 wd_54) rfl rfl rfl (by decide +kernel) ⟨Nat.le_of_ble_eq_true rfl, Nat.le_of_ble_eq_true rfl⟩) (pw_preV hZ hw hA hK hz rfl h30 rfl) rfl rfl hl.1 rfl (lv_room (Nat.le_of_ble_eq_true rfl)) d_O_openDescriptor_27 ⟨Nat.le_of_ble_eq_true rfl, Nat.le_of_ble_eq_true rfl⟩) hw hA (fun ad_14 C_15 H locs hp hw => ?_)
    obtain ⟨hae, hO, hf1⟩ := hp
    rw [hae] at hw; clear hae
    have hfr : os_fr C C_15 := fun x y h => (hf1 x y h).trans (hfr x y h)
    obtain ⟨x_17, hx_17⟩ : ∃ z, z = es_put x_13 i0 8 := ⟨_, rfl⟩
    rw [← hx_17] at hO
    have hO0 := hO
    obtain ⟨by0, wt, h30, h40, h50, h60, h70, hlen, hby, hwn, hw0, hwt⟩ := hO
    have hT := hT0.fr hf1 hu hu2
    have hT0 := hT
    obtain ⟨f, g1, g2, hs0, hs1, hsf, hsn, hsc⟩ := hT
    refine lv_aload_n hx hb d_O_openDescriptor_30 rfl (lv_at hl 0 rfl) ?_
    refine lv_iload_n hx hb d_O_openDescriptor_31 rfl (lv_at hl 1 rfl) ?_
    refine pw_callv (va_runV (As := [.int (nI k)]) (rest := []) ⟨hx, hb, hml, hown, hts0⟩ (k_O_giveHandle hZ hO0 hk _) (cwV 1 hts0 (wd_V wd_619 wd_616 wd_617 wd_618 wd_54) rfl rfl rfl (by decide +kernel) ⟨Nat.le_of_ble_eq_true rfl, Nat.le_of_ble_eq_true rfl⟩) (pw_preV hZ hw hA hK hz rfl h30 rfl) rfl rfl hl.1 rfl (lv_room (Nat.le_of_ble_eq_true rfl)) d_O_openDescriptor_32 ⟨Nat.le_of_ble_eq_true rfl, Nat.le_of_ble_eq_true rfl⟩) hw hA (fun ad_18 C_19 H locs hp hw => ?_)
    obtain ⟨hae, hO, hf1⟩ := hp
    rw [hae] at hw; clear hae
    have hfr : os_fr C C_19 := fun x y h => (hf1 x y h).trans (hfr x y h)
    obtain ⟨x_21, hx_21⟩ : ∃ z, z = es_give x_17 k := ⟨_, rfl⟩
    rw [← hx_21] at hO
    have hO0 := hO
    obtain ⟨by0, wt, h30, h40, h50, h60, h70, hlen, hby, hwn, hw0, hwt⟩ := hO
    have hT := hT0.fr hf1 hu hu2
    have hT0 := hT
    obtain ⟨f, g1, g2, hs0, hs1, hsf, hsn, hsc⟩ := hT
    refine lv_aload_n hx hb d_O_openDescriptor_35 rfl (lv_at hl 0 rfl) ?_
    refine lv_iload hx hb d_O_openDescriptor_36 (lv_at hl 4 rfl) ?_
    refine lv_i2l hx hb d_O_openDescriptor_38 rfl ?_
    refine lv_iconst (v := 1) hx hb d_O_openDescriptor_39 (by decide) ?_
    refine pw_callv (va_runV (As := [.long fl.toInt64, .int 1]) (rest := []) ⟨hx, hb, hml, hown, hts0⟩ (k_O_put hO0 fl.toInt64 (w := 1) (by decide) _) (cwV 2 hts0 (wd_V wd_139 wd_585 wd_137 wd_138 wd_54) rfl rfl rfl (by decide +kernel) ⟨Nat.le_of_ble_eq_true rfl, Nat.le_of_ble_eq_true rfl⟩) (pw_preV hZ hw hA hK hz rfl h30 rfl) rfl rfl hl.1 rfl (lv_room (Nat.le_of_ble_eq_true rfl)) d_O_openDescriptor_40 ⟨Nat.le_of_ble_eq_true rfl, Nat.le_of_ble_eq_true rfl⟩) hw hA (fun ad_22 C_23 H locs hp hw => ?_)
    obtain ⟨hae, hO, hf1⟩ := hp
    rw [hae] at hw; clear hae
    have hfr : os_fr C C_23 := fun x y h => (hf1 x y h).trans (hfr x y h)
    obtain ⟨x_25, hx_25⟩ : ∃ z, z = es_put x_21 fl.toInt64 1 := ⟨_, rfl⟩
    rw [← hx_25] at hO
    have hO0 := hO
    obtain ⟨by0, wt, h30, h40, h50, h60, h70, hlen, hby, hwn, hw0, hwt⟩ := hO
    have hT := hT0.fr hf1 hu hu2
    have hT0 := hT
    obtain ⟨f, g1, g2, hs0, hs1, hsf, hsn, hsc⟩ := hT
    refine lv_aload_n hx hb d_O_openDescriptor_43 rfl (lv_at hl 0 rfl) ?_
    refine lv_iload hx hb d_O_openDescriptor_44 (lv_at hl 5 rfl) ?_
    refine lv_i2l hx hb d_O_openDescriptor_46 rfl ?_
    refine lv_iconst (v := 2) hx hb d_O_openDescriptor_47 (by decide) ?_
    refine pw_callv (va_runV (As := [.long fd.toInt64, .int 2]) (rest := []) ⟨hx, hb, hml, hown, hts0⟩ (k_O_put hO0 fd.toInt64 (w := 2) (by decide) _) (cwV 2 hts0 (wd_V wd_139 wd_585 wd_137 wd_138 wd_54) rfl rfl rfl (by decide +kernel) ⟨Nat.le_of_ble_eq_true rfl, Nat.le_of_ble_eq_true rfl⟩) (pw_preV hZ hw hA hK hz rfl h30 rfl) rfl rfl hl.1 rfl (lv_room (Nat.le_of_ble_eq_true rfl)) d_O_openDescriptor_48 ⟨Nat.le_of_ble_eq_true rfl, Nat.le_of_ble_eq_true rfl⟩) hw hA (fun ad_26 C_27 H locs hp hw => ?_)
    obtain ⟨hae, hO, hf1⟩ := hp
    rw [hae] at hw; clear hae
    have hfr : os_fr C C_27 := fun x y h => (hf1 x y h).trans (hfr x y h)
    obtain ⟨x_29, hx_29⟩ : ∃ z, z = es_put x_25 fd.toInt64 2 := ⟨_, rfl⟩
    rw [← hx_29] at hO
    have hO0 := hO
    obtain ⟨by0, wt, h30, h40, h50, h60, h70, hlen, hby, hwn, hw0, hwt⟩ := hO
    have hT := hT0.fr hf1 hu hu2
    have hT0 := hT
    obtain ⟨f, g1, g2, hs0, hs1, hsf, hsn, hsc⟩ := hT
    refine lv_iconst (v := 1) hx hb d_O_openDescriptor_51 (by decide) ?_
    have e9 : es_desc x k t i0 fl fd = (x_29, 1) := by rw [hx_29, hx_25, hx_21, hx_17, hx_13, hx_9, hx_4]; exact if_pos (by rw [← hre]; exact c_5)
    refine pw_zret hx hb hr hlocks hw rfl ⟨⟨rfl, ?_, hfr⟩, ?_⟩ d_O_openDescriptor_52
    · rw [e9]; exact hO0
    · rw [e9]
  · skip
    refine lv_iconst (v := 0) hx hb d_O_openDescriptor_8 (by decide) ?_
    have e9 : es_desc x k t i0 fl fd = (x_4, 0) := by rw [hx_4]; exact if_neg (by rw [← hre]; exact c_5)
    refine pw_zret hx hb hr hlocks hw rfl ⟨⟨rfl, ?_, hfr⟩, ?_⟩ d_O_openDescriptor_9
    · rw [e9]; exact hO0
    · rw [e9]
end
section
/-! the graph's cells: classes' data, objects' data -/
abbrev DT : Type := Int32 × Int64 × Nat × (Nat → Int32) × (Nat → Int32) × (Nat → Int32) × (Nat → Int32) × Nat × Nat × Int32
abbrev dd_kd (d : DT) : Int32 := d.1
abbrev dd_id (d : DT) : Int64 := d.2.1
abbrev dd_cn (d : DT) : Nat := d.2.2.1
abbrev dd_cf (d : DT) : Nat → Int32 := d.2.2.2.1
abbrev dd_nm (d : DT) : Nat → Int32 := d.2.2.2.2.1
abbrev dd_ty (d : DT) : Nat → Int32 := d.2.2.2.2.2.1
abbrev dd_or (d : DT) : Nat → Int32 := d.2.2.2.2.2.2.1
abbrev dd_fn (d : DT) : Nat := d.2.2.2.2.2.2.2.1
abbrev dd_sh (d : DT) : Nat := d.2.2.2.2.2.2.2.2.1
abbrev dd_us (d : DT) : Int32 := d.2.2.2.2.2.2.2.2.2
abbrev TT : Type := Int32 × Int32 × Nat × (Nat → Int32) × (Nat → Int64) × List Int32 × Int32 × Int32
abbrev tt_so (t : TT) : Int32 := t.1
abbrev tt_ow (t : TT) : Int32 := t.2.1
abbrev tt_n (t : TT) : Nat := t.2.2.1
abbrev tt_ty (t : TT) : Nat → Int32 := t.2.2.2.1
abbrev tt_va (t : TT) : Nat → Int64 := t.2.2.2.2.1
abbrev tt_tx (t : TT) : List Int32 := t.2.2.2.2.2.1
abbrev tt_rp (t : TT) : Int32 := t.2.2.2.2.2.2.1
abbrev tt_ex (t : TT) : Int32 := t.2.2.2.2.2.2.2
def tt_ta (kS : Nat → Nat) (ad : pw_A) (i : Nat) (t : TT) : Nat := if tt_so t = 1 ∨ tt_so t = 4 then ad 23 i else kS 6
def gw_tf (ad : pw_A) (mk : Nat) : Nat → Option Nat := fun i => if i < mk then some (ad 20 i) else none
def gw_cf (ad : pw_A) (cd : Nat → Option DT) : Nat → Option Nat := fun k => if (cd k).isSome then some (ad 10 k) else none
theorem gw_th {ad : pw_A} {mk i : Nat} (h : i < mk) : va_rf (gw_tf ad mk i) = .ref (ad 20 i) := by simp [gw_tf, va_rf, h]
theorem gw_cl {ad : pw_A} {cd : Nat → Option DT} {k : Nat} {d : DT} (h : cd k = some d) : va_rf (gw_cf ad cd k) = .ref (ad 10 k) := by simp [gw_cf, va_rf, h]
theorem gw_cn {ad : pw_A} {cd : Nat → Option DT} {k : Nat} (h : cd k = none) : va_rf (gw_cf ad cd k) = .null := by simp [gw_cf, va_rf, h]
def dd_at (ca : Nat → ClassId) (ad : pw_A) (C : pw_C) (k : Nat) (d : DT) : Prop :=
  C 10 k = some (.inr (2, [.int (nI k), .int (dd_kd d), .long (dd_id d), .ref (ad 15 k), .ref (ad 11 k), .ref (ad 12 k), .ref (ad 13 k), .ref (ad 14 k), .int (nI (dd_fn d)), .int (nI (dd_sh d)), .int (dd_us d)])) ∧
  C 11 k = some (.inl (ca 0, dd_cn d, .inl (dd_cf d))) ∧ C 12 k = some (.inl (ca 0, 4, .inl (dd_nm d))) ∧ C 13 k = some (.inl (ca 0, 4, .inl (dd_ty d))) ∧ C 14 k = some (.inl (ca 0, 4, .inl (dd_or d))) ∧ st_at ca ad C 15 k 16 k [nI (65 + k)]
def tt_at (ca : Nat → ClassId) (kS : Nat → Nat) (ad : pw_A) (C : pw_C) (i : Nat) (t : TT) : Prop :=
  C 20 i = some (.inr (3, [.int (tt_so t), .int (tt_ow t), .ref (ad 21 i), .ref (ad 22 i), .ref (tt_ta kS ad i t), .int (tt_rp t), .int (tt_ex t)])) ∧
  C 21 i = some (.inl (ca 0, tt_n t, .inl (tt_ty t))) ∧ C 22 i = some (.inl (ca 1, tt_n t, .inr (.inl (tt_va t)))) ∧ tt_n t ≤ 24 ∧ ((tt_so t = 1 ∨ tt_so t = 4) → st_at ca ad C 23 i 24 i (tt_tx t))
def gw_wd : Nat → Int32 := fun j => if j = 0 then 1 else if j = 1 then 2 else if j = 2 then 4 else if j = 3 then 8 else if j = 4 then 2 else 1
/-- the constants that are only read -/
def gw_ks (ca : Nat → ClassId) (kS : Nat → Nat) (kT : Nat) (ad : pw_A) (C : pw_C) : Prop := (∀ i, i < 8 → st_at ca ad C 50 i 51 i (z9_tx i) ∧ ad 50 i = kS i) ∧ C 52 0 = some (.inl (ca 0, 6, .inl gw_wd)) ∧ ad 52 0 = kT
def gw_at (ca : Nat → ClassId) (kS : Nat → Nat) (kT : Nat) (ad : pw_A) (C : pw_C) (cd : Nat → Option DT) (mk : Nat) (td : Nat → TT) : Prop :=
  C 0 0 = some (.inr (0, [.ref (ad 1 0), .ref (ad 2 0), .ref (ad 3 0), .int (nI mk)])) ∧
  C 1 0 = some (.inl (ca 4, 6, .inr (.inr (.inr (.inr (gw_cf ad cd)))))) ∧ C 2 0 = some (.inl (ca 5, 12, .inr (.inr (.inr (.inr (gw_tf ad mk)))))) ∧ mk ≤ 12 ∧
  (∀ k d, cd k = some d → k < 6 ∧ dd_at ca ad C k d) ∧ (∀ i, i < mk → tt_at ca kS ad C i (td i)) ∧ gw_ks ca kS kT ad C
theorem gw_at.fr {ca : Nat → ClassId} {kS : Nat → Nat} {kT : Nat} {ad : pw_A} {C C1 : pw_C} {cd : Nat → Option DT} {mk : Nat} {td : Nat → TT} (h : gw_at ca kS kT ad C cd mk td) (hf : os_fr C C1) : gw_at ca kS kT ad C1 cd mk td := by
  obtain ⟨h0, h1, h2, h3, h4, h5, h6, h7, h8⟩ := h
  refine ⟨(hf 0 0 (by decide)).trans h0, (hf 1 0 (by decide)).trans h1, (hf 2 0 (by decide)).trans h2, h3, fun k d hk => ?_, fun i hi => ?_, fun i hi => ?_, (hf 52 0 (by decide)).trans h7, h8⟩
  · obtain ⟨q0, q1, q2, q3, q4, q5, q6⟩ := h4 k d hk
    exact ⟨q0, (hf 10 k (by decide)).trans q1, (hf 11 k (by decide)).trans q2, (hf 12 k (by decide)).trans q3, (hf 13 k (by decide)).trans q4, (hf 14 k (by decide)).trans q5, q6.fr hf (by decide) (by decide)⟩
  · obtain ⟨q1, q2, q3, q4, q5⟩ := h5 i hi
    exact ⟨(hf 20 i (by decide)).trans q1, (hf 21 i (by decide)).trans q2, (hf 22 i (by decide)).trans q3, q4, fun z => (q5 z).fr hf (by decide) (by decide)⟩
  · exact ⟨(h6 i hi).1.fr hf (by decide) (by decide), (h6 i hi).2⟩
def ga_made (mk : Nat) (o : Int32) : Int32 := if o < 0 then 0 else if nI mk ≤ o then 0 else 1
theorem ga_made_1 {mk : Nat} {o : Int32} (hm : mk ≤ 12) (h : ¬ ga_made mk o = 0) : ∃ j : Nat, j < mk ∧ o = nI j := by
  unfold ga_made at h
  split at h
  · exact absurd rfl h
  · split at h
    · exact absurd rfl h
    · rename_i h1 h2
      rcases pk_ix o (n := mk) (by omega) with h3 | h3 | h3
      · exact absurd h3 h1
      · exact absurd h3 h2
      · exact h3
def ga_inst (mk : Nat) (td : Nat → TT) (o : Int32) : Int32 := if ga_made mk o = 0 then 0 else if tt_so (td o.toNatClampNeg) = 0 then 1 else 0
/-- the way of replacements -/
def ga_repl (td : Nat → TT) : Nat → Nat → Int32 → Nat
  | 0, o, _ => o
  | n + 1, o, z => if tt_rp (td o) = -1 then o else if ((z ||| ((1 : Int32) <<< (nI o &&& 31))) >>> (tt_rp (td o) &&& 31)) &&& 1 = 0 then ga_repl td n (tt_rp (td o)).toNatClampNeg (z ||| ((1 : Int32) <<< (nI o &&& 31))) else o
set_option maxHeartbeats 4000000 in
set_option maxRecDepth 100000 in
theorem k_G_isMade {l : Launch} {D : va_G} {ca : Nat → ClassId} {kS : Nat → Nat} {kT : Nat} {ad : pw_A} {C : pw_C} {cd : Nat → Option DT} {mk : Nat} {td : Nat → TT} (hG : gw_at ca kS kT ad C cd mk td) (o : Int32) : gc_Con l y_G_isMade c_G_isMade ({ frames := 0, cells := 0, slots := 0, locals := 0 }) D ca (z9_Z kS kT) [.ref (ad 0 0), .int o] ad C (pw_pi (fun r ad' C' => (ad' = ad ∧ C' = C) ∧ r = ga_made mk o)) 0 0 := by
  have hZ := z9_ok kS kT
  have hG0 := hG
  obtain ⟨g00, g10, g20, hmk, hDD, hTT, hKK⟩ := hG
  refine pw_ofW (cc := b_G_isMade) (maxL := 2) (ret := (some FieldType.boolean)) (by decide) rfl (Nat.le_of_ble_eq_true rfl) ?_
  intro p e s m args below meth c A ls hB hA hw hK hz hl
  obtain ⟨hx, hb, hr, hml, hts0, hlocks, hown, hnm⟩ := hB
  have hts := wd_hts hts0
  have hown : s.vm.findClass "GraphWriter" = some m.cls := hown
  have hl : lv_has ls 2 [(0, .ref (ad 0 0)), (1, .int o)] := hl
  have hz0 := hz
  obtain ⟨hz1, hz2, hz3, hk0, hk1, hk2, hk3, hk4, hk5, hk6, hk7, hao1, hao2, hnw⟩ := hz0
  refine lv_iload_n hx hb d_G_isMade_0 rfl (lv_at hl 1 rfl) ?_
  refine lv_if_lt (tgt := 16) hx hb d_G_isMade_1 (by decide) (fun c_1 => ?_) (fun c_1 => ?_)
  · skip
    refine lv_iconst (v := 0) hx hb d_G_isMade_16 (by decide) ?_
    exact pw_zret hx hb hr hlocks hw rfl ⟨⟨rfl, rfl⟩, (if_pos c_1).symm⟩ d_G_isMade_17
  · skip
    refine lv_iload_n hx hb d_G_isMade_4 rfl (lv_at hl 1 rfl) ?_
    refine lv_aload_n hx hb d_G_isMade_5 rfl (lv_at hl 0 rfl) ?_
    refine pw_get (Cn := "GraphWriter") (T := F_G) (N := 4) hx hb hts in_G hown hK hw 0 0 rfl g00 rfl 3 (by decide) (hts _ wd_143) (fun _ h9 => h9) rfl d_G_isMade_6 ?_
    refine lv_icmp_ge (tgt := 16) hx hb d_G_isMade_9 (by decide) (fun c_2 => ?_) (fun c_2 => ?_)
    · skip
      refine lv_iconst (v := 0) hx hb d_G_isMade_16 (by decide) ?_
      exact pw_zret hx hb hr hlocks hw rfl ⟨⟨rfl, rfl⟩, ((if_neg c_1).trans (if_pos c_2)).symm⟩ d_G_isMade_17
    · skip
      refine lv_iconst (v := 1) hx hb d_G_isMade_12 (by decide) ?_
      refine lv_goto (tgt := 17) hx hb d_G_isMade_13 (by decide) ?_
      exact pw_zret hx hb hr hlocks hw rfl ⟨⟨rfl, rfl⟩, ((if_neg c_1).trans (if_neg c_2)).symm⟩ d_G_isMade_17
set_option maxHeartbeats 4000000 in
set_option maxRecDepth 100000 in
theorem k_G_isInstance {l : Launch} {D : va_G} {ca : Nat → ClassId} {kS : Nat → Nat} {kT : Nat} {ad : pw_A} {C : pw_C} {cd : Nat → Option DT} {mk : Nat} {td : Nat → TT} (hG : gw_at ca kS kT ad C cd mk td) (o : Int32) : gc_Con l y_G_isInstance c_G_isInstance ({ frames := 1, cells := 0, slots := 0, locals := 21 }) D ca (z9_Z kS kT) [.ref (ad 0 0), .int o] ad C (pw_pi (fun r ad' C' => (ad' = ad ∧ C' = C) ∧ r = ga_inst mk td o)) 0 0 := by
  have hZ := z9_ok kS kT
  have hG0 := hG
  obtain ⟨g00, g10, g20, hmk, hDD, hTT, hKK⟩ := hG
  refine pw_ofW (cc := b_G_isInstance) (maxL := 2) (ret := (some FieldType.boolean)) (by decide) rfl (Nat.le_of_ble_eq_true rfl) ?_
  intro p e s m args below meth c A ls hB hA hw hK hz hl
  obtain ⟨hx, hb, hr, hml, hts0, hlocks, hown, hnm⟩ := hB
  have hts := wd_hts hts0
  have hown : s.vm.findClass "GraphWriter" = some m.cls := hown
  have hl : lv_has ls 2 [(0, .ref (ad 0 0)), (1, .int o)] := hl
  have hz0 := hz
  obtain ⟨hz1, hz2, hz3, hk0, hk1, hk2, hk3, hk4, hk5, hk6, hk7, hao1, hao2, hnw⟩ := hz0
  refine lv_aload_n hx hb d_G_isInstance_0 rfl (lv_at hl 0 rfl) ?_
  refine lv_iload_n hx hb d_G_isInstance_1 rfl (lv_at hl 1 rfl) ?_
  refine pw_calli (va_runV (As := [.int o]) (rest := []) ⟨hx, hb, hml, hown, hts0⟩ (k_G_isMade hG0 o _) (cwV 1 hts0 (wd_V wd_550 wd_547 wd_549 wd_7 wd_53) rfl rfl rfl (by decide +kernel) ⟨Nat.le_of_ble_eq_true rfl, Nat.le_of_ble_eq_true rfl⟩) (pw_preV hZ hw hA hK hz rfl g00 rfl) rfl rfl hl.1 rfl (lv_room (Nat.le_of_ble_eq_true rfl)) d_G_isInstance_2 ⟨Nat.le_of_ble_eq_true rfl, Nat.le_of_ble_eq_true rfl⟩) hw hA (fun r_3 ad_1 C_2 H locs hp hw => ?_)
  obtain ⟨⟨hae, hce⟩, hre⟩ := hp
  rw [hae, hce] at hw
  rw [hre]
  clear hae hce hre
  refine lv_if_eq (tgt := 24) hx hb d_G_isInstance_5 (by decide) (fun c_4 => ?_) (fun c_4 => ?_)
  · skip
    refine lv_iconst (v := 0) hx hb d_G_isInstance_24 (by decide) ?_
    exact pw_zret hx hb hr hlocks hw rfl ⟨⟨rfl, rfl⟩, (if_pos c_4).symm⟩ d_G_isInstance_25
  · skip
    refine lv_aload_n hx hb d_G_isInstance_8 rfl (lv_at hl 0 rfl) ?_
    refine pw_get (Cn := "GraphWriter") (T := F_G) (N := 4) hx hb hts in_G hown hK hw 0 0 rfl g00 rfl 1 (by decide) (hts _ wd_141) (fun _ h9 => h9) rfl d_G_isInstance_9 ?_
    refine lv_iload_n hx hb d_G_isInstance_12 rfl (lv_at hl 1 rfl) ?_
    obtain ⟨j, hj, hoj⟩ := ga_made_1 hmk c_4
    obtain ⟨p20, p21, p22, pn, pt⟩ := hTT j hj
    refine pw_aald hx hb hK hw 2 0 rfl 5 g20 rfl j hoj (by omega) (by omega) d_G_isInstance_13 ?_
    rw [gw_th hj]
    refine pw_get (Cn := "GraphWriter$Thing") (T := F_T) (N := 7) hx hb hts in_T hown hK hw 20 j rfl p20 rfl 0 (by decide) (hts _ wd_375) (fun _ h9 => h9) rfl d_G_isInstance_14 ?_
    refine lv_if_ne (tgt := 24) hx hb d_G_isInstance_17 (by decide) (fun c_5 => ?_) (fun c_5 => ?_)
    · skip
      refine lv_iconst (v := 0) hx hb d_G_isInstance_24 (by decide) ?_
      have e8 : o.toNatClampNeg = j := by rw [hoj]; exact nI_clamp (by omega)
      have e9 : ga_inst mk td o = 0 := by unfold ga_inst; rw [if_neg c_4, e8]; exact if_neg c_5
      exact pw_zret hx hb hr hlocks hw rfl ⟨⟨rfl, rfl⟩, e9.symm⟩ d_G_isInstance_25
    · skip
      refine lv_iconst (v := 1) hx hb d_G_isInstance_20 (by decide) ?_
      refine lv_goto (tgt := 25) hx hb d_G_isInstance_21 (by decide) ?_
      have e8 : o.toNatClampNeg = j := by rw [hoj]; exact nI_clamp (by omega)
      have e9 : ga_inst mk td o = 1 := by unfold ga_inst; rw [if_neg c_4, e8]; exact if_pos c_5
      exact pw_zret hx hb hr hlocks hw rfl ⟨⟨rfl, rfl⟩, e9.symm⟩ d_G_isInstance_25
set_option maxHeartbeats 4000000 in
set_option maxRecDepth 100000 in
theorem k_G_replaced {l : Launch} {D : va_G} {ca : Nat → ClassId} {kS : Nat → Nat} {kT : Nat} {ad : pw_A} {C : pw_C} {cd : Nat → Option DT} {mk : Nat} {td : Nat → TT} (hG : gw_at ca kS kT ad C cd mk td) {o : Nat} (ho : o < mk) (hrp : ∀ i, i < mk → tt_rp (td i) = -1 ∨ ∃ j, j < mk ∧ tt_rp (td i) = nI j) : gc_Con l y_G_replaced c_G_replaced ({ frames := 0, cells := 0, slots := 0, locals := 0 }) D ca (z9_Z kS kT) [.ref (ad 0 0), .int (nI o)] ad C (pw_pi (fun r ad' C' => (ad' = ad ∧ C' = C) ∧ r = nI (ga_repl td 12 o 0))) 0 0 := by
  have hZ := z9_ok kS kT
  have hG0 := hG
  obtain ⟨g00, g10, g20, hmk, hDD, hTT, hKK⟩ := hG
  refine pw_ofW (cc := b_G_replaced) (maxL := 6) (ret := (some FieldType.int)) (by decide) rfl (Nat.le_of_ble_eq_true rfl) ?_
  intro p e s m args below meth c A ls hB hA hw hK hz hl
  obtain ⟨hx, hb, hr, hml, hts0, hlocks, hown, hnm⟩ := hB
  have hts := wd_hts hts0
  have hown : s.vm.findClass "GraphWriter" = some m.cls := hown
  have hl : lv_has ls 6 [(0, .ref (ad 0 0)), (1, .int (nI o))] := hl
  have hz0 := hz
  obtain ⟨hz1, hz2, hz3, hk0, hk1, hk2, hk3, hk4, hk5, hk6, hk7, hao1, hao2, hnw⟩ := hz0
  have key : ∀ (r k q : Nat) (z : Int32) (lv : List (Nat × Value)) (ls : Array Slot), k + r = 12 → q < mk → ga_repl td r q z = ga_repl td 12 o 0 → lv_has ls 6 ([(4, .int (nI k)), (3, .int z), (2, .int (nI q)), (0, .ref (ad 0 0))] ++ lv) → W p l e ({ frames := 0, cells := 0, slots := 0, locals := 0 }) s m args below meth c s.heap [] 0 0 (MQ below (pw_Q D cls9 ad C (pw_pi (fun r ad' C' => (ad' = ad ∧ C' = C) ∧ r = nI (ga_repl td 12 o 0))) A) args s 0 0 A) (F0 m 7 ls []) := by
    intro r
    induction r with
    | zero =>
      intro k q z lv ls hk hq hga hl
      have hl : lv_has ls 6 [(4, .int (nI k)), (3, .int z), (2, .int (nI q)), (0, .ref (ad 0 0))] := ⟨hl.1, hl.2.1, fun a h => hl.2.2 a (List.mem_append_left _ h)⟩
      refine lv_iload hx hb d_G_replaced_7 (lv_at hl 0 rfl) ?_
      refine lv_bipush (v := 12) hx hb d_G_replaced_9 (by decide) ?_
      refine lv_icmp_ge (tgt := 58) hx hb d_G_replaced_11 (by decide) (fun c_1 => ?_) (fun c_1 => ?_)
      · skip
        refine lv_iload_n hx hb d_G_replaced_58 rfl (lv_at hl 2 rfl) ?_
        have e9 : q = ga_repl td 12 o 0 := hga
        exact pw_iret hx hb hr hlocks hw ⟨⟨rfl, rfl⟩, by rw [← e9]⟩ d_G_replaced_59
      · exact absurd (by rw [show k = 12 by omega]; decide) c_1
    | succ r ih =>
      intro k q z lv ls hk hq hga hl
      have hl : lv_has ls 6 [(4, .int (nI k)), (3, .int z), (2, .int (nI q)), (0, .ref (ad 0 0))] := ⟨hl.1, hl.2.1, fun a h => hl.2.2 a (List.mem_append_left _ h)⟩
      refine lv_iload hx hb d_G_replaced_7 (lv_at hl 0 rfl) ?_
      refine lv_bipush (v := 12) hx hb d_G_replaced_9 (by decide) ?_
      refine lv_icmp_ge (tgt := 58) hx hb d_G_replaced_11 (by decide) (fun c_2 => ?_) (fun c_2 => ?_)
      · exact absurd c_2 (nI_ge (show k < 12 by omega) (by decide))
      · skip
        refine lv_iload_n hx hb d_G_replaced_14 rfl (lv_at hl 1 rfl) ?_
        refine lv_iconst (v := 1) hx hb d_G_replaced_15 (by decide) ?_
        refine lv_iload_n hx hb d_G_replaced_16 rfl (lv_at hl 2 rfl) ?_
        refine lv_ishl hx hb d_G_replaced_17 ?_
        refine lv_ior hx hb d_G_replaced_18 ?_
        refine lv_istore_n (lv' := [(3, .int (z ||| (1 <<< ((nI q) &&& 31)))), (4, .int (nI k)), (2, .int (nI q)), (0, .ref (ad 0 0))]) hx hb d_G_replaced_19 rfl hl (by decide) rfl (fun ls hl => ?_)
        refine lv_aload_n hx hb d_G_replaced_20 rfl (lv_at hl 3 rfl) ?_
        refine pw_get (Cn := "GraphWriter") (T := F_G) (N := 4) hx hb hts in_G hown hK hw 0 0 rfl g00 rfl 1 (by decide) (hts _ wd_141) (fun _ h9 => h9) rfl d_G_replaced_21 ?_
        refine lv_iload_n hx hb d_G_replaced_24 rfl (lv_at hl 2 rfl) ?_
        obtain ⟨p20, p21, p22, pn, pt⟩ := hTT q hq
        refine pw_aald hx hb hK hw 2 0 rfl 5 g20 rfl q rfl (by omega) (by omega) d_G_replaced_25 ?_
        rw [gw_th hq]
        refine pw_get (Cn := "GraphWriter$Thing") (T := F_T) (N := 7) hx hb hts in_T hown hK hw 20 q rfl p20 rfl 5 (by decide) (hts _ wd_385) (fun _ h9 => h9) rfl d_G_replaced_26 ?_
        refine lv_istore (lv' := [(5, .int (tt_rp (td q))), (3, .int (z ||| (1 <<< ((nI q) &&& 31)))), (4, .int (nI k)), (2, .int (nI q)), (0, .ref (ad 0 0))]) hx hb d_G_replaced_29 hl (by decide) rfl (fun ls hl => ?_)
        refine lv_iload hx hb d_G_replaced_31 (lv_at hl 0 rfl) ?_
        refine lv_iconst (v := (-1)) hx hb d_G_replaced_33 (by decide) ?_
        refine lv_icmp_eq (tgt := 58) hx hb d_G_replaced_34 (by decide) (fun c_3 => ?_) (fun c_3 => ?_)
        · skip
          refine lv_iload_n hx hb d_G_replaced_58 rfl (lv_at hl 3 rfl) ?_
          have e9 : q = ga_repl td 12 o 0 := by rw [← hga, ga_repl]; rw [if_pos c_3]
          exact pw_iret hx hb hr hlocks hw ⟨⟨rfl, rfl⟩, by rw [← e9]⟩ d_G_replaced_59
        · skip
          refine lv_iload_n hx hb d_G_replaced_37 rfl (lv_at hl 1 rfl) ?_
          refine lv_iload hx hb d_G_replaced_38 (lv_at hl 0 rfl) ?_
          refine lv_ishr hx hb d_G_replaced_40 ?_
          refine lv_iconst (v := 1) hx hb d_G_replaced_41 (by decide) ?_
          refine lv_iand hx hb d_G_replaced_42 ?_
          refine lv_if_eq (tgt := 49) hx hb d_G_replaced_43 (by decide) (fun c_4 => ?_) (fun c_4 => ?_)
          · skip
            refine lv_iload hx hb d_G_replaced_49 (lv_at hl 0 rfl) ?_
            refine lv_istore_n (lv' := [(2, .int (tt_rp (td q))), (5, .int (tt_rp (td q))), (3, .int (z ||| (1 <<< ((nI q) &&& 31)))), (4, .int (nI k)), (0, .ref (ad 0 0))]) hx hb d_G_replaced_51 rfl hl (by decide) rfl (fun ls hl => ?_)
            refine lv_iinc (v := (nI k) + 1) (lv' := [(4, .int ((nI k) + 1)), (2, .int (tt_rp (td q))), (5, .int (tt_rp (td q))), (3, .int (z ||| (1 <<< ((nI q) &&& 31)))), (0, .ref (ad 0 0))]) hx hb d_G_replaced_52 hl (k := 3) rfl rfl (by decide) rfl (fun ls hl => ?_)
            refine lv_goto (tgt := 7) hx hb d_G_replaced_55 (by decide) ?_
            rcases hrp q hq with h9 | ⟨j, hj, h9⟩
            · exact absurd h9 c_3
            · rw [h9] at hl; rw [nI_1] at hl
              refine ih (k + 1) j _ [(5, .int (nI j))] _ (by omega) hj ?_ (lv_sub hl [0, 3, 1, 4, 2] rfl)
              rw [← hga]; conv => rhs; rw [ga_repl]
              rw [if_neg c_3, if_pos c_4, h9, nI_clamp (by omega)]
          · skip
            refine lv_goto (tgt := 58) hx hb d_G_replaced_46 (by decide) ?_
            refine lv_iload_n hx hb d_G_replaced_58 rfl (lv_at hl 3 rfl) ?_
            have e9 : q = ga_repl td 12 o 0 := by rw [← hga, ga_repl]; rw [if_neg c_3, if_neg c_4]
            exact pw_iret hx hb hr hlocks hw ⟨⟨rfl, rfl⟩, by rw [← e9]⟩ d_G_replaced_59
  refine lv_iload_n hx hb d_G_replaced_0 rfl (lv_at hl 1 rfl) ?_
  refine lv_istore_n (lv' := [(2, .int (nI o)), (0, .ref (ad 0 0)), (1, .int (nI o))]) hx hb d_G_replaced_1 rfl hl (by decide) rfl (fun ls hl => ?_)
  refine lv_iconst (v := 0) hx hb d_G_replaced_2 (by decide) ?_
  refine lv_istore_n (lv' := [(3, .int 0), (2, .int (nI o)), (0, .ref (ad 0 0)), (1, .int (nI o))]) hx hb d_G_replaced_3 rfl hl (by decide) rfl (fun ls hl => ?_)
  refine lv_iconst (v := 0) hx hb d_G_replaced_4 (by decide) ?_
  refine lv_istore (lv' := [(4, .int 0), (3, .int 0), (2, .int (nI o)), (0, .ref (ad 0 0)), (1, .int (nI o))]) hx hb d_G_replaced_5 hl (by decide) rfl (fun ls hl => ?_)
  exact key 12 0 o 0 _ _ rfl ho rfl (lv_sub hl [0, 1, 2, 3, 4] rfl)
end
section
section PWL
variable {p : Program} {l : Launch} {e : Env} {R : Room} {s : State} {m : MethodId} {args : Array Value} {below : List Frame} {meth : Method} {c : Code} {T : State} {H : Heap} {locs : List Loc} {cells slots : Nat} {Q : State → Prop} {cc : ByteArray} {pc : Nat} {ls : Array Slot} {rest : List Value}
theorem pw_ldcw0 (X : Stand p l e R s m args below meth c T locs cells slots) (hexec : p.tables.exec = Jvm.exec) {own text : String} {index : Nat} {a : Addr} (hown : s.vm.findClass own = some m.cls)
    (hconst : (Cond.stringRef own index text).before #[] s = true) (hev : (Term.string own index).eval #[] s none [] s = some (.ref a)) {g : JFrame} (hg : g.method = m) (hdg : decode c.code g.pc = .ok (.ldc_w index, 3)) :
    ∀ target, Steps p.tables e below (T.setTop { g with pc := g.pc + 3, stack := .ref a :: g.stack }) target → Steps p.tables e below (T.setTop g) target := by
  obtain ⟨k, cf, i, a', hk, hcf, hcp, -, hr, hev'⟩ := Cond.stringRef_spec hown hconst
  cases hev.symm.trans hev'
  obtain ⟨k', hk', he⟩ := X.warmed.alike.2.2 _ _ hk
  have hr' : k'.resolved[index]? = some (some (.string a)) := by
    rcases X.warmed.entry hk hk' index with h | ⟨h, -⟩
    · rw [h]; exact hr
    · rw [hr] at h; cases h
  intro target hrest
  subst hg
  jvm_step X.here [hexec, hdg, ldc_w.wp_string (e := e) (s := T) (f := g) X.here.top hk' (by rw [he]; exact hcf) hcp hr']
  exact hrest
theorem pw_ldcwS (hexec : p.tables.exec = Jvm.exec) (hb : c.code = cc) {own tx : String} {index q : Nat} (hown : s.vm.findClass own = some m.cls) (hZ : vk_R own index tx q s) (hdg : decode cc pc = .ok (.ldc_w index, 3))
    (k : W p l e R s m args below meth c H locs cells slots Q (F0 m (pc + 3) ls (.ref q :: rest))) : W p l e R s m args below meth c H locs cells slots Q (F0 m pc ls rest) := by
  intro T hT X
  obtain ⟨t, a1, b1⟩ := k T hT X
  exact ⟨t, pw_ldcw0 X hexec hown (text := tx) (a := q) hZ.1 hZ.2 (g := F0 m pc ls rest) rfl (by rw [hb]; exact hdg) t a1, b1⟩
end PWL
/-- a descriptor with none above -/
def ga_top (x : ES) (k : Nat) (t : List Int32) (i : Int64) (fl : Int32) : ES := if (es_desc x k t i fl 0).2 = 0 then (es_desc x k t i fl 0).1 else es_close (es_desc x k t i fl 0).1
def ga_irec (t : TT) : Nat → ES → ES
  | 0, x => x
  | r + 1, x => ga_irec t r (es_put x (tt_va t (tt_n t - 1 - r)) 4)
def ga_ints (x : ES) (o : Nat) (t : TT) : ES := ga_irec t (tt_n t) (es_put (es_give (ga_top (es_put x 117 1) 30 (z9_tx 1) 5600894804908749477 2) o) (nI (tt_n t)).toInt64 4)
def ga_fl (d : DT) : Int32 := if dd_kd d = 3 then 18 else if dd_kd d = 2 then 3 else 2
def ga_tt (x : ES) (k : Nat) (t : List Int32) : ES := if (es_ref x k).2 = 0 then es_text (es_ref x k).1 k t else (es_ref x k).1
def ga_tyt (x : ES) (ty : Int32) : ES := if ty = 6 then ga_tt x 33 (z9_tx 1) else if ty = 7 then ga_tt x 34 (z9_tx 4) else x
def ga_fent (d : DT) (x : ES) (i : Nat) : ES := ga_tyt (es_sign (es_put x ((z9_tx 3).getD (dd_ty d (dd_or d i).toNatClampNeg).toNatClampNeg 0).toInt64 1) ((z9_tx 0).getD (dd_nm d (dd_or d i).toNatClampNeg).toNatClampNeg 0)) (dd_ty d (dd_or d i).toNatClampNeg)
def ga_frec (d : DT) : Nat → ES → ES
  | 0, x => x
  | r + 1, x => ga_frec d r (ga_fent d x (dd_sh d - 1 - r))
def ga_dch (cd : Nat → Option DT) (d0 : DT) : Nat → ES → ES × Bool
  | 0, x => (x, false)
  | n + 1, x => match cd (dd_cf d0 n).toNatClampNeg with
    | none => (x, false)
    | some d => if dd_kd d = 0 then (x, false) else if (es_desc x (24 + (dd_cf d0 n).toNatClampNeg) [nI (65 + (dd_cf d0 n).toNatClampNeg)] (dd_id d) (ga_fl d) (nI (dd_sh d))).2 = 0 then ((es_desc x (24 + (dd_cf d0 n).toNatClampNeg) [nI (65 + (dd_cf d0 n).toNatClampNeg)] (dd_id d) (ga_fl d) (nI (dd_sh d))).1, true)
      else ga_dch cd d0 n (es_put (ga_frec d (dd_sh d) (es_desc x (24 + (dd_cf d0 n).toNatClampNeg) [nI (65 + (dd_cf d0 n).toNatClampNeg)] (dd_id d) (ga_fl d) (nI (dd_sh d))).1) 120 1)
def ga_dfin (d0 : DT) (r : ES × Bool) : ES := if r.2 = true then r.1 else if dd_kd d0 = 3 then ga_top r.1 32 (z9_tx 5) 0 18 else es_put r.1 112 1
def ga_descr (cd : Nat → Option DT) (d0 : DT) (x : ES) : ES := ga_dfin d0 (ga_dch cd d0 (dd_cn d0) x)
/-- what holds of the classes at all times -/
def wf_d (cd : Nat → Option DT) : Prop := ∀ k d, cd k = some d → k < 6 ∧ dd_cn d ≤ 6 ∧ (∀ j, j < dd_cn d → ∃ i di, i < 6 ∧ dd_cf d j = nI i ∧ cd i = some di) ∧ dd_fn d ≤ 4 ∧ dd_sh d ≤ 4 ∧ (∀ i, i < dd_sh d → ∃ f, f < 4 ∧ dd_or d i = nI f) ∧ (∀ f, f < 4 → ∃ n, n < 26 ∧ dd_nm d f = nI n) ∧ ∀ f, f < 4 → ∃ t, t < 8 ∧ dd_ty d f = nI t
set_option maxHeartbeats 4000000 in
set_option maxRecDepth 100000 in
theorem k_D_flags {l : Launch} {D : va_G} {ca : Nat → ClassId} {Z : (Nat → Prop) → State → Prop} {ad : pw_A} {C : pw_C} {k : Nat} {d : DT} (hd : dd_at ca ad C k d) : gc_Con l y_D_flags c_D_flags ({ frames := 0, cells := 0, slots := 0, locals := 0 }) D ca Z [.ref (ad 10 k)] ad C (pw_pi (fun r ad' C' => (ad' = ad ∧ C' = C) ∧ r = ga_fl d)) 0 0 := by
  obtain ⟨q10, q11, q12, q13, q14, qst⟩ := hd
  refine pw_ofW (cc := b_D_flags) (maxL := 1) (ret := (some FieldType.int)) (by decide) rfl (Nat.le_of_ble_eq_true rfl) ?_
  intro p e s m args below meth c A ls hB hA hw hK hz hl
  obtain ⟨hx, hb, hr, hml, hts0, hlocks, hown, hnm⟩ := hB
  have hts := wd_hts hts0
  have hown : s.vm.findClass "GraphWriter$Defined" = some m.cls := hown
  have hl : lv_has ls 1 [(0, .ref (ad 10 k))] := hl
  refine lv_aload_n hx hb d_D_flags_0 rfl (lv_at hl 0 rfl) ?_
  refine pw_get (Cn := "GraphWriter$Defined") (T := F_D) (N := 11) hx hb hts in_D hown hK hw 10 k rfl q10 rfl 1 (by decide) (hts _ wd_296) (fun _ h9 => h9) rfl d_D_flags_1 ?_
  refine lv_iconst (v := 3) hx hb d_D_flags_4 (by decide) ?_
  refine lv_icmp_ne (tgt := 11) hx hb d_D_flags_5 (by decide) (fun c_1 => ?_) (fun c_1 => ?_)
  · skip
    refine lv_aload_n hx hb d_D_flags_11 rfl (lv_at hl 0 rfl) ?_
    refine pw_get (Cn := "GraphWriter$Defined") (T := F_D) (N := 11) hx hb hts in_D hown hK hw 10 k rfl q10 rfl 1 (by decide) (hts _ wd_296) (fun _ h9 => h9) rfl d_D_flags_12 ?_
    refine lv_iconst (v := 2) hx hb d_D_flags_15 (by decide) ?_
    refine lv_icmp_ne (tgt := 23) hx hb d_D_flags_16 (by decide) (fun c_2 => ?_) (fun c_2 => ?_)
    · skip
      refine lv_iconst (v := 2) hx hb d_D_flags_23 (by decide) ?_
      exact pw_iret hx hb hr hlocks hw ⟨⟨rfl, rfl⟩, Eq.symm ((if_neg (by first | assumption | exact c_1)).trans (if_neg (by first | assumption | exact c_2)))⟩ d_D_flags_24
    · skip
      refine lv_iconst (v := 3) hx hb d_D_flags_19 (by decide) ?_
      refine lv_goto (tgt := 24) hx hb d_D_flags_20 (by decide) ?_
      exact pw_iret hx hb hr hlocks hw ⟨⟨rfl, rfl⟩, Eq.symm ((if_neg (by first | assumption | exact c_1)).trans (if_pos (by first | assumption | exact c_2)))⟩ d_D_flags_24
  · skip
    refine lv_bipush (v := 18) hx hb d_D_flags_8 (by decide) ?_
    exact pw_iret hx hb hr hlocks hw ⟨⟨rfl, rfl⟩, Eq.symm (if_pos (by first | assumption | exact c_1))⟩ d_D_flags_10
set_option maxHeartbeats 4000000 in
set_option maxRecDepth 100000 in
theorem k_G_writeInts {l : Launch} {D : va_G} {ca : Nat → ClassId} {kS : Nat → Nat} {kT : Nat} {ad : pw_A} {C : pw_C} {cd : Nat → Option DT} {mk : Nat} {td : Nat → TT} (hG : gw_at ca kS kT ad C cd mk td) {x : ES} {w0 : List Int32} {wn : Nat} {sn : SN} (hO : os_x ca ad C x w0 wn sn) {o : Nat} (ho : o < mk) : gc_Con l y_G_writeInts c_G_writeInts ({ frames := 6, cells := 0, slots := 0, locals := 133 }) D ca (z9_Z kS kT) [.ref (ad 0 0), .int (nI o)] ad C (pw_pv (fun ad' C' => ad' = ad ∧ os_x ca ad C' (ga_ints x o (td o)) w0 wn sn ∧ os_fr C C')) 0 0 := by
  have hZ := z9_ok kS kT
  have hG0 := hG
  obtain ⟨g00, g10, g20, hmk, hDD, hTT, hKK⟩ := hG
  have hO0 := hO
  obtain ⟨by0, wt, h30, h40, h50, h60, h70, hlen, hby, hwn, hw0, hwt⟩ := hO
  refine pw_ofW (cc := b_G_writeInts) (maxL := 4) (ret := none) (by decide) rfl (Nat.le_of_ble_eq_true rfl) ?_
  intro p e s m args below meth c A ls hB hA hw hK hz hl
  obtain ⟨hx, hb, hr, hml, hts0, hlocks, hown, hnm⟩ := hB
  have hts := wd_hts hts0
  have hown : s.vm.findClass "GraphWriter" = some m.cls := hown
  have hl : lv_has ls 4 [(0, .ref (ad 0 0)), (1, .int (nI o))] := hl
  have hz0 := hz
  obtain ⟨hz1, hz2, hz3, hk0, hk1, hk2, hk3, hk4, hk5, hk6, hk7, hao1, hao2, hnw⟩ := hz0
  have hfr : os_fr C C := fun _ _ _ => rfl
  obtain ⟨p20, p21, p22, pn, pt⟩ := hTT o ho
  have loop : ∀ (r : Nat) (x1 : ES) (C1 : pw_C) (H : Heap) (locs : List Loc) (ls : Array Slot), r ≤ tt_n (td o) → ga_irec (td o) r x1 = ga_ints x o (td o) → os_x ca ad C1 x1 w0 wn sn → gw_at ca kS kT ad C1 cd mk td → os_fr C C1 → pw_H D cls9 A s.heap ad C ad C1 H locs → lv_has ls 4 [(3, .int (nI (tt_n (td o) - r))), (2, .ref (ad 22 o)), (0, .ref (ad 0 0)), (1, .int (nI o))] → W p l e ({ frames := 6, cells := 0, slots := 0, locals := 133 }) s m args below meth c H locs 0 0 (MQ below (pw_Q D cls9 ad C (pw_pv (fun ad' C' => ad' = ad ∧ os_x ca ad C' (ga_ints x o (td o)) w0 wn sn ∧ os_fr C C')) A) args s 0 0 A) (F0 m 68 ls []) := by
    intro r
    induction r with
    | zero =>
      intro x1 C1 H locs ls hr9 hga hO hG hfr hw hl
      have hO0 := hO
      obtain ⟨by0, wt, h30, h40, h50, h60, h70, hlen, hby, hwn, hw0, hwt⟩ := hO
      have hG0 := hG
      obtain ⟨g00, g10, g20, hmk, hDD, hTT, hKK⟩ := hG
      obtain ⟨p20, p21, p22, pn, pt⟩ := hTT o ho
      refine lv_iload_n hx hb d_G_writeInts_68 rfl (lv_at hl 0 rfl) ?_
      refine lv_aload_n hx hb d_G_writeInts_69 rfl (lv_at hl 1 rfl) ?_
      refine pw_alen hx hb hK hw 22 o rfl 1 p22 rfl d_G_writeInts_70 ?_
      refine lv_icmp_ge (tgt := 91) hx hb d_G_writeInts_71 (by decide) (fun c_1 => ?_) (fun c_1 => ?_)
      · skip
        have e9 : ga_ints x o (td o) = x1 := by rw [← hga]; rfl
        refine pw_vret hx hb hr hlocks hw ⟨rfl, ?_, hfr⟩ d_G_writeInts_91
        rw [e9]; exact hO0
      · exact absurd (nI_le (by omega) (by omega)) c_1
    | succ r ih =>
      intro x1 C1 H locs ls hr9 hga hO hG hfr hw hl
      have hO0 := hO
      obtain ⟨by0, wt, h30, h40, h50, h60, h70, hlen, hby, hwn, hw0, hwt⟩ := hO
      have hG0 := hG
      obtain ⟨g00, g10, g20, hmk, hDD, hTT, hKK⟩ := hG
      obtain ⟨p20, p21, p22, pn, pt⟩ := hTT o ho
      refine lv_iload_n hx hb d_G_writeInts_68 rfl (lv_at hl 0 rfl) ?_
      refine lv_aload_n hx hb d_G_writeInts_69 rfl (lv_at hl 1 rfl) ?_
      refine pw_alen hx hb hK hw 22 o rfl 1 p22 rfl d_G_writeInts_70 ?_
      refine lv_icmp_ge (tgt := 91) hx hb d_G_writeInts_71 (by decide) (fun c_2 => ?_) (fun c_2 => ?_)
      · exact absurd c_2 (nI_ge (by omega) (by omega))
      · skip
        refine lv_aload_n hx hb d_G_writeInts_74 rfl (lv_at hl 2 rfl) ?_
        refine pw_get (Cn := "GraphWriter") (T := F_G) (N := 4) hx hb hts in_G hown hK hw 0 0 rfl g00 rfl 2 (by decide) (hts _ wd_142) (fun _ h9 => h9) rfl d_G_writeInts_75 ?_
        refine lv_aload_n hx hb d_G_writeInts_78 rfl (lv_at hl 1 rfl) ?_
        refine lv_iload_n hx hb d_G_writeInts_79 rfl (lv_at hl 0 rfl) ?_
        refine pw_lald hx hb hK hw 22 o rfl 1 p22 rfl (tt_n (td o) - (r + 1)) rfl (by omega) (by omega) d_G_writeInts_80 ?_
        refine lv_iconst (v := 4) hx hb d_G_writeInts_81 (by decide) ?_
        refine pw_callv (va_runV (As := [.long ((tt_va (td o)) (tt_n (td o) - (r + 1))), .int 4]) (rest := []) ⟨hx, hb, hml, hown, hts0⟩ (k_O_put hO0 ((tt_va (td o)) (tt_n (td o) - (r + 1))) (w := 4) (by decide) _) (cwV 2 hts0 (wd_V wd_139 wd_136 wd_137 wd_138 wd_54) rfl rfl rfl (by decide +kernel) ⟨Nat.le_of_ble_eq_true rfl, Nat.le_of_ble_eq_true rfl⟩) (pw_preV hZ hw hA hK hz rfl h30 rfl) rfl rfl hl.1 rfl (lv_room (Nat.le_of_ble_eq_true rfl)) d_G_writeInts_82 ⟨Nat.le_of_ble_eq_true rfl, Nat.le_of_ble_eq_true rfl⟩) hw hA (fun ad_3 C_4 H locs hp hw => ?_)
        obtain ⟨hae, hO, hf1⟩ := hp
        rw [hae] at hw; clear hae
        have hfr : os_fr C C_4 := fun x y h => (hf1 x y h).trans (hfr x y h)
        obtain ⟨x_6, hx_6⟩ : ∃ z, z = es_put x1 ((tt_va (td o)) (tt_n (td o) - (r + 1))) 4 := ⟨_, rfl⟩
        rw [← hx_6] at hO
        have hO0 := hO
        obtain ⟨by0, wt, h30, h40, h50, h60, h70, hlen, hby, hwn, hw0, hwt⟩ := hO
        have hG := hG0.fr hf1
        have hG0 := hG
        obtain ⟨g00, g10, g20, hmk, hDD, hTT, hKK⟩ := hG
        obtain ⟨p20, p21, p22, pn, pt⟩ := hTT o ho
        refine lv_iinc (v := (nI (tt_n (td o) - (r + 1))) + 1) (lv' := [(3, .int ((nI (tt_n (td o) - (r + 1))) + 1)), (2, .ref (ad 22 o)), (0, .ref (ad 0 0)), (1, .int (nI o))]) hx hb d_G_writeInts_85 hl (k := 0) rfl rfl (by decide) rfl (fun ls hl => ?_)
        refine lv_goto (tgt := 68) hx hb d_G_writeInts_88 (by decide) ?_
        rw [nI_1, show tt_n (td o) - (r + 1) + 1 = tt_n (td o) - r by omega] at hl
        exact ih _ _ _ _ _ (by omega) (by rw [← hga, hx_6]; show _ = ga_irec (td o) r _; rw [show tt_n (td o) - 1 - r = tt_n (td o) - (r + 1) by omega]) hO0 hG0 hfr hw hl
  refine lv_aload_n hx hb d_G_writeInts_0 rfl (lv_at hl 0 rfl) ?_
  refine pw_get (Cn := "GraphWriter") (T := F_G) (N := 4) hx hb hts in_G hown hK hw 0 0 rfl g00 rfl 1 (by decide) (hts _ wd_141) (fun _ h9 => h9) rfl d_G_writeInts_1 ?_
  refine lv_iload_n hx hb d_G_writeInts_4 rfl (lv_at hl 1 rfl) ?_
  refine pw_aald hx hb hK hw 2 0 rfl 5 g20 rfl o rfl (by omega) (by omega) d_G_writeInts_5 ?_
  rw [gw_th ho]
  refine pw_get (Cn := "GraphWriter$Thing") (T := F_T) (N := 7) hx hb hts in_T hown hK hw 20 o rfl p20 rfl 3 (by decide) (hts _ wd_381) (fun _ h9 => h9) rfl d_G_writeInts_6 ?_
  refine lv_astore_n (lv' := [(2, .ref (ad 22 o)), (0, .ref (ad 0 0)), (1, .int (nI o))]) hx hb d_G_writeInts_9 rfl hl (by decide) rfl (fun ls hl => ?_)
  refine lv_aload_n hx hb d_G_writeInts_10 rfl (lv_at hl 1 rfl) ?_
  refine pw_get (Cn := "GraphWriter") (T := F_G) (N := 4) hx hb hts in_G hown hK hw 0 0 rfl g00 rfl 2 (by decide) (hts _ wd_142) (fun _ h9 => h9) rfl d_G_writeInts_11 ?_
  refine lv_ldc2 (v := 117) hx hb hown (hts _ wd_640) d_G_writeInts_14 ?_
  refine lv_iconst (v := 1) hx hb d_G_writeInts_17 (by decide) ?_
  refine pw_callv (va_runV (As := [.long 117, .int 1]) (rest := []) ⟨hx, hb, hml, hown, hts0⟩ (k_O_put hO0 117 (w := 1) (by decide) _) (cwV 2 hts0 (wd_V wd_139 wd_136 wd_137 wd_138 wd_54) rfl rfl rfl (by decide +kernel) ⟨Nat.le_of_ble_eq_true rfl, Nat.le_of_ble_eq_true rfl⟩) (pw_preV hZ hw hA hK hz rfl h30 rfl) rfl rfl hl.1 rfl (lv_room (Nat.le_of_ble_eq_true rfl)) d_G_writeInts_18 ⟨Nat.le_of_ble_eq_true rfl, Nat.le_of_ble_eq_true rfl⟩) hw hA (fun ad_7 C_8 H locs hp hw => ?_)
  obtain ⟨hae, hO, hf1⟩ := hp
  rw [hae] at hw; clear hae
  have hfr : os_fr C C_8 := fun x y h => (hf1 x y h).trans (hfr x y h)
  obtain ⟨x_10, hx_10⟩ : ∃ z, z = es_put x 117 1 := ⟨_, rfl⟩
  rw [← hx_10] at hO
  have hO0 := hO
  obtain ⟨by0, wt, h30, h40, h50, h60, h70, hlen, hby, hwn, hw0, hwt⟩ := hO
  have hG := hG0.fr hf1
  have hG0 := hG
  obtain ⟨g00, g10, g20, hmk, hDD, hTT, hKK⟩ := hG
  obtain ⟨p20, p21, p22, pn, pt⟩ := hTT o ho
  refine lv_aload_n hx hb d_G_writeInts_21 rfl (lv_at hl 1 rfl) ?_
  refine pw_get (Cn := "GraphWriter") (T := F_G) (N := 4) hx hb hts in_G hown hK hw 0 0 rfl g00 rfl 2 (by decide) (hts _ wd_142) (fun _ h9 => h9) rfl d_G_writeInts_22 ?_
  refine lv_bipush (v := 30) hx hb d_G_writeInts_25 (by decide) ?_
  refine va_ldcS (q := ad 50 1) (tx := "[I") hx hb hown (by rw [(hKK.1 1 (by decide)).2]; exact hk1) d_G_writeInts_27 ?_
  refine lv_ldc2 (v := 5600894804908749477) hx hb hown (hts _ wd_642) d_G_writeInts_29 ?_
  refine lv_iconst (v := 2) hx hb d_G_writeInts_32 (by decide) ?_
  refine lv_iconst (v := 0) hx hb d_G_writeInts_33 (by decide) ?_
  refine pw_calli (va_runV (As := [.int 30, .ref (ad 50 1), .long 5600894804908749477, .int 2, .int 0]) (rest := []) ⟨hx, hb, hml, hown, hts0⟩ (k_O_openDescriptor hO0 (hKK.1 1 (by decide)).1 (by decide) (by decide) (k := 30) (by decide) 5600894804908749477 2 0 _) (cwV 5 hts0 (wd_V wd_646 wd_643 wd_644 wd_645 wd_54) rfl rfl rfl (by decide +kernel) ⟨Nat.le_of_ble_eq_true rfl, Nat.le_of_ble_eq_true rfl⟩) (pw_preV hZ hw hA hK hz rfl h30 rfl) rfl rfl hl.1 rfl (lv_room (Nat.le_of_ble_eq_true rfl)) d_G_writeInts_34 ⟨Nat.le_of_ble_eq_true rfl, Nat.le_of_ble_eq_true rfl⟩) hw hA (fun r_13 ad_11 C_12 H locs hp hw => ?_)
  obtain ⟨⟨hae, hO, hf1⟩, hre⟩ := hp
  rw [hae] at hw; clear hae
  have hfr : os_fr C C_12 := fun x y h => (hf1 x y h).trans (hfr x y h)
  rw [hre]; clear hre r_13
  obtain ⟨x_14, hx_14⟩ : ∃ z, z = (es_desc x_10 30 (z9_tx 1) 5600894804908749477 2 0).1 := ⟨_, rfl⟩
  rw [← hx_14] at hO
  have hO0 := hO
  obtain ⟨by0, wt, h30, h40, h50, h60, h70, hlen, hby, hwn, hw0, hwt⟩ := hO
  have hG := hG0.fr hf1
  have hG0 := hG
  obtain ⟨g00, g10, g20, hmk, hDD, hTT, hKK⟩ := hG
  obtain ⟨p20, p21, p22, pn, pt⟩ := hTT o ho
  refine lv_if_eq (tgt := 47) hx hb d_G_writeInts_37 (by decide) (fun c_15 => ?_) (fun c_15 => ?_)
  · skip
    refine lv_aload_n hx hb d_G_writeInts_47 rfl (lv_at hl 1 rfl) ?_
    refine pw_get (Cn := "GraphWriter") (T := F_G) (N := 4) hx hb hts in_G hown hK hw 0 0 rfl g00 rfl 2 (by decide) (hts _ wd_142) (fun _ h9 => h9) rfl d_G_writeInts_48 ?_
    refine lv_iload_n hx hb d_G_writeInts_51 rfl (lv_at hl 2 rfl) ?_
    refine pw_callv (va_runV (As := [.int (nI o)]) (rest := []) ⟨hx, hb, hml, hown, hts0⟩ (k_O_giveHandle hZ hO0 (k := o) (by omega) _) (cwV 1 hts0 (wd_V wd_619 wd_655 wd_617 wd_618 wd_54) rfl rfl rfl (by decide +kernel) ⟨Nat.le_of_ble_eq_true rfl, Nat.le_of_ble_eq_true rfl⟩) (pw_preV hZ hw hA hK hz rfl h30 rfl) rfl rfl hl.1 rfl (lv_room (Nat.le_of_ble_eq_true rfl)) d_G_writeInts_52 ⟨Nat.le_of_ble_eq_true rfl, Nat.le_of_ble_eq_true rfl⟩) hw hA (fun ad_16 C_17 H locs hp hw => ?_)
    obtain ⟨hae, hO, hf1⟩ := hp
    rw [hae] at hw; clear hae
    have hfr : os_fr C C_17 := fun x y h => (hf1 x y h).trans (hfr x y h)
    obtain ⟨x_19, hx_19⟩ : ∃ z, z = es_give x_14 o := ⟨_, rfl⟩
    rw [← hx_19] at hO
    have hO0 := hO
    obtain ⟨by0, wt, h30, h40, h50, h60, h70, hlen, hby, hwn, hw0, hwt⟩ := hO
    have hG := hG0.fr hf1
    have hG0 := hG
    obtain ⟨g00, g10, g20, hmk, hDD, hTT, hKK⟩ := hG
    obtain ⟨p20, p21, p22, pn, pt⟩ := hTT o ho
    refine lv_aload_n hx hb d_G_writeInts_55 rfl (lv_at hl 1 rfl) ?_
    refine pw_get (Cn := "GraphWriter") (T := F_G) (N := 4) hx hb hts in_G hown hK hw 0 0 rfl g00 rfl 2 (by decide) (hts _ wd_142) (fun _ h9 => h9) rfl d_G_writeInts_56 ?_
    refine lv_aload_n hx hb d_G_writeInts_59 rfl (lv_at hl 0 rfl) ?_
    refine pw_alen hx hb hK hw 22 o rfl 1 p22 rfl d_G_writeInts_60 ?_
    refine lv_i2l hx hb d_G_writeInts_61 rfl ?_
    refine lv_iconst (v := 4) hx hb d_G_writeInts_62 (by decide) ?_
    refine pw_callv (va_runV (As := [.long ((nI (tt_n (td o))).toInt64), .int 4]) (rest := []) ⟨hx, hb, hml, hown, hts0⟩ (k_O_put hO0 ((nI (tt_n (td o))).toInt64) (w := 4) (by decide) _) (cwV 2 hts0 (wd_V wd_139 wd_136 wd_137 wd_138 wd_54) rfl rfl rfl (by decide +kernel) ⟨Nat.le_of_ble_eq_true rfl, Nat.le_of_ble_eq_true rfl⟩) (pw_preV hZ hw hA hK hz rfl h30 rfl) rfl rfl hl.1 rfl (lv_room (Nat.le_of_ble_eq_true rfl)) d_G_writeInts_63 ⟨Nat.le_of_ble_eq_true rfl, Nat.le_of_ble_eq_true rfl⟩) hw hA (fun ad_20 C_21 H locs hp hw => ?_)
    obtain ⟨hae, hO, hf1⟩ := hp
    rw [hae] at hw; clear hae
    have hfr : os_fr C C_21 := fun x y h => (hf1 x y h).trans (hfr x y h)
    obtain ⟨x_23, hx_23⟩ : ∃ z, z = es_put x_19 ((nI (tt_n (td o))).toInt64) 4 := ⟨_, rfl⟩
    rw [← hx_23] at hO
    have hO0 := hO
    obtain ⟨by0, wt, h30, h40, h50, h60, h70, hlen, hby, hwn, hw0, hwt⟩ := hO
    have hG := hG0.fr hf1
    have hG0 := hG
    obtain ⟨g00, g10, g20, hmk, hDD, hTT, hKK⟩ := hG
    obtain ⟨p20, p21, p22, pn, pt⟩ := hTT o ho
    refine lv_iconst (v := 0) hx hb d_G_writeInts_66 (by decide) ?_
    refine lv_istore_n (lv' := [(3, .int 0), (2, .ref (ad 22 o)), (0, .ref (ad 0 0)), (1, .int (nI o))]) hx hb d_G_writeInts_67 rfl hl (by decide) rfl (fun ls hl => ?_)
    have e5 : ga_ints x o (td o) = ga_irec (td o) (tt_n (td o)) x_23 := by rw [hx_23, hx_19, hx_14, hx_10]; unfold ga_ints ga_top; rw [if_pos (by rw [← hx_10]; exact c_15)]
    exact loop (tt_n (td o)) x_23 _ _ _ _ (Nat.le_refl _) e5.symm hO0 hG0 hfr hw (by rw [Nat.sub_self]; exact (lv_sub hl [0, 1, 2, 3] rfl))
  · skip
    refine lv_aload_n hx hb d_G_writeInts_40 rfl (lv_at hl 1 rfl) ?_
    refine pw_get (Cn := "GraphWriter") (T := F_G) (N := 4) hx hb hts in_G hown hK hw 0 0 rfl g00 rfl 2 (by decide) (hts _ wd_142) (fun _ h9 => h9) rfl d_G_writeInts_41 ?_
    refine pw_callv (va_runV (As := []) (rest := []) ⟨hx, hb, hml, hown, hts0⟩ (k_O_closeTopDescriptor hZ hO0 _) (cwV 0 hts0 (wd_V wd_652 wd_649 wd_650 wd_651 wd_54) rfl rfl rfl (by decide +kernel) ⟨Nat.le_of_ble_eq_true rfl, Nat.le_of_ble_eq_true rfl⟩) (pw_preV hZ hw hA hK hz rfl h30 rfl) rfl rfl hl.1 rfl (lv_room (Nat.le_of_ble_eq_true rfl)) d_G_writeInts_44 ⟨Nat.le_of_ble_eq_true rfl, Nat.le_of_ble_eq_true rfl⟩) hw hA (fun ad_24 C_25 H locs hp hw => ?_)
    obtain ⟨hae, hO, hf1⟩ := hp
    rw [hae] at hw; clear hae
    have hfr : os_fr C C_25 := fun x y h => (hf1 x y h).trans (hfr x y h)
    obtain ⟨x_27, hx_27⟩ : ∃ z, z = es_close x_14 := ⟨_, rfl⟩
    rw [← hx_27] at hO
    have hO0 := hO
    obtain ⟨by0, wt, h30, h40, h50, h60, h70, hlen, hby, hwn, hw0, hwt⟩ := hO
    have hG := hG0.fr hf1
    have hG0 := hG
    obtain ⟨g00, g10, g20, hmk, hDD, hTT, hKK⟩ := hG
    obtain ⟨p20, p21, p22, pn, pt⟩ := hTT o ho
    refine lv_aload_n hx hb d_G_writeInts_47 rfl (lv_at hl 1 rfl) ?_
    refine pw_get (Cn := "GraphWriter") (T := F_G) (N := 4) hx hb hts in_G hown hK hw 0 0 rfl g00 rfl 2 (by decide) (hts _ wd_142) (fun _ h9 => h9) rfl d_G_writeInts_48 ?_
    refine lv_iload_n hx hb d_G_writeInts_51 rfl (lv_at hl 2 rfl) ?_
    refine pw_callv (va_runV (As := [.int (nI o)]) (rest := []) ⟨hx, hb, hml, hown, hts0⟩ (k_O_giveHandle hZ hO0 (k := o) (by omega) _) (cwV 1 hts0 (wd_V wd_619 wd_655 wd_617 wd_618 wd_54) rfl rfl rfl (by decide +kernel) ⟨Nat.le_of_ble_eq_true rfl, Nat.le_of_ble_eq_true rfl⟩) (pw_preV hZ hw hA hK hz rfl h30 rfl) rfl rfl hl.1 rfl (lv_room (Nat.le_of_ble_eq_true rfl)) d_G_writeInts_52 ⟨Nat.le_of_ble_eq_true rfl, Nat.le_of_ble_eq_true rfl⟩) hw hA (fun ad_28 C_29 H locs hp hw => ?_)
    obtain ⟨hae, hO, hf1⟩ := hp
    rw [hae] at hw; clear hae
    have hfr : os_fr C C_29 := fun x y h => (hf1 x y h).trans (hfr x y h)
    obtain ⟨x_31, hx_31⟩ : ∃ z, z = es_give x_27 o := ⟨_, rfl⟩
    rw [← hx_31] at hO
    have hO0 := hO
    obtain ⟨by0, wt, h30, h40, h50, h60, h70, hlen, hby, hwn, hw0, hwt⟩ := hO
    have hG := hG0.fr hf1
    have hG0 := hG
    obtain ⟨g00, g10, g20, hmk, hDD, hTT, hKK⟩ := hG
    obtain ⟨p20, p21, p22, pn, pt⟩ := hTT o ho
    refine lv_aload_n hx hb d_G_writeInts_55 rfl (lv_at hl 1 rfl) ?_
    refine pw_get (Cn := "GraphWriter") (T := F_G) (N := 4) hx hb hts in_G hown hK hw 0 0 rfl g00 rfl 2 (by decide) (hts _ wd_142) (fun _ h9 => h9) rfl d_G_writeInts_56 ?_
    refine lv_aload_n hx hb d_G_writeInts_59 rfl (lv_at hl 0 rfl) ?_
    refine pw_alen hx hb hK hw 22 o rfl 1 p22 rfl d_G_writeInts_60 ?_
    refine lv_i2l hx hb d_G_writeInts_61 rfl ?_
    refine lv_iconst (v := 4) hx hb d_G_writeInts_62 (by decide) ?_
    refine pw_callv (va_runV (As := [.long ((nI (tt_n (td o))).toInt64), .int 4]) (rest := []) ⟨hx, hb, hml, hown, hts0⟩ (k_O_put hO0 ((nI (tt_n (td o))).toInt64) (w := 4) (by decide) _) (cwV 2 hts0 (wd_V wd_139 wd_136 wd_137 wd_138 wd_54) rfl rfl rfl (by decide +kernel) ⟨Nat.le_of_ble_eq_true rfl, Nat.le_of_ble_eq_true rfl⟩) (pw_preV hZ hw hA hK hz rfl h30 rfl) rfl rfl hl.1 rfl (lv_room (Nat.le_of_ble_eq_true rfl)) d_G_writeInts_63 ⟨Nat.le_of_ble_eq_true rfl, Nat.le_of_ble_eq_true rfl⟩) hw hA (fun ad_32 C_33 H locs hp hw => ?_)
    obtain ⟨hae, hO, hf1⟩ := hp
    rw [hae] at hw; clear hae
    have hfr : os_fr C C_33 := fun x y h => (hf1 x y h).trans (hfr x y h)
    obtain ⟨x_35, hx_35⟩ : ∃ z, z = es_put x_31 ((nI (tt_n (td o))).toInt64) 4 := ⟨_, rfl⟩
    rw [← hx_35] at hO
    have hO0 := hO
    obtain ⟨by0, wt, h30, h40, h50, h60, h70, hlen, hby, hwn, hw0, hwt⟩ := hO
    have hG := hG0.fr hf1
    have hG0 := hG
    obtain ⟨g00, g10, g20, hmk, hDD, hTT, hKK⟩ := hG
    obtain ⟨p20, p21, p22, pn, pt⟩ := hTT o ho
    refine lv_iconst (v := 0) hx hb d_G_writeInts_66 (by decide) ?_
    refine lv_istore_n (lv' := [(3, .int 0), (2, .ref (ad 22 o)), (0, .ref (ad 0 0)), (1, .int (nI o))]) hx hb d_G_writeInts_67 rfl hl (by decide) rfl (fun ls hl => ?_)
    have e5 : ga_ints x o (td o) = ga_irec (td o) (tt_n (td o)) x_35 := by rw [hx_35, hx_31, hx_27, hx_14, hx_10]; unfold ga_ints ga_top; rw [if_neg (by rw [← hx_10]; exact c_15)]
    exact loop (tt_n (td o)) x_35 _ _ _ _ (Nat.le_refl _) e5.symm hO0 hG0 hfr hw (by rw [Nat.sub_self]; exact (lv_sub hl [0, 1, 2, 3] rfl))
end
