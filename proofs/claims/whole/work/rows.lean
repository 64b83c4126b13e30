section
-- ===== PART A: goes FIRST, ahead of the names: the tables' words, and 'selects' of the private methods out of them =====
/-- a private method of a class that the tables say can be made, by its rows of tables_1 -/
def lw_okq (q : MethodName × Nat) : Prop := (q.1.cls ≠ "java/lang/invoke/MethodHandle" ∧ q.1.cls ≠ "java/lang/invoke/VarHandle") ∧ Cond.instantiable q.1.cls q.2 ∈ tables_1 ∧ Cond.privateMethod q.1 ∈ tables_1 ∧ Cond.instanceMethod q.1 ∈ tables_1
theorem lw_p0 : lw_okq (⟨"GraphWriter", "mayStandAbove", "(II)Z"⟩, 4) := ⟨⟨by decide +kernel, by decide +kernel⟩, List.mem_of_getElem? (i := 17) (by decide +kernel), List.mem_of_getElem? (i := 106) (by decide +kernel), List.mem_of_getElem? (i := 107) (by decide +kernel)⟩
theorem lw_p1 : lw_okq (⟨"GraphWriter", "isDefined", "(I)Z"⟩, 4) := ⟨⟨by decide +kernel, by decide +kernel⟩, List.mem_of_getElem? (i := 17) (by decide +kernel), List.mem_of_getElem? (i := 110) (by decide +kernel), List.mem_of_getElem? (i := 111) (by decide +kernel)⟩
theorem lw_p2 : lw_okq (⟨"GraphWriter", "chainTo", "(II)[I"⟩, 4) := ⟨⟨by decide +kernel, by decide +kernel⟩, List.mem_of_getElem? (i := 17) (by decide +kernel), List.mem_of_getElem? (i := 115) (by decide +kernel), List.mem_of_getElem? (i := 116) (by decide +kernel)⟩
theorem lw_p3 : lw_okq (⟨"GraphWriter$Defined", "putInOrder", "(I)V"⟩, 11) := ⟨⟨by decide +kernel, by decide +kernel⟩, List.mem_of_getElem? (i := 113) (by decide +kernel), List.mem_of_getElem? (i := 299) (by decide +kernel), List.mem_of_getElem? (i := 300) (by decide +kernel)⟩
theorem lw_p4 : lw_okq (⟨"GraphWriter$Defined", "rank", "(I)I"⟩, 11) := ⟨⟨by decide +kernel, by decide +kernel⟩, List.mem_of_getElem? (i := 113) (by decide +kernel), List.mem_of_getElem? (i := 303) (by decide +kernel), List.mem_of_getElem? (i := 304) (by decide +kernel)⟩
theorem lw_p5 : lw_okq (⟨"GraphWriter", "slotTypes", "([I)[I"⟩, 4) := ⟨⟨by decide +kernel, by decide +kernel⟩, List.mem_of_getElem? (i := 17) (by decide +kernel), List.mem_of_getElem? (i := 312) (by decide +kernel), List.mem_of_getElem? (i := 313) (by decide +kernel)⟩
theorem lw_p6 : lw_okq (⟨"GraphWriter", "keep", "(LGraphWriter$Thing;)I"⟩, 4) := ⟨⟨by decide +kernel, by decide +kernel⟩, List.mem_of_getElem? (i := 17) (by decide +kernel), List.mem_of_getElem? (i := 352) (by decide +kernel), List.mem_of_getElem? (i := 353) (by decide +kernel)⟩
theorem lw_p7 : lw_okq (⟨"GraphWriter", "isMade", "(I)Z"⟩, 4) := ⟨⟨by decide +kernel, by decide +kernel⟩, List.mem_of_getElem? (i := 17) (by decide +kernel), List.mem_of_getElem? (i := 496) (by decide +kernel), List.mem_of_getElem? (i := 497) (by decide +kernel)⟩
theorem lw_p8 : lw_okq (⟨"GraphWriter", "mayBeHeld", "(JI)Z"⟩, 4) := ⟨⟨by decide +kernel, by decide +kernel⟩, List.mem_of_getElem? (i := 17) (by decide +kernel), List.mem_of_getElem? (i := 500) (by decide +kernel), List.mem_of_getElem? (i := 501) (by decide +kernel)⟩
theorem lw_p9 : lw_okq (⟨"GraphWriter", "isInstance", "(I)Z"⟩, 4) := ⟨⟨by decide +kernel, by decide +kernel⟩, List.mem_of_getElem? (i := 17) (by decide +kernel), List.mem_of_getElem? (i := 509) (by decide +kernel), List.mem_of_getElem? (i := 510) (by decide +kernel)⟩
theorem lw_p10 : lw_okq (⟨"GraphWriter", "writeObject", "(IZI)V"⟩, 4) := ⟨⟨by decide +kernel, by decide +kernel⟩, List.mem_of_getElem? (i := 17) (by decide +kernel), List.mem_of_getElem? (i := 545) (by decide +kernel), List.mem_of_getElem? (i := 546) (by decide +kernel)⟩
theorem lw_p11 : lw_okq (⟨"GraphWriter", "replaced", "(I)I"⟩, 4) := ⟨⟨by decide +kernel, by decide +kernel⟩, List.mem_of_getElem? (i := 17) (by decide +kernel), List.mem_of_getElem? (i := 550) (by decide +kernel), List.mem_of_getElem? (i := 551) (by decide +kernel)⟩
theorem lw_p12 : lw_okq (⟨"GraphWriter", "writeInts", "(I)V"⟩, 4) := ⟨⟨by decide +kernel, by decide +kernel⟩, List.mem_of_getElem? (i := 17) (by decide +kernel), List.mem_of_getElem? (i := 585) (by decide +kernel), List.mem_of_getElem? (i := 586) (by decide +kernel)⟩
theorem lw_p13 : lw_okq (⟨"GraphWriter", "writeRefs", "(II)V"⟩, 4) := ⟨⟨by decide +kernel, by decide +kernel⟩, List.mem_of_getElem? (i := 17) (by decide +kernel), List.mem_of_getElem? (i := 605) (by decide +kernel), List.mem_of_getElem? (i := 606) (by decide +kernel)⟩
theorem lw_p14 : lw_okq (⟨"GraphWriter", "writeConstant", "(I)V"⟩, 4) := ⟨⟨by decide +kernel, by decide +kernel⟩, List.mem_of_getElem? (i := 17) (by decide +kernel), List.mem_of_getElem? (i := 611) (by decide +kernel), List.mem_of_getElem? (i := 612) (by decide +kernel)⟩
theorem lw_p15 : lw_okq (⟨"GraphWriter", "writeDescriptor", "(LGraphWriter$Defined;)V"⟩, 4) := ⟨⟨by decide +kernel, by decide +kernel⟩, List.mem_of_getElem? (i := 17) (by decide +kernel), List.mem_of_getElem? (i := 616) (by decide +kernel), List.mem_of_getElem? (i := 617) (by decide +kernel)⟩
def lw_privs_1 : List (MethodName × Nat) := [(⟨"GraphWriter", "mayStandAbove", "(II)Z"⟩, 4), (⟨"GraphWriter", "isDefined", "(I)Z"⟩, 4), (⟨"GraphWriter", "chainTo", "(II)[I"⟩, 4), (⟨"GraphWriter$Defined", "putInOrder", "(I)V"⟩, 11), (⟨"GraphWriter$Defined", "rank", "(I)I"⟩, 11), (⟨"GraphWriter", "slotTypes", "([I)[I"⟩, 4), (⟨"GraphWriter", "keep", "(LGraphWriter$Thing;)I"⟩, 4), (⟨"GraphWriter", "isMade", "(I)Z"⟩, 4), (⟨"GraphWriter", "mayBeHeld", "(JI)Z"⟩, 4), (⟨"GraphWriter", "isInstance", "(I)Z"⟩, 4), (⟨"GraphWriter", "writeObject", "(IZI)V"⟩, 4), (⟨"GraphWriter", "replaced", "(I)I"⟩, 4), (⟨"GraphWriter", "writeInts", "(I)V"⟩, 4), (⟨"GraphWriter", "writeRefs", "(II)V"⟩, 4), (⟨"GraphWriter", "writeConstant", "(I)V"⟩, 4), (⟨"GraphWriter", "writeDescriptor", "(LGraphWriter$Defined;)V"⟩, 4)]
theorem lw_r1 : ∀ q ∈ lw_privs_1, lw_okq q := List.forall_mem_cons.mpr ⟨lw_p0, List.forall_mem_cons.mpr ⟨lw_p1, List.forall_mem_cons.mpr ⟨lw_p2, List.forall_mem_cons.mpr ⟨lw_p3, List.forall_mem_cons.mpr ⟨lw_p4, List.forall_mem_cons.mpr ⟨lw_p5, List.forall_mem_cons.mpr ⟨lw_p6, List.forall_mem_cons.mpr ⟨lw_p7, List.forall_mem_cons.mpr ⟨lw_p8, List.forall_mem_cons.mpr ⟨lw_p9, List.forall_mem_cons.mpr ⟨lw_p10, List.forall_mem_cons.mpr ⟨lw_p11, List.forall_mem_cons.mpr ⟨lw_p12, List.forall_mem_cons.mpr ⟨lw_p13, List.forall_mem_cons.mpr ⟨lw_p14, List.forall_mem_cons.mpr ⟨lw_p15, fun _ h => absurd h List.not_mem_nil⟩⟩⟩⟩⟩⟩⟩⟩⟩⟩⟩⟩⟩⟩⟩⟩
theorem lw_p16 : lw_okq (⟨"GraphWriter", "writeInstance", "(II)V"⟩, 4) := ⟨⟨by decide +kernel, by decide +kernel⟩, List.mem_of_getElem? (i := 17) (by decide +kernel), List.mem_of_getElem? (i := 633) (by decide +kernel), List.mem_of_getElem? (i := 634) (by decide +kernel)⟩
theorem lw_p17 : lw_okq (⟨"GraphWriter", "writeParts", "(LGraphWriter$Thing;LGraphWriter$Defined;II)V"⟩, 4) := ⟨⟨by decide +kernel, by decide +kernel⟩, List.mem_of_getElem? (i := 17) (by decide +kernel), List.mem_of_getElem? (i := 644) (by decide +kernel), List.mem_of_getElem? (i := 645) (by decide +kernel)⟩
theorem lw_p18 : lw_okq (⟨"GraphWriter$Out", "goBack", "()V"⟩, 11) := ⟨⟨by decide +kernel, by decide +kernel⟩, List.mem_of_getElem? (i := 29) (by decide +kernel), List.mem_of_getElem? (i := 656) (by decide +kernel), List.mem_of_getElem? (i := 657) (by decide +kernel)⟩
theorem lw_p19 : lw_okq (⟨"GraphWriter", "definedClasses", "()I"⟩, 4) := ⟨⟨by decide +kernel, by decide +kernel⟩, List.mem_of_getElem? (i := 17) (by decide +kernel), List.mem_of_getElem? (i := 678) (by decide +kernel), List.mem_of_getElem? (i := 679) (by decide +kernel)⟩
theorem lw_p20 : lw_okq (⟨"GraphWriterModel", "append", "(JI)V"⟩, 31) := ⟨⟨by decide +kernel, by decide +kernel⟩, List.mem_of_getElem? (i := 687) (by decide +kernel), List.mem_of_getElem? (i := 694) (by decide +kernel), List.mem_of_getElem? (i := 695) (by decide +kernel)⟩
theorem lw_p21 : lw_okq (⟨"GraphWriterModel", "noHandles", "()V"⟩, 31) := ⟨⟨by decide +kernel, by decide +kernel⟩, List.mem_of_getElem? (i := 687) (by decide +kernel), List.mem_of_getElem? (i := 699) (by decide +kernel), List.mem_of_getElem? (i := 700) (by decide +kernel)⟩
theorem lw_p22 : lw_okq (⟨"GraphWriterModel", "out", "(II)Z"⟩, 31) := ⟨⟨by decide +kernel, by decide +kernel⟩, List.mem_of_getElem? (i := 687) (by decide +kernel), List.mem_of_getElem? (i := 802) (by decide +kernel), List.mem_of_getElem? (i := 803) (by decide +kernel)⟩
theorem lw_p23 : lw_okq (⟨"GraphWriterModel", "noClass", "(I)Z"⟩, 31) := ⟨⟨by decide +kernel, by decide +kernel⟩, List.mem_of_getElem? (i := 687) (by decide +kernel), List.mem_of_getElem? (i := 806) (by decide +kernel), List.mem_of_getElem? (i := 807) (by decide +kernel)⟩
theorem lw_p24 : lw_okq (⟨"GraphWriterModel", "below", "(II)Z"⟩, 31) := ⟨⟨by decide +kernel, by decide +kernel⟩, List.mem_of_getElem? (i := 687) (by decide +kernel), List.mem_of_getElem? (i := 814) (by decide +kernel), List.mem_of_getElem? (i := 815) (by decide +kernel)⟩
theorem lw_p25 : lw_okq (⟨"GraphWriterModel", "firstSlot", "(I)I"⟩, 31) := ⟨⟨by decide +kernel, by decide +kernel⟩, List.mem_of_getElem? (i := 687) (by decide +kernel), List.mem_of_getElem? (i := 822) (by decide +kernel), List.mem_of_getElem? (i := 823) (by decide +kernel)⟩
theorem lw_p26 : lw_okq (⟨"GraphWriterModel", "begin", "(II)I"⟩, 31) := ⟨⟨by decide +kernel, by decide +kernel⟩, List.mem_of_getElem? (i := 687) (by decide +kernel), List.mem_of_getElem? (i := 826) (by decide +kernel), List.mem_of_getElem? (i := 827) (by decide +kernel)⟩
theorem lw_p27 : lw_okq (⟨"GraphWriterModel", "slotType", "(II)I"⟩, 31) := ⟨⟨by decide +kernel, by decide +kernel⟩, List.mem_of_getElem? (i := 687) (by decide +kernel), List.mem_of_getElem? (i := 830) (by decide +kernel), List.mem_of_getElem? (i := 831) (by decide +kernel)⟩
theorem lw_p28 : lw_okq (⟨"GraphWriterModel", "holder", "(II)I"⟩, 31) := ⟨⟨by decide +kernel, by decide +kernel⟩, List.mem_of_getElem? (i := 687) (by decide +kernel), List.mem_of_getElem? (i := 834) (by decide +kernel), List.mem_of_getElem? (i := 835) (by decide +kernel)⟩
theorem lw_p29 : lw_okq (⟨"GraphWriterModel", "noInstance", "(I)Z"⟩, 31) := ⟨⟨by decide +kernel, by decide +kernel⟩, List.mem_of_getElem? (i := 687) (by decide +kernel), List.mem_of_getElem? (i := 859) (by decide +kernel), List.mem_of_getElem? (i := 860) (by decide +kernel)⟩
theorem lw_p30 : lw_okq (⟨"GraphWriterModel", "flush", "()V"⟩, 31) := ⟨⟨by decide +kernel, by decide +kernel⟩, List.mem_of_getElem? (i := 687) (by decide +kernel), List.mem_of_getElem? (i := 871) (by decide +kernel), List.mem_of_getElem? (i := 872) (by decide +kernel)⟩
theorem lw_p31 : lw_okq (⟨"GraphWriterModel", "remember", "()V"⟩, 31) := ⟨⟨by decide +kernel, by decide +kernel⟩, List.mem_of_getElem? (i := 687) (by decide +kernel), List.mem_of_getElem? (i := 880) (by decide +kernel), List.mem_of_getElem? (i := 881) (by decide +kernel)⟩
def lw_privs_2 : List (MethodName × Nat) := [(⟨"GraphWriter", "writeInstance", "(II)V"⟩, 4), (⟨"GraphWriter", "writeParts", "(LGraphWriter$Thing;LGraphWriter$Defined;II)V"⟩, 4), (⟨"GraphWriter$Out", "goBack", "()V"⟩, 11), (⟨"GraphWriter", "definedClasses", "()I"⟩, 4), (⟨"GraphWriterModel", "append", "(JI)V"⟩, 31), (⟨"GraphWriterModel", "noHandles", "()V"⟩, 31), (⟨"GraphWriterModel", "out", "(II)Z"⟩, 31), (⟨"GraphWriterModel", "noClass", "(I)Z"⟩, 31), (⟨"GraphWriterModel", "below", "(II)Z"⟩, 31), (⟨"GraphWriterModel", "firstSlot", "(I)I"⟩, 31), (⟨"GraphWriterModel", "begin", "(II)I"⟩, 31), (⟨"GraphWriterModel", "slotType", "(II)I"⟩, 31), (⟨"GraphWriterModel", "holder", "(II)I"⟩, 31), (⟨"GraphWriterModel", "noInstance", "(I)Z"⟩, 31), (⟨"GraphWriterModel", "flush", "()V"⟩, 31), (⟨"GraphWriterModel", "remember", "()V"⟩, 31)]
theorem lw_r2 : ∀ q ∈ lw_privs_2, lw_okq q := List.forall_mem_cons.mpr ⟨lw_p16, List.forall_mem_cons.mpr ⟨lw_p17, List.forall_mem_cons.mpr ⟨lw_p18, List.forall_mem_cons.mpr ⟨lw_p19, List.forall_mem_cons.mpr ⟨lw_p20, List.forall_mem_cons.mpr ⟨lw_p21, List.forall_mem_cons.mpr ⟨lw_p22, List.forall_mem_cons.mpr ⟨lw_p23, List.forall_mem_cons.mpr ⟨lw_p24, List.forall_mem_cons.mpr ⟨lw_p25, List.forall_mem_cons.mpr ⟨lw_p26, List.forall_mem_cons.mpr ⟨lw_p27, List.forall_mem_cons.mpr ⟨lw_p28, List.forall_mem_cons.mpr ⟨lw_p29, List.forall_mem_cons.mpr ⟨lw_p30, List.forall_mem_cons.mpr ⟨lw_p31, fun _ h => absurd h List.not_mem_nil⟩⟩⟩⟩⟩⟩⟩⟩⟩⟩⟩⟩⟩⟩⟩⟩
theorem lw_p32 : lw_okq (⟨"GraphWriterModel", "writeObject", "(IZ)Z"⟩, 31) := ⟨⟨by decide +kernel, by decide +kernel⟩, List.mem_of_getElem? (i := 687) (by decide +kernel), List.mem_of_getElem? (i := 884) (by decide +kernel), List.mem_of_getElem? (i := 885) (by decide +kernel)⟩
theorem lw_p33 : lw_okq (⟨"GraphWriterModel", "standing", "(I)I"⟩, 31) := ⟨⟨by decide +kernel, by decide +kernel⟩, List.mem_of_getElem? (i := 687) (by decide +kernel), List.mem_of_getElem? (i := 888) (by decide +kernel), List.mem_of_getElem? (i := 889) (by decide +kernel)⟩
theorem lw_p34 : lw_okq (⟨"GraphWriterModel", "refer", "(I)V"⟩, 31) := ⟨⟨by decide +kernel, by decide +kernel⟩, List.mem_of_getElem? (i := 687) (by decide +kernel), List.mem_of_getElem? (i := 893) (by decide +kernel), List.mem_of_getElem? (i := 894) (by decide +kernel)⟩
theorem lw_p35 : lw_okq (⟨"GraphWriterModel", "give", "(I)V"⟩, 31) := ⟨⟨by decide +kernel, by decide +kernel⟩, List.mem_of_getElem? (i := 687) (by decide +kernel), List.mem_of_getElem? (i := 900) (by decide +kernel), List.mem_of_getElem? (i := 901) (by decide +kernel)⟩
theorem lw_p36 : lw_okq (⟨"GraphWriterModel", "writeArray", "(I)V"⟩, 31) := ⟨⟨by decide +kernel, by decide +kernel⟩, List.mem_of_getElem? (i := 687) (by decide +kernel), List.mem_of_getElem? (i := 904) (by decide +kernel), List.mem_of_getElem? (i := 905) (by decide +kernel)⟩
theorem lw_p37 : lw_okq (⟨"GraphWriterModel", "arrayDescriptor", "(Z)V"⟩, 31) := ⟨⟨by decide +kernel, by decide +kernel⟩, List.mem_of_getElem? (i := 687) (by decide +kernel), List.mem_of_getElem? (i := 909) (by decide +kernel), List.mem_of_getElem? (i := 910) (by decide +kernel)⟩
theorem lw_p38 : lw_okq (⟨"GraphWriterModel", "plainEnd", "(II)V"⟩, 31) := ⟨⟨by decide +kernel, by decide +kernel⟩, List.mem_of_getElem? (i := 687) (by decide +kernel), List.mem_of_getElem? (i := 922) (by decide +kernel), List.mem_of_getElem? (i := 923) (by decide +kernel)⟩
theorem lw_p39 : lw_okq (⟨"GraphWriterModel", "push", "(III)V"⟩, 31) := ⟨⟨by decide +kernel, by decide +kernel⟩, List.mem_of_getElem? (i := 687) (by decide +kernel), List.mem_of_getElem? (i := 927) (by decide +kernel), List.mem_of_getElem? (i := 928) (by decide +kernel)⟩
theorem lw_p40 : lw_okq (⟨"GraphWriterModel", "writeConstant", "(I)V"⟩, 31) := ⟨⟨by decide +kernel, by decide +kernel⟩, List.mem_of_getElem? (i := 687) (by decide +kernel), List.mem_of_getElem? (i := 931) (by decide +kernel), List.mem_of_getElem? (i := 932) (by decide +kernel)⟩
theorem lw_p41 : lw_okq (⟨"GraphWriterModel", "descriptor", "(I)V"⟩, 31) := ⟨⟨by decide +kernel, by decide +kernel⟩, List.mem_of_getElem? (i := 687) (by decide +kernel), List.mem_of_getElem? (i := 936) (by decide +kernel), List.mem_of_getElem? (i := 937) (by decide +kernel)⟩
theorem lw_p42 : lw_okq (⟨"GraphWriterModel", "letter", "(I)V"⟩, 31) := ⟨⟨by decide +kernel, by decide +kernel⟩, List.mem_of_getElem? (i := 687) (by decide +kernel), List.mem_of_getElem? (i := 940) (by decide +kernel), List.mem_of_getElem? (i := 941) (by decide +kernel)⟩
theorem lw_p43 : lw_okq (⟨"GraphWriterModel", "enumBase", "()V"⟩, 31) := ⟨⟨by decide +kernel, by decide +kernel⟩, List.mem_of_getElem? (i := 687) (by decide +kernel), List.mem_of_getElem? (i := 944) (by decide +kernel), List.mem_of_getElem? (i := 945) (by decide +kernel)⟩
theorem lw_p44 : lw_okq (⟨"GraphWriterModel", "arrange", "(I)I"⟩, 31) := ⟨⟨by decide +kernel, by decide +kernel⟩, List.mem_of_getElem? (i := 687) (by decide +kernel), List.mem_of_getElem? (i := 952) (by decide +kernel), List.mem_of_getElem? (i := 953) (by decide +kernel)⟩
theorem lw_p45 : lw_okq (⟨"GraphWriterModel", "fieldEntry", "(I)V"⟩, 31) := ⟨⟨by decide +kernel, by decide +kernel⟩, List.mem_of_getElem? (i := 687) (by decide +kernel), List.mem_of_getElem? (i := 956) (by decide +kernel), List.mem_of_getElem? (i := 957) (by decide +kernel)⟩
theorem lw_p46 : lw_okq (⟨"GraphWriterModel", "typeSigns", "(I)V"⟩, 31) := ⟨⟨by decide +kernel, by decide +kernel⟩, List.mem_of_getElem? (i := 687) (by decide +kernel), List.mem_of_getElem? (i := 968) (by decide +kernel), List.mem_of_getElem? (i := 969) (by decide +kernel)⟩
theorem lw_p47 : lw_okq (⟨"GraphWriterModel", "abort", "(I)V"⟩, 31) := ⟨⟨by decide +kernel, by decide +kernel⟩, List.mem_of_getElem? (i := 687) (by decide +kernel), List.mem_of_getElem? (i := 976) (by decide +kernel), List.mem_of_getElem? (i := 977) (by decide +kernel)⟩
def lw_privs_3 : List (MethodName × Nat) := [(⟨"GraphWriterModel", "writeObject", "(IZ)Z"⟩, 31), (⟨"GraphWriterModel", "standing", "(I)I"⟩, 31), (⟨"GraphWriterModel", "refer", "(I)V"⟩, 31), (⟨"GraphWriterModel", "give", "(I)V"⟩, 31), (⟨"GraphWriterModel", "writeArray", "(I)V"⟩, 31), (⟨"GraphWriterModel", "arrayDescriptor", "(Z)V"⟩, 31), (⟨"GraphWriterModel", "plainEnd", "(II)V"⟩, 31), (⟨"GraphWriterModel", "push", "(III)V"⟩, 31), (⟨"GraphWriterModel", "writeConstant", "(I)V"⟩, 31), (⟨"GraphWriterModel", "descriptor", "(I)V"⟩, 31), (⟨"GraphWriterModel", "letter", "(I)V"⟩, 31), (⟨"GraphWriterModel", "enumBase", "()V"⟩, 31), (⟨"GraphWriterModel", "arrange", "(I)I"⟩, 31), (⟨"GraphWriterModel", "fieldEntry", "(I)V"⟩, 31), (⟨"GraphWriterModel", "typeSigns", "(I)V"⟩, 31), (⟨"GraphWriterModel", "abort", "(I)V"⟩, 31)]
theorem lw_r3 : ∀ q ∈ lw_privs_3, lw_okq q := List.forall_mem_cons.mpr ⟨lw_p32, List.forall_mem_cons.mpr ⟨lw_p33, List.forall_mem_cons.mpr ⟨lw_p34, List.forall_mem_cons.mpr ⟨lw_p35, List.forall_mem_cons.mpr ⟨lw_p36, List.forall_mem_cons.mpr ⟨lw_p37, List.forall_mem_cons.mpr ⟨lw_p38, List.forall_mem_cons.mpr ⟨lw_p39, List.forall_mem_cons.mpr ⟨lw_p40, List.forall_mem_cons.mpr ⟨lw_p41, List.forall_mem_cons.mpr ⟨lw_p42, List.forall_mem_cons.mpr ⟨lw_p43, List.forall_mem_cons.mpr ⟨lw_p44, List.forall_mem_cons.mpr ⟨lw_p45, List.forall_mem_cons.mpr ⟨lw_p46, List.forall_mem_cons.mpr ⟨lw_p47, fun _ h => absurd h List.not_mem_nil⟩⟩⟩⟩⟩⟩⟩⟩⟩⟩⟩⟩⟩⟩⟩⟩
theorem lw_p48 : lw_okq (⟨"GraphWriterModel", "parts", "(I)V"⟩, 31) := ⟨⟨by decide +kernel, by decide +kernel⟩, List.mem_of_getElem? (i := 687) (by decide +kernel), List.mem_of_getElem? (i := 983) (by decide +kernel), List.mem_of_getElem? (i := 984) (by decide +kernel)⟩
theorem lw_p49 : lw_okq (⟨"GraphWriterModel", "doOne", "()Z"⟩, 31) := ⟨⟨by decide +kernel, by decide +kernel⟩, List.mem_of_getElem? (i := 687) (by decide +kernel), List.mem_of_getElem? (i := 987) (by decide +kernel), List.mem_of_getElem? (i := 988) (by decide +kernel)⟩
theorem lw_p50 : lw_okq (⟨"GraphWriterModel", "width", "(I)I"⟩, 31) := ⟨⟨by decide +kernel, by decide +kernel⟩, List.mem_of_getElem? (i := 687) (by decide +kernel), List.mem_of_getElem? (i := 991) (by decide +kernel), List.mem_of_getElem? (i := 992) (by decide +kernel)⟩
theorem lw_p51 : lw_okq (⟨"GraphWriterModel", "tooLong", "()Z"⟩, 31) := ⟨⟨by decide +kernel, by decide +kernel⟩, List.mem_of_getElem? (i := 687) (by decide +kernel), List.mem_of_getElem? (i := 996) (by decide +kernel), List.mem_of_getElem? (i := 997) (by decide +kernel)⟩
def lw_privs_4 : List (MethodName × Nat) := [(⟨"GraphWriterModel", "parts", "(I)V"⟩, 31), (⟨"GraphWriterModel", "doOne", "()Z"⟩, 31), (⟨"GraphWriterModel", "width", "(I)I"⟩, 31), (⟨"GraphWriterModel", "tooLong", "()Z"⟩, 31)]
theorem lw_r4 : ∀ q ∈ lw_privs_4, lw_okq q := List.forall_mem_cons.mpr ⟨lw_p48, List.forall_mem_cons.mpr ⟨lw_p49, List.forall_mem_cons.mpr ⟨lw_p50, List.forall_mem_cons.mpr ⟨lw_p51, fun _ h => absurd h List.not_mem_nil⟩⟩⟩⟩
def lw_privs : List (MethodName × Nat) := lw_privs_1 ++ (lw_privs_2 ++ (lw_privs_3 ++ (lw_privs_4)))
def lw_tbl : List Cond := k2_sels lw_privs ++ tables_1
theorem lw_privs_ok : ∀ q ∈ lw_privs, lw_okq q := by
  show ∀ q ∈ lw_privs_1 ++ (lw_privs_2 ++ (lw_privs_3 ++ (lw_privs_4))), lw_okq q
  exact List.forall_mem_append.mpr ⟨lw_r1, List.forall_mem_append.mpr ⟨lw_r2, List.forall_mem_append.mpr ⟨lw_r3, lw_r4⟩⟩⟩
def wd_W : List Cond := lw_tbl.filter goodWord
theorem wd_mem {w : Cond} (i : Nat) (h : lw_tbl[i]? = some w) (hg : goodWord w = true) : w ∈ wd_W := List.mem_filter.mpr ⟨List.mem_of_getElem? h, hg⟩
theorem wd_good : ∀ w ∈ wd_W, ((w.onTables && w.keeps) = true ∨ ∃ ty, w = .arrayClass ty) := fun w hw => good_of_word (List.mem_filter.mp hw).2
theorem wd_sub {c0 c1 : Cond} (h : c1 ∈ wd_W) : GoodIn (c0 :: wd_W) (c1 :: wd_W) := fun w hw => by
  have h1 : w ∈ wd_W := by
    rcases List.mem_cons.mp hw with rfl | h9
    · exact h
    · exact h9
  exact ⟨List.mem_cons_of_mem _ h1, wd_good w h1⟩
theorem wd_V {c0 c1 : Cond} {own C : String} {idx : Nat} {y : MethodName} (h : c1 ∈ wd_W) (h1 : Cond.methodLink own idx y ∈ wd_W) (h2 : Cond.instanceMethod y ∈ wd_W) (h3 : Cond.selects C y y ∈ wd_W) (h4 : Cond.initialized C ∈ wd_W) : GoodIn (c0 :: wd_W) (wsV own idx C y (c1 :: wd_W)) := fun w hw => by
  have h9 : w ∈ wd_W := by
    rcases List.mem_append.mp hw with h5 | h5
    · simp only [List.mem_cons, List.not_mem_nil, or_false] at h5
      rcases h5 with rfl | rfl | rfl | rfl <;> assumption
    · rcases List.mem_cons.mp h5 with rfl | h6
      · exact h
      · exact h6
  exact ⟨List.mem_cons_of_mem _ h9, wd_good w h9⟩
theorem wd_S {c0 c1 : Cond} {own : String} {idx : Nat} {y : MethodName} (h : c1 ∈ wd_W) (h1 : Cond.methodLink own idx y ∈ wd_W) (h2 : Cond.static y ∈ wd_W) (h4 : Cond.initialized y.cls ∈ wd_W) : GoodIn (c0 :: wd_W) (va_wsS own idx y (c1 :: wd_W)) := fun w hw => by
  have h9 : w ∈ wd_W := by
    rcases List.mem_append.mp hw with h5 | h5
    · simp only [List.mem_cons, List.not_mem_nil, or_false] at h5
      rcases h5 with rfl | rfl | rfl <;> assumption
    · rcases List.mem_cons.mp h5 with rfl | h6
      · exact h
      · exact h6
  exact ⟨List.mem_cons_of_mem _ h9, wd_good w h9⟩
theorem wd_hts {c0 : Cond} {args : Array Value} {s : State} (h : ∀ w ∈ c0 :: wd_W, w.before args s = true) : ∀ w ∈ wd_W, w.before args s = true := fun w hw => h w (List.mem_cons_of_mem _ hw)
end
section
theorem wd_0 : (Cond.selects "GraphWriter" ⟨"GraphWriter", "mayStandAbove", "(II)Z"⟩ ⟨"GraphWriter", "mayStandAbove", "(II)Z"⟩) ∈ wd_W := wd_mem 0 (by decide +kernel) (by decide +kernel)
theorem wd_1 : (Cond.selects "GraphWriter" ⟨"GraphWriter", "isDefined", "(I)Z"⟩ ⟨"GraphWriter", "isDefined", "(I)Z"⟩) ∈ wd_W := wd_mem 1 (by decide +kernel) (by decide +kernel)
theorem wd_2 : (Cond.selects "GraphWriter" ⟨"GraphWriter", "chainTo", "(II)[I"⟩ ⟨"GraphWriter", "chainTo", "(II)[I"⟩) ∈ wd_W := wd_mem 2 (by decide +kernel) (by decide +kernel)
theorem wd_3 : (Cond.selects "GraphWriter$Defined" ⟨"GraphWriter$Defined", "putInOrder", "(I)V"⟩ ⟨"GraphWriter$Defined", "putInOrder", "(I)V"⟩) ∈ wd_W := wd_mem 3 (by decide +kernel) (by decide +kernel)
theorem wd_4 : (Cond.selects "GraphWriter$Defined" ⟨"GraphWriter$Defined", "rank", "(I)I"⟩ ⟨"GraphWriter$Defined", "rank", "(I)I"⟩) ∈ wd_W := wd_mem 4 (by decide +kernel) (by decide +kernel)
theorem wd_5 : (Cond.selects "GraphWriter" ⟨"GraphWriter", "slotTypes", "([I)[I"⟩ ⟨"GraphWriter", "slotTypes", "([I)[I"⟩) ∈ wd_W := wd_mem 5 (by decide +kernel) (by decide +kernel)
theorem wd_6 : (Cond.selects "GraphWriter" ⟨"GraphWriter", "keep", "(LGraphWriter$Thing;)I"⟩ ⟨"GraphWriter", "keep", "(LGraphWriter$Thing;)I"⟩) ∈ wd_W := wd_mem 6 (by decide +kernel) (by decide +kernel)
theorem wd_7 : (Cond.selects "GraphWriter" ⟨"GraphWriter", "isMade", "(I)Z"⟩ ⟨"GraphWriter", "isMade", "(I)Z"⟩) ∈ wd_W := wd_mem 7 (by decide +kernel) (by decide +kernel)
theorem wd_8 : (Cond.selects "GraphWriter" ⟨"GraphWriter", "mayBeHeld", "(JI)Z"⟩ ⟨"GraphWriter", "mayBeHeld", "(JI)Z"⟩) ∈ wd_W := wd_mem 8 (by decide +kernel) (by decide +kernel)
theorem wd_9 : (Cond.selects "GraphWriter" ⟨"GraphWriter", "isInstance", "(I)Z"⟩ ⟨"GraphWriter", "isInstance", "(I)Z"⟩) ∈ wd_W := wd_mem 9 (by decide +kernel) (by decide +kernel)
theorem wd_10 : (Cond.selects "GraphWriter" ⟨"GraphWriter", "writeObject", "(IZI)V"⟩ ⟨"GraphWriter", "writeObject", "(IZI)V"⟩) ∈ wd_W := wd_mem 10 (by decide +kernel) (by decide +kernel)
theorem wd_11 : (Cond.selects "GraphWriter" ⟨"GraphWriter", "replaced", "(I)I"⟩ ⟨"GraphWriter", "replaced", "(I)I"⟩) ∈ wd_W := wd_mem 11 (by decide +kernel) (by decide +kernel)
theorem wd_12 : (Cond.selects "GraphWriter" ⟨"GraphWriter", "writeInts", "(I)V"⟩ ⟨"GraphWriter", "writeInts", "(I)V"⟩) ∈ wd_W := wd_mem 12 (by decide +kernel) (by decide +kernel)
theorem wd_13 : (Cond.selects "GraphWriter" ⟨"GraphWriter", "writeRefs", "(II)V"⟩ ⟨"GraphWriter", "writeRefs", "(II)V"⟩) ∈ wd_W := wd_mem 13 (by decide +kernel) (by decide +kernel)
theorem wd_14 : (Cond.selects "GraphWriter" ⟨"GraphWriter", "writeConstant", "(I)V"⟩ ⟨"GraphWriter", "writeConstant", "(I)V"⟩) ∈ wd_W := wd_mem 14 (by decide +kernel) (by decide +kernel)
theorem wd_15 : (Cond.selects "GraphWriter" ⟨"GraphWriter", "writeDescriptor", "(LGraphWriter$Defined;)V"⟩ ⟨"GraphWriter", "writeDescriptor", "(LGraphWriter$Defined;)V"⟩) ∈ wd_W := wd_mem 15 (by decide +kernel) (by decide +kernel)
theorem wd_16 : (Cond.selects "GraphWriter" ⟨"GraphWriter", "writeInstance", "(II)V"⟩ ⟨"GraphWriter", "writeInstance", "(II)V"⟩) ∈ wd_W := wd_mem 16 (by decide +kernel) (by decide +kernel)
theorem wd_17 : (Cond.selects "GraphWriter" ⟨"GraphWriter", "writeParts", "(LGraphWriter$Thing;LGraphWriter$Defined;II)V"⟩ ⟨"GraphWriter", "writeParts", "(LGraphWriter$Thing;LGraphWriter$Defined;II)V"⟩) ∈ wd_W := wd_mem 17 (by decide +kernel) (by decide +kernel)
theorem wd_18 : (Cond.selects "GraphWriter$Out" ⟨"GraphWriter$Out", "goBack", "()V"⟩ ⟨"GraphWriter$Out", "goBack", "()V"⟩) ∈ wd_W := wd_mem 18 (by decide +kernel) (by decide +kernel)
theorem wd_19 : (Cond.selects "GraphWriter" ⟨"GraphWriter", "definedClasses", "()I"⟩ ⟨"GraphWriter", "definedClasses", "()I"⟩) ∈ wd_W := wd_mem 19 (by decide +kernel) (by decide +kernel)
theorem wd_20 : (Cond.selects "GraphWriterModel" ⟨"GraphWriterModel", "append", "(JI)V"⟩ ⟨"GraphWriterModel", "append", "(JI)V"⟩) ∈ wd_W := wd_mem 20 (by decide +kernel) (by decide +kernel)
theorem wd_21 : (Cond.selects "GraphWriterModel" ⟨"GraphWriterModel", "noHandles", "()V"⟩ ⟨"GraphWriterModel", "noHandles", "()V"⟩) ∈ wd_W := wd_mem 21 (by decide +kernel) (by decide +kernel)
theorem wd_22 : (Cond.selects "GraphWriterModel" ⟨"GraphWriterModel", "out", "(II)Z"⟩ ⟨"GraphWriterModel", "out", "(II)Z"⟩) ∈ wd_W := wd_mem 22 (by decide +kernel) (by decide +kernel)
theorem wd_23 : (Cond.selects "GraphWriterModel" ⟨"GraphWriterModel", "noClass", "(I)Z"⟩ ⟨"GraphWriterModel", "noClass", "(I)Z"⟩) ∈ wd_W := wd_mem 23 (by decide +kernel) (by decide +kernel)
theorem wd_24 : (Cond.selects "GraphWriterModel" ⟨"GraphWriterModel", "below", "(II)Z"⟩ ⟨"GraphWriterModel", "below", "(II)Z"⟩) ∈ wd_W := wd_mem 24 (by decide +kernel) (by decide +kernel)
theorem wd_25 : (Cond.selects "GraphWriterModel" ⟨"GraphWriterModel", "firstSlot", "(I)I"⟩ ⟨"GraphWriterModel", "firstSlot", "(I)I"⟩) ∈ wd_W := wd_mem 25 (by decide +kernel) (by decide +kernel)
theorem wd_26 : (Cond.selects "GraphWriterModel" ⟨"GraphWriterModel", "begin", "(II)I"⟩ ⟨"GraphWriterModel", "begin", "(II)I"⟩) ∈ wd_W := wd_mem 26 (by decide +kernel) (by decide +kernel)
theorem wd_27 : (Cond.selects "GraphWriterModel" ⟨"GraphWriterModel", "slotType", "(II)I"⟩ ⟨"GraphWriterModel", "slotType", "(II)I"⟩) ∈ wd_W := wd_mem 27 (by decide +kernel) (by decide +kernel)
theorem wd_28 : (Cond.selects "GraphWriterModel" ⟨"GraphWriterModel", "holder", "(II)I"⟩ ⟨"GraphWriterModel", "holder", "(II)I"⟩) ∈ wd_W := wd_mem 28 (by decide +kernel) (by decide +kernel)
theorem wd_29 : (Cond.selects "GraphWriterModel" ⟨"GraphWriterModel", "noInstance", "(I)Z"⟩ ⟨"GraphWriterModel", "noInstance", "(I)Z"⟩) ∈ wd_W := wd_mem 29 (by decide +kernel) (by decide +kernel)
theorem wd_30 : (Cond.selects "GraphWriterModel" ⟨"GraphWriterModel", "flush", "()V"⟩ ⟨"GraphWriterModel", "flush", "()V"⟩) ∈ wd_W := wd_mem 30 (by decide +kernel) (by decide +kernel)
theorem wd_31 : (Cond.selects "GraphWriterModel" ⟨"GraphWriterModel", "remember", "()V"⟩ ⟨"GraphWriterModel", "remember", "()V"⟩) ∈ wd_W := wd_mem 31 (by decide +kernel) (by decide +kernel)
theorem wd_32 : (Cond.selects "GraphWriterModel" ⟨"GraphWriterModel", "writeObject", "(IZ)Z"⟩ ⟨"GraphWriterModel", "writeObject", "(IZ)Z"⟩) ∈ wd_W := wd_mem 32 (by decide +kernel) (by decide +kernel)
theorem wd_33 : (Cond.selects "GraphWriterModel" ⟨"GraphWriterModel", "standing", "(I)I"⟩ ⟨"GraphWriterModel", "standing", "(I)I"⟩) ∈ wd_W := wd_mem 33 (by decide +kernel) (by decide +kernel)
theorem wd_34 : (Cond.selects "GraphWriterModel" ⟨"GraphWriterModel", "refer", "(I)V"⟩ ⟨"GraphWriterModel", "refer", "(I)V"⟩) ∈ wd_W := wd_mem 34 (by decide +kernel) (by decide +kernel)
theorem wd_35 : (Cond.selects "GraphWriterModel" ⟨"GraphWriterModel", "give", "(I)V"⟩ ⟨"GraphWriterModel", "give", "(I)V"⟩) ∈ wd_W := wd_mem 35 (by decide +kernel) (by decide +kernel)
theorem wd_36 : (Cond.selects "GraphWriterModel" ⟨"GraphWriterModel", "writeArray", "(I)V"⟩ ⟨"GraphWriterModel", "writeArray", "(I)V"⟩) ∈ wd_W := wd_mem 36 (by decide +kernel) (by decide +kernel)
theorem wd_37 : (Cond.selects "GraphWriterModel" ⟨"GraphWriterModel", "arrayDescriptor", "(Z)V"⟩ ⟨"GraphWriterModel", "arrayDescriptor", "(Z)V"⟩) ∈ wd_W := wd_mem 37 (by decide +kernel) (by decide +kernel)
theorem wd_38 : (Cond.selects "GraphWriterModel" ⟨"GraphWriterModel", "plainEnd", "(II)V"⟩ ⟨"GraphWriterModel", "plainEnd", "(II)V"⟩) ∈ wd_W := wd_mem 38 (by decide +kernel) (by decide +kernel)
theorem wd_39 : (Cond.selects "GraphWriterModel" ⟨"GraphWriterModel", "push", "(III)V"⟩ ⟨"GraphWriterModel", "push", "(III)V"⟩) ∈ wd_W := wd_mem 39 (by decide +kernel) (by decide +kernel)
theorem wd_40 : (Cond.selects "GraphWriterModel" ⟨"GraphWriterModel", "writeConstant", "(I)V"⟩ ⟨"GraphWriterModel", "writeConstant", "(I)V"⟩) ∈ wd_W := wd_mem 40 (by decide +kernel) (by decide +kernel)
theorem wd_41 : (Cond.selects "GraphWriterModel" ⟨"GraphWriterModel", "descriptor", "(I)V"⟩ ⟨"GraphWriterModel", "descriptor", "(I)V"⟩) ∈ wd_W := wd_mem 41 (by decide +kernel) (by decide +kernel)
theorem wd_42 : (Cond.selects "GraphWriterModel" ⟨"GraphWriterModel", "letter", "(I)V"⟩ ⟨"GraphWriterModel", "letter", "(I)V"⟩) ∈ wd_W := wd_mem 42 (by decide +kernel) (by decide +kernel)
theorem wd_43 : (Cond.selects "GraphWriterModel" ⟨"GraphWriterModel", "enumBase", "()V"⟩ ⟨"GraphWriterModel", "enumBase", "()V"⟩) ∈ wd_W := wd_mem 43 (by decide +kernel) (by decide +kernel)
theorem wd_44 : (Cond.selects "GraphWriterModel" ⟨"GraphWriterModel", "arrange", "(I)I"⟩ ⟨"GraphWriterModel", "arrange", "(I)I"⟩) ∈ wd_W := wd_mem 44 (by decide +kernel) (by decide +kernel)
theorem wd_45 : (Cond.selects "GraphWriterModel" ⟨"GraphWriterModel", "fieldEntry", "(I)V"⟩ ⟨"GraphWriterModel", "fieldEntry", "(I)V"⟩) ∈ wd_W := wd_mem 45 (by decide +kernel) (by decide +kernel)
theorem wd_46 : (Cond.selects "GraphWriterModel" ⟨"GraphWriterModel", "typeSigns", "(I)V"⟩ ⟨"GraphWriterModel", "typeSigns", "(I)V"⟩) ∈ wd_W := wd_mem 46 (by decide +kernel) (by decide +kernel)
theorem wd_47 : (Cond.selects "GraphWriterModel" ⟨"GraphWriterModel", "abort", "(I)V"⟩ ⟨"GraphWriterModel", "abort", "(I)V"⟩) ∈ wd_W := wd_mem 47 (by decide +kernel) (by decide +kernel)
theorem wd_48 : (Cond.selects "GraphWriterModel" ⟨"GraphWriterModel", "parts", "(I)V"⟩ ⟨"GraphWriterModel", "parts", "(I)V"⟩) ∈ wd_W := wd_mem 48 (by decide +kernel) (by decide +kernel)
theorem wd_49 : (Cond.selects "GraphWriterModel" ⟨"GraphWriterModel", "doOne", "()Z"⟩ ⟨"GraphWriterModel", "doOne", "()Z"⟩) ∈ wd_W := wd_mem 49 (by decide +kernel) (by decide +kernel)
theorem wd_50 : (Cond.selects "GraphWriterModel" ⟨"GraphWriterModel", "width", "(I)I"⟩ ⟨"GraphWriterModel", "width", "(I)I"⟩) ∈ wd_W := wd_mem 50 (by decide +kernel) (by decide +kernel)
theorem wd_51 : (Cond.selects "GraphWriterModel" ⟨"GraphWriterModel", "tooLong", "()Z"⟩ ⟨"GraphWriterModel", "tooLong", "()Z"⟩) ∈ wd_W := wd_mem 51 (by decide +kernel) (by decide +kernel)
theorem wd_52 : (Cond.initialized "GraphWriterLaw") ∈ wd_W := wd_mem 52 (by decide +kernel) (by decide +kernel)
theorem wd_53 : (Cond.initialized "GraphWriter") ∈ wd_W := wd_mem 53 (by decide +kernel) (by decide +kernel)
theorem wd_54 : (Cond.initialized "GraphWriter$Out") ∈ wd_W := wd_mem 54 (by decide +kernel) (by decide +kernel)
theorem wd_55 : (Cond.initialized "java/util/Arrays") ∈ wd_W := wd_mem 55 (by decide +kernel) (by decide +kernel)
theorem wd_56 : (Cond.initialized "GraphWriterModel") ∈ wd_W := wd_mem 56 (by decide +kernel) (by decide +kernel)
theorem wd_57 : (Cond.initialized "GraphWriter$Defined") ∈ wd_W := wd_mem 57 (by decide +kernel) (by decide +kernel)
theorem wd_58 : (Cond.initialized "java/lang/Math") ∈ wd_W := wd_mem 58 (by decide +kernel) (by decide +kernel)
theorem wd_59 : (Cond.initialized "java/lang/System") ∈ wd_W := wd_mem 59 (by decide +kernel) (by decide +kernel)
theorem wd_60 : (Cond.initialized "java/lang/String") ∈ wd_W := wd_mem 60 (by decide +kernel) (by decide +kernel)
theorem wd_61 : (Cond.initialized "jdk/internal/util/Preconditions") ∈ wd_W := wd_mem 61 (by decide +kernel) (by decide +kernel)
theorem wd_62 : (Cond.initialized "java/lang/StringLatin1") ∈ wd_W := wd_mem 62 (by decide +kernel) (by decide +kernel)
theorem wd_63 : (Cond.initialized "java/lang/StringUTF16") ∈ wd_W := wd_mem 63 (by decide +kernel) (by decide +kernel)
theorem wd_64 : (Cond.initialized "GraphWriter$Thing") ∈ wd_W := wd_mem 64 (by decide +kernel) (by decide +kernel)
theorem wd_65 : (Cond.initialized "java/lang/AbstractStringBuilder") ∈ wd_W := wd_mem 65 (by decide +kernel) (by decide +kernel)
theorem wd_66 : (Cond.initialized "java/lang/StringBuilder") ∈ wd_W := wd_mem 66 (by decide +kernel) (by decide +kernel)
theorem wd_67 : (Cond.initialized "jdk/internal/util/ArraysSupport") ∈ wd_W := wd_mem 67 (by decide +kernel) (by decide +kernel)
theorem wd_68 : (Cond.classLink "GraphWriterLaw" 7 "GraphWriter") ∈ wd_W := wd_mem 68 (by decide +kernel) (by decide +kernel)
theorem wd_69 : (Cond.instantiable "GraphWriter" 4) ∈ wd_W := wd_mem 69 (by decide +kernel) (by decide +kernel)
theorem wd_70 : (Cond.methodLink "GraphWriterLaw" 9 ⟨"GraphWriter", "<init>", "()V"⟩) ∈ wd_W := wd_mem 70 (by decide +kernel) (by decide +kernel)
theorem wd_71 : (Cond.instanceMethod ⟨"GraphWriter", "<init>", "()V"⟩) ∈ wd_W := wd_mem 71 (by decide +kernel) (by decide +kernel)
theorem wd_72 : (Cond.code ⟨"GraphWriter", "<init>", "()V"⟩ prog_1_method_1_code 1 none) ∈ wd_W := wd_mem 72 (by decide +kernel) (by decide +kernel)
theorem wd_73 : (Cond.methodLink "GraphWriter" 3 ⟨"java/lang/Object", "<init>", "()V"⟩) ∈ wd_W := wd_mem 73 (by decide +kernel) (by decide +kernel)
theorem wd_74 : (Cond.instanceMethod ⟨"java/lang/Object", "<init>", "()V"⟩) ∈ wd_W := wd_mem 74 (by decide +kernel) (by decide +kernel)
theorem wd_75 : (Cond.code ⟨"java/lang/Object", "<init>", "()V"⟩ object_method_1_code 1 none) ∈ wd_W := wd_mem 75 (by decide +kernel) (by decide +kernel)
theorem wd_76 : (Cond.classLink "GraphWriter" 9 "GraphWriter$Defined") ∈ wd_W := wd_mem 76 (by decide +kernel) (by decide +kernel)
theorem wd_78 : (Cond.classLink "GraphWriter" 15 "GraphWriter$Thing") ∈ wd_W := wd_mem 78 (by decide +kernel) (by decide +kernel)
theorem wd_80 : (Cond.classLink "GraphWriter" 21 "GraphWriter$Out") ∈ wd_W := wd_mem 80 (by decide +kernel) (by decide +kernel)
theorem wd_81 : (Cond.instantiable "GraphWriter$Out" 11) ∈ wd_W := wd_mem 81 (by decide +kernel) (by decide +kernel)
theorem wd_83 : (Cond.instanceMethod ⟨"GraphWriter$Out", "<init>", "()V"⟩) ∈ wd_W := wd_mem 83 (by decide +kernel) (by decide +kernel)
theorem wd_84 : (Cond.code ⟨"GraphWriter$Out", "<init>", "()V"⟩ prog_3_method_1_code 1 none) ∈ wd_W := wd_mem 84 (by decide +kernel) (by decide +kernel)
theorem wd_85 : (Cond.methodLink "GraphWriter$Out" 3 ⟨"java/lang/Object", "<init>", "()V"⟩) ∈ wd_W := wd_mem 85 (by decide +kernel) (by decide +kernel)
theorem wd_86 : (Cond.fieldLink "GraphWriter$Out" 9 "GraphWriter$Out" "bytes" "[B") ∈ wd_W := wd_mem 86 (by decide +kernel) (by decide +kernel)
theorem wd_87 : (Cond.fieldLink "GraphWriter" 161 "GraphWriter$Out" "bytes" "[B") ∈ wd_W := wd_mem 87 (by decide +kernel) (by decide +kernel)
theorem wd_88 : (Cond.fieldLink "GraphWriter$Out" 15 "GraphWriter$Out" "waiting" "[B") ∈ wd_W := wd_mem 88 (by decide +kernel) (by decide +kernel)
theorem wd_89 : (Cond.fieldLink "GraphWriter$Out" 18 "GraphWriter$Out" "last" "[I") ∈ wd_W := wd_mem 89 (by decide +kernel) (by decide +kernel)
theorem wd_90 : (Cond.fieldLink "GraphWriter" 165 "GraphWriter$Out" "last" "[I") ∈ wd_W := wd_mem 90 (by decide +kernel) (by decide +kernel)
theorem wd_91 : (Cond.fieldLink "GraphWriter$Out" 35 "GraphWriter$Out" "length" "I") ∈ wd_W := wd_mem 91 (by decide +kernel) (by decide +kernel)
theorem wd_92 : (Cond.fieldLink "GraphWriter" 158 "GraphWriter$Out" "length" "I") ∈ wd_W := wd_mem 92 (by decide +kernel) (by decide +kernel)
theorem wd_93 : (Cond.fieldLink "GraphWriter$Out" 41 "GraphWriter$Out" "waits" "I") ∈ wd_W := wd_mem 93 (by decide +kernel) (by decide +kernel)
theorem wd_94 : (Cond.fieldLink "GraphWriter" 139 "GraphWriter$Out" "waits" "I") ∈ wd_W := wd_mem 94 (by decide +kernel) (by decide +kernel)
theorem wd_95 : (Cond.fieldLink "GraphWriter$Out" 47 "GraphWriter$Out" "handles" "I") ∈ wd_W := wd_mem 95 (by decide +kernel) (by decide +kernel)
theorem wd_96 : (Cond.fieldLink "GraphWriter" 168 "GraphWriter$Out" "handles" "I") ∈ wd_W := wd_mem 96 (by decide +kernel) (by decide +kernel)
theorem wd_97 : (Cond.fieldLink "GraphWriter$Out" 22 "GraphWriter$Out" "outcome" "I") ∈ wd_W := wd_mem 97 (by decide +kernel) (by decide +kernel)
theorem wd_98 : (Cond.fieldLink "GraphWriter" 212 "GraphWriter$Out" "outcome" "I") ∈ wd_W := wd_mem 98 (by decide +kernel) (by decide +kernel)
theorem wd_99 : (Cond.fieldLink "GraphWriter$Out" 26 "GraphWriter$Out" "lastBefore" "[I") ∈ wd_W := wd_mem 99 (by decide +kernel) (by decide +kernel)
theorem wd_100 : (Cond.fieldLink "GraphWriter$Out" 38 "GraphWriter$Out" "lengthBefore" "I") ∈ wd_W := wd_mem 100 (by decide +kernel) (by decide +kernel)
theorem wd_101 : (Cond.fieldLink "GraphWriter$Out" 44 "GraphWriter$Out" "waitsBefore" "I") ∈ wd_W := wd_mem 101 (by decide +kernel) (by decide +kernel)
theorem wd_102 : (Cond.fieldLink "GraphWriter$Out" 50 "GraphWriter$Out" "handlesBefore" "I") ∈ wd_W := wd_mem 102 (by decide +kernel) (by decide +kernel)
theorem wd_103 : (Cond.laysFinal "GraphWriter$Out" "GraphWriter$Out" "bytes" "[B") ∈ wd_W := wd_mem 103 (by decide +kernel) (by decide +kernel)
theorem wd_105 : (Cond.laysFinal "GraphWriter$Out" "GraphWriter$Out" "waiting" "[B") ∈ wd_W := wd_mem 105 (by decide +kernel) (by decide +kernel)
theorem wd_107 : (Cond.laysFinal "GraphWriter$Out" "GraphWriter$Out" "last" "[I") ∈ wd_W := wd_mem 107 (by decide +kernel) (by decide +kernel)
theorem wd_109 : (Cond.lays "GraphWriter$Out" "GraphWriter$Out" "length" "I") ∈ wd_W := wd_mem 109 (by decide +kernel) (by decide +kernel)
theorem wd_111 : (Cond.lays "GraphWriter$Out" "GraphWriter$Out" "waits" "I") ∈ wd_W := wd_mem 111 (by decide +kernel) (by decide +kernel)
theorem wd_113 : (Cond.lays "GraphWriter$Out" "GraphWriter$Out" "handles" "I") ∈ wd_W := wd_mem 113 (by decide +kernel) (by decide +kernel)
theorem wd_115 : (Cond.lays "GraphWriter$Out" "GraphWriter$Out" "outcome" "I") ∈ wd_W := wd_mem 115 (by decide +kernel) (by decide +kernel)
theorem wd_117 : (Cond.laysFinal "GraphWriter$Out" "GraphWriter$Out" "lastBefore" "[I") ∈ wd_W := wd_mem 117 (by decide +kernel) (by decide +kernel)
theorem wd_119 : (Cond.lays "GraphWriter$Out" "GraphWriter$Out" "lengthBefore" "I") ∈ wd_W := wd_mem 119 (by decide +kernel) (by decide +kernel)
theorem wd_121 : (Cond.lays "GraphWriter$Out" "GraphWriter$Out" "waitsBefore" "I") ∈ wd_W := wd_mem 121 (by decide +kernel) (by decide +kernel)
theorem wd_123 : (Cond.lays "GraphWriter$Out" "GraphWriter$Out" "handlesBefore" "I") ∈ wd_W := wd_mem 123 (by decide +kernel) (by decide +kernel)
theorem wd_126 : (Cond.arrayClass FieldType.byte) ∈ wd_W := wd_mem 126 (by decide +kernel) (by decide +kernel)
theorem wd_127 : (Cond.arrayClass FieldType.int) ∈ wd_W := wd_mem 127 (by decide +kernel) (by decide +kernel)
theorem wd_128 : (Cond.methodLink "GraphWriter" 28 ⟨"GraphWriter$Out", "forgetHandles", "()V"⟩) ∈ wd_W := wd_mem 128 (by decide +kernel) (by decide +kernel)
theorem wd_129 : (Cond.instanceMethod ⟨"GraphWriter$Out", "forgetHandles", "()V"⟩) ∈ wd_W := wd_mem 129 (by decide +kernel) (by decide +kernel)
theorem wd_130 : (Cond.selects "GraphWriter$Out" ⟨"GraphWriter$Out", "forgetHandles", "()V"⟩ ⟨"GraphWriter$Out", "forgetHandles", "()V"⟩) ∈ wd_W := wd_mem 130 (by decide +kernel) (by decide +kernel)
theorem wd_131 : (Cond.code ⟨"GraphWriter$Out", "forgetHandles", "()V"⟩ prog_3_method_9_code 1 none) ∈ wd_W := wd_mem 131 (by decide +kernel) (by decide +kernel)
theorem wd_132 : (Cond.methodLink "GraphWriter$Out" 72 ⟨"java/util/Arrays", "fill", "([II)V"⟩) ∈ wd_W := wd_mem 132 (by decide +kernel) (by decide +kernel)
theorem wd_133 : (Cond.static ⟨"java/util/Arrays", "fill", "([II)V"⟩) ∈ wd_W := wd_mem 133 (by decide +kernel) (by decide +kernel)
theorem wd_134 : (Cond.code ⟨"java/util/Arrays", "fill", "([II)V"⟩ prog_15_method_103_code 4 none) ∈ wd_W := wd_mem 134 (by decide +kernel) (by decide +kernel)
theorem wd_135 : (Cond.constantLong "GraphWriter" 31 (2901213189 : Int64)) ∈ wd_W := wd_mem 135 (by decide +kernel) (by decide +kernel)
theorem wd_136 : (Cond.methodLink "GraphWriter" 33 ⟨"GraphWriter$Out", "put", "(JI)V"⟩) ∈ wd_W := wd_mem 136 (by decide +kernel) (by decide +kernel)
theorem wd_137 : (Cond.instanceMethod ⟨"GraphWriter$Out", "put", "(JI)V"⟩) ∈ wd_W := wd_mem 137 (by decide +kernel) (by decide +kernel)
theorem wd_138 : (Cond.selects "GraphWriter$Out" ⟨"GraphWriter$Out", "put", "(JI)V"⟩ ⟨"GraphWriter$Out", "put", "(JI)V"⟩) ∈ wd_W := wd_mem 138 (by decide +kernel) (by decide +kernel)
theorem wd_139 : (Cond.code ⟨"GraphWriter$Out", "put", "(JI)V"⟩ prog_3_method_5_code 5 none) ∈ wd_W := wd_mem 139 (by decide +kernel) (by decide +kernel)
theorem wd_140 : (Cond.fieldLink "GraphWriter" 11 "GraphWriter" "classes" "[LGraphWriter$Defined;") ∈ wd_W := wd_mem 140 (by decide +kernel) (by decide +kernel)
theorem wd_141 : (Cond.fieldLink "GraphWriter" 17 "GraphWriter" "things" "[LGraphWriter$Thing;") ∈ wd_W := wd_mem 141 (by decide +kernel) (by decide +kernel)
theorem wd_142 : (Cond.fieldLink "GraphWriter" 24 "GraphWriter" "out" "LGraphWriter$Out;") ∈ wd_W := wd_mem 142 (by decide +kernel) (by decide +kernel)
theorem wd_143 : (Cond.fieldLink "GraphWriter" 70 "GraphWriter" "made" "I") ∈ wd_W := wd_mem 143 (by decide +kernel) (by decide +kernel)
theorem wd_144 : (Cond.laysFinal "GraphWriter" "GraphWriter" "classes" "[LGraphWriter$Defined;") ∈ wd_W := wd_mem 144 (by decide +kernel) (by decide +kernel)
theorem wd_146 : (Cond.laysFinal "GraphWriter" "GraphWriter" "things" "[LGraphWriter$Thing;") ∈ wd_W := wd_mem 146 (by decide +kernel) (by decide +kernel)
theorem wd_148 : (Cond.laysFinal "GraphWriter" "GraphWriter" "out" "LGraphWriter$Out;") ∈ wd_W := wd_mem 148 (by decide +kernel) (by decide +kernel)
theorem wd_150 : (Cond.lays "GraphWriter" "GraphWriter" "made" "I") ∈ wd_W := wd_mem 150 (by decide +kernel) (by decide +kernel)
theorem wd_153 : (Cond.methodLink "GraphWriterLaw" 15 ⟨"GraphWriter", "define", "(IIIJ)I"⟩) ∈ wd_W := wd_mem 153 (by decide +kernel) (by decide +kernel)
theorem wd_154 : (Cond.instanceMethod ⟨"GraphWriter", "define", "(IIIJ)I"⟩) ∈ wd_W := wd_mem 154 (by decide +kernel) (by decide +kernel)
theorem wd_155 : (Cond.selects "GraphWriter" ⟨"GraphWriter", "define", "(IIIJ)I"⟩ ⟨"GraphWriter", "define", "(IIIJ)I"⟩) ∈ wd_W := wd_mem 155 (by decide +kernel) (by decide +kernel)
theorem wd_156 : (Cond.code ⟨"GraphWriter", "define", "(IIIJ)I"⟩ prog_1_method_2_code 6 (some FieldType.int)) ∈ wd_W := wd_mem 156 (by decide +kernel) (by decide +kernel)
theorem wd_157 : (Cond.methodLink "GraphWriter" 37 ⟨"GraphWriter", "mayStandAbove", "(II)Z"⟩) ∈ wd_W := wd_mem 157 (by decide +kernel) (by decide +kernel)
theorem wd_159 : (Cond.instanceMethod ⟨"GraphWriter", "mayStandAbove", "(II)Z"⟩) ∈ wd_W := wd_mem 159 (by decide +kernel) (by decide +kernel)
theorem wd_160 : (Cond.code ⟨"GraphWriter", "mayStandAbove", "(II)Z"⟩ prog_1_method_22_code 4 (some FieldType.boolean)) ∈ wd_W := wd_mem 160 (by decide +kernel) (by decide +kernel)
theorem wd_161 : (Cond.methodLink "GraphWriter" 48 ⟨"GraphWriter", "isDefined", "(I)Z"⟩) ∈ wd_W := wd_mem 161 (by decide +kernel) (by decide +kernel)
theorem wd_163 : (Cond.instanceMethod ⟨"GraphWriter", "isDefined", "(I)Z"⟩) ∈ wd_W := wd_mem 163 (by decide +kernel) (by decide +kernel)
theorem wd_164 : (Cond.code ⟨"GraphWriter", "isDefined", "(I)Z"⟩ prog_1_method_18_code 2 (some FieldType.boolean)) ∈ wd_W := wd_mem 164 (by decide +kernel) (by decide +kernel)
theorem wd_165 : (Cond.instantiable "GraphWriter$Defined" 11) ∈ wd_W := wd_mem 165 (by decide +kernel) (by decide +kernel)
theorem wd_166 : (Cond.methodLink "GraphWriter" 41 ⟨"GraphWriter", "chainTo", "(II)[I"⟩) ∈ wd_W := wd_mem 166 (by decide +kernel) (by decide +kernel)
theorem wd_168 : (Cond.instanceMethod ⟨"GraphWriter", "chainTo", "(II)[I"⟩) ∈ wd_W := wd_mem 168 (by decide +kernel) (by decide +kernel)
theorem wd_169 : (Cond.code ⟨"GraphWriter", "chainTo", "(II)[I"⟩ prog_1_method_23_code 5 (some (FieldType.array FieldType.int))) ∈ wd_W := wd_mem 169 (by decide +kernel) (by decide +kernel)
theorem wd_170 : (Cond.methodLink "GraphWriter" 186 ⟨"java/util/Arrays", "copyOf", "([II)[I"⟩) ∈ wd_W := wd_mem 170 (by decide +kernel) (by decide +kernel)
theorem wd_171 : (Cond.static ⟨"java/util/Arrays", "copyOf", "([II)[I"⟩) ∈ wd_W := wd_mem 171 (by decide +kernel) (by decide +kernel)
theorem wd_172 : (Cond.code ⟨"java/util/Arrays", "copyOf", "([II)[I"⟩ prog_15_method_123_code 3 (some (FieldType.array FieldType.int))) ∈ wd_W := wd_mem 172 (by decide +kernel) (by decide +kernel)
theorem wd_173 : (Cond.methodLink "java/util/Arrays" 316 ⟨"[I", "clone", "()Ljava/lang/Object;"⟩) ∈ wd_W := wd_mem 173 (by decide +kernel) (by decide +kernel)
theorem wd_174 : (Cond.sameMethod "[I" "java/lang/Object" "clone" "()Ljava/lang/Object;") ∈ wd_W := wd_mem 174 (by decide +kernel) (by decide +kernel)
theorem wd_175 : (Cond.native ⟨"java/lang/Object", "clone", "()Ljava/lang/Object;"⟩) ∈ wd_W := wd_mem 175 (by decide +kernel) (by decide +kernel)
theorem wd_176 : (Cond.instanceMethod ⟨"java/lang/Object", "clone", "()Ljava/lang/Object;"⟩) ∈ wd_W := wd_mem 176 (by decide +kernel) (by decide +kernel)
theorem wd_177 : (Cond.selects "[I" ⟨"[I", "clone", "()Ljava/lang/Object;"⟩ ⟨"java/lang/Object", "clone", "()Ljava/lang/Object;"⟩) ∈ wd_W := wd_mem 177 (by decide +kernel) (by decide +kernel)
theorem wd_179 : (Cond.classLink "java/util/Arrays" 317 "[I") ∈ wd_W := wd_mem 179 (by decide +kernel) (by decide +kernel)
theorem wd_180 : (Cond.methodLink "java/util/Arrays" 304 ⟨"java/lang/Math", "min", "(II)I"⟩) ∈ wd_W := wd_mem 180 (by decide +kernel) (by decide +kernel)
theorem wd_181 : (Cond.static ⟨"java/lang/Math", "min", "(II)I"⟩) ∈ wd_W := wd_mem 181 (by decide +kernel) (by decide +kernel)
theorem wd_182 : (Cond.code ⟨"java/lang/Math", "min", "(II)I"⟩ prog_9_method_69_code 2 (some FieldType.int)) ∈ wd_W := wd_mem 182 (by decide +kernel) (by decide +kernel)
theorem wd_183 : (Cond.methodLink "java/util/Arrays" 150 ⟨"java/lang/System", "arraycopy", "(Ljava/lang/Object;ILjava/lang/Object;II)V"⟩) ∈ wd_W := wd_mem 183 (by decide +kernel) (by decide +kernel)
theorem wd_184 : (Cond.static ⟨"java/lang/System", "arraycopy", "(Ljava/lang/Object;ILjava/lang/Object;II)V"⟩) ∈ wd_W := wd_mem 184 (by decide +kernel) (by decide +kernel)
theorem wd_185 : (Cond.native ⟨"java/lang/System", "arraycopy", "(Ljava/lang/Object;ILjava/lang/Object;II)V"⟩) ∈ wd_W := wd_mem 185 (by decide +kernel) (by decide +kernel)
theorem wd_186 : (Cond.methodLink "GraphWriter" 45 ⟨"GraphWriter$Defined", "<init>", "(IIJ[I)V"⟩) ∈ wd_W := wd_mem 186 (by decide +kernel) (by decide +kernel)
theorem wd_187 : (Cond.instanceMethod ⟨"GraphWriter$Defined", "<init>", "(IIJ[I)V"⟩) ∈ wd_W := wd_mem 187 (by decide +kernel) (by decide +kernel)
theorem wd_188 : (Cond.code ⟨"GraphWriter$Defined", "<init>", "(IIJ[I)V"⟩ prog_2_method_1_code 6 none) ∈ wd_W := wd_mem 188 (by decide +kernel) (by decide +kernel)
theorem wd_189 : (Cond.methodLink "GraphWriter$Defined" 3 ⟨"java/lang/Object", "<init>", "()V"⟩) ∈ wd_W := wd_mem 189 (by decide +kernel) (by decide +kernel)
theorem wd_191 : (Cond.methodLink "GraphWriter$Defined" 34 ⟨"java/lang/String", "substring", "(II)Ljava/lang/String;"⟩) ∈ wd_W := wd_mem 191 (by decide +kernel) (by decide +kernel)
theorem wd_192 : (Cond.instanceMethod ⟨"java/lang/String", "substring", "(II)Ljava/lang/String;"⟩) ∈ wd_W := wd_mem 192 (by decide +kernel) (by decide +kernel)
theorem wd_193 : (Cond.selects "java/lang/String" ⟨"java/lang/String", "substring", "(II)Ljava/lang/String;"⟩ ⟨"java/lang/String", "substring", "(II)Ljava/lang/String;"⟩) ∈ wd_W := wd_mem 193 (by decide +kernel) (by decide +kernel)
theorem wd_194 : (Cond.code ⟨"java/lang/String", "substring", "(II)Ljava/lang/String;"⟩ prog_10_method_92_code 5 (some (FieldType.object "java/lang/String"))) ∈ wd_W := wd_mem 194 (by decide +kernel) (by decide +kernel)
theorem wd_195 : (Cond.methodLink "java/lang/String" 505 ⟨"java/lang/String", "length", "()I"⟩) ∈ wd_W := wd_mem 195 (by decide +kernel) (by decide +kernel)
theorem wd_196 : (Cond.instanceMethod ⟨"java/lang/String", "length", "()I"⟩) ∈ wd_W := wd_mem 196 (by decide +kernel) (by decide +kernel)
theorem wd_197 : (Cond.selects "java/lang/String" ⟨"java/lang/String", "length", "()I"⟩ ⟨"java/lang/String", "length", "()I"⟩) ∈ wd_W := wd_mem 197 (by decide +kernel) (by decide +kernel)
theorem wd_198 : (Cond.code ⟨"java/lang/String", "length", "()I"⟩ prog_10_method_54_code 1 (some FieldType.int)) ∈ wd_W := wd_mem 198 (by decide +kernel) (by decide +kernel)
theorem wd_199 : (Cond.methodLink "java/lang/String" 335 ⟨"java/lang/String", "coder", "()B"⟩) ∈ wd_W := wd_mem 199 (by decide +kernel) (by decide +kernel)
theorem wd_200 : (Cond.instanceMethod ⟨"java/lang/String", "coder", "()B"⟩) ∈ wd_W := wd_mem 200 (by decide +kernel) (by decide +kernel)
theorem wd_201 : (Cond.selects "java/lang/String" ⟨"java/lang/String", "coder", "()B"⟩ ⟨"java/lang/String", "coder", "()B"⟩) ∈ wd_W := wd_mem 201 (by decide +kernel) (by decide +kernel)
theorem wd_202 : (Cond.code ⟨"java/lang/String", "coder", "()B"⟩ prog_10_method_152_code 1 (some FieldType.byte)) ∈ wd_W := wd_mem 202 (by decide +kernel) (by decide +kernel)
theorem wd_203 : (Cond.fieldLink "java/lang/String" 38 "java/lang/String" "COMPACT_STRINGS" "Z") ∈ wd_W := wd_mem 203 (by decide +kernel) (by decide +kernel)
theorem wd_205 : (Cond.methodLink "java/lang/String" 521 ⟨"java/lang/String", "checkBoundsBeginEnd", "(III)V"⟩) ∈ wd_W := wd_mem 205 (by decide +kernel) (by decide +kernel)
theorem wd_206 : (Cond.static ⟨"java/lang/String", "checkBoundsBeginEnd", "(III)V"⟩) ∈ wd_W := wd_mem 206 (by decide +kernel) (by decide +kernel)
theorem wd_207 : (Cond.code ⟨"java/lang/String", "checkBoundsBeginEnd", "(III)V"⟩ prog_10_method_158_code 3 none) ∈ wd_W := wd_mem 207 (by decide +kernel) (by decide +kernel)
theorem wd_208 : (Cond.fieldLink "java/lang/String" 1053 "jdk/internal/util/Preconditions" "SIOOBE_FORMATTER" "Ljava/util/function/BiFunction;") ∈ wd_W := wd_mem 208 (by decide +kernel) (by decide +kernel)
theorem wd_210 : (Cond.methodLink "java/lang/String" 1062 ⟨"jdk/internal/util/Preconditions", "checkFromToIndex", "(IIILjava/util/function/BiFunction;)I"⟩) ∈ wd_W := wd_mem 210 (by decide +kernel) (by decide +kernel)
theorem wd_211 : (Cond.static ⟨"jdk/internal/util/Preconditions", "checkFromToIndex", "(IIILjava/util/function/BiFunction;)I"⟩) ∈ wd_W := wd_mem 211 (by decide +kernel) (by decide +kernel)
theorem wd_212 : (Cond.code ⟨"jdk/internal/util/Preconditions", "checkFromToIndex", "(IIILjava/util/function/BiFunction;)I"⟩ prog_17_method_12_code 4 (some FieldType.int)) ∈ wd_W := wd_mem 212 (by decide +kernel) (by decide +kernel)
theorem wd_213 : (Cond.methodLink "java/lang/String" 492 ⟨"java/lang/String", "isLatin1", "()Z"⟩) ∈ wd_W := wd_mem 213 (by decide +kernel) (by decide +kernel)
theorem wd_214 : (Cond.instanceMethod ⟨"java/lang/String", "isLatin1", "()Z"⟩) ∈ wd_W := wd_mem 214 (by decide +kernel) (by decide +kernel)
theorem wd_215 : (Cond.selects "java/lang/String" ⟨"java/lang/String", "isLatin1", "()Z"⟩ ⟨"java/lang/String", "isLatin1", "()Z"⟩) ∈ wd_W := wd_mem 215 (by decide +kernel) (by decide +kernel)
theorem wd_216 : (Cond.code ⟨"java/lang/String", "isLatin1", "()Z"⟩ prog_10_method_154_code 1 (some FieldType.boolean)) ∈ wd_W := wd_mem 216 (by decide +kernel) (by decide +kernel)
theorem wd_217 : (Cond.methodLink "java/lang/String" 685 ⟨"java/lang/StringLatin1", "newString", "([BII)Ljava/lang/String;"⟩) ∈ wd_W := wd_mem 217 (by decide +kernel) (by decide +kernel)
theorem wd_218 : (Cond.static ⟨"java/lang/StringLatin1", "newString", "([BII)Ljava/lang/String;"⟩) ∈ wd_W := wd_mem 218 (by decide +kernel) (by decide +kernel)
theorem wd_219 : (Cond.code ⟨"java/lang/StringLatin1", "newString", "([BII)Ljava/lang/String;"⟩ prog_12_method_47_code 3 (some (FieldType.object "java/lang/String"))) ∈ wd_W := wd_mem 219 (by decide +kernel) (by decide +kernel)
theorem wd_221 : (Cond.classLink "java/lang/StringLatin1" 1 "java/lang/String") ∈ wd_W := wd_mem 221 (by decide +kernel) (by decide +kernel)
theorem wd_222 : (Cond.instantiable "java/lang/String" 4) ∈ wd_W := wd_mem 222 (by decide +kernel) (by decide +kernel)
theorem wd_223 : (Cond.methodLink "java/lang/StringLatin1" 232 ⟨"java/util/Arrays", "copyOfRange", "([BII)[B"⟩) ∈ wd_W := wd_mem 223 (by decide +kernel) (by decide +kernel)
theorem wd_224 : (Cond.static ⟨"java/util/Arrays", "copyOfRange", "([BII)[B"⟩) ∈ wd_W := wd_mem 224 (by decide +kernel) (by decide +kernel)
theorem wd_225 : (Cond.code ⟨"java/util/Arrays", "copyOfRange", "([BII)[B"⟩ prog_15_method_132_code 3 (some (FieldType.array FieldType.byte))) ∈ wd_W := wd_mem 225 (by decide +kernel) (by decide +kernel)
theorem wd_226 : (Cond.methodLink "java/util/Arrays" 339 ⟨"java/util/Arrays", "copyOfRangeByte", "([BII)[B"⟩) ∈ wd_W := wd_mem 226 (by decide +kernel) (by decide +kernel)
theorem wd_227 : (Cond.static ⟨"java/util/Arrays", "copyOfRangeByte", "([BII)[B"⟩) ∈ wd_W := wd_mem 227 (by decide +kernel) (by decide +kernel)
theorem wd_228 : (Cond.code ⟨"java/util/Arrays", "copyOfRangeByte", "([BII)[B"⟩ prog_15_method_133_code 5 (some (FieldType.array FieldType.byte))) ∈ wd_W := wd_mem 228 (by decide +kernel) (by decide +kernel)
theorem wd_229 : (Cond.methodLink "java/util/Arrays" 343 ⟨"java/util/Arrays", "checkLength", "(II)V"⟩) ∈ wd_W := wd_mem 229 (by decide +kernel) (by decide +kernel)
theorem wd_230 : (Cond.static ⟨"java/util/Arrays", "checkLength", "(II)V"⟩) ∈ wd_W := wd_mem 230 (by decide +kernel) (by decide +kernel)
theorem wd_231 : (Cond.code ⟨"java/util/Arrays", "checkLength", "(II)V"⟩ prog_15_method_131_code 2 none) ∈ wd_W := wd_mem 231 (by decide +kernel) (by decide +kernel)
theorem wd_232 : (Cond.methodLink "java/util/Arrays" 310 ⟨"[B", "clone", "()Ljava/lang/Object;"⟩) ∈ wd_W := wd_mem 232 (by decide +kernel) (by decide +kernel)
theorem wd_233 : (Cond.sameMethod "[B" "java/lang/Object" "clone" "()Ljava/lang/Object;") ∈ wd_W := wd_mem 233 (by decide +kernel) (by decide +kernel)
theorem wd_234 : (Cond.selects "[B" ⟨"[B", "clone", "()Ljava/lang/Object;"⟩ ⟨"java/lang/Object", "clone", "()Ljava/lang/Object;"⟩) ∈ wd_W := wd_mem 234 (by decide +kernel) (by decide +kernel)
theorem wd_236 : (Cond.classLink "java/util/Arrays" 311 "[B") ∈ wd_W := wd_mem 236 (by decide +kernel) (by decide +kernel)
theorem wd_237 : (Cond.methodLink "java/lang/StringLatin1" 112 ⟨"java/lang/String", "<init>", "([BB)V"⟩) ∈ wd_W := wd_mem 237 (by decide +kernel) (by decide +kernel)
theorem wd_238 : (Cond.instanceMethod ⟨"java/lang/String", "<init>", "([BB)V"⟩) ∈ wd_W := wd_mem 238 (by decide +kernel) (by decide +kernel)
theorem wd_239 : (Cond.code ⟨"java/lang/String", "<init>", "([BB)V"⟩ prog_10_method_151_code 3 none) ∈ wd_W := wd_mem 239 (by decide +kernel) (by decide +kernel)
theorem wd_240 : (Cond.methodLink "java/lang/String" 1 ⟨"java/lang/Object", "<init>", "()V"⟩) ∈ wd_W := wd_mem 240 (by decide +kernel) (by decide +kernel)
theorem wd_241 : (Cond.fieldLink "java/lang/String" 9 "java/lang/String" "value" "[B") ∈ wd_W := wd_mem 241 (by decide +kernel) (by decide +kernel)
theorem wd_242 : (Cond.fieldLink "java/lang/String" 15 "java/lang/String" "coder" "B") ∈ wd_W := wd_mem 242 (by decide +kernel) (by decide +kernel)
theorem wd_243 : (Cond.laysFinal "java/lang/String" "java/lang/String" "value" "[B") ∈ wd_W := wd_mem 243 (by decide +kernel) (by decide +kernel)
theorem wd_245 : (Cond.laysFinal "java/lang/String" "java/lang/String" "coder" "B") ∈ wd_W := wd_mem 245 (by decide +kernel) (by decide +kernel)
theorem wd_247 : (Cond.lays "java/lang/String" "java/lang/String" "hash" "I") ∈ wd_W := wd_mem 247 (by decide +kernel) (by decide +kernel)
theorem wd_249 : (Cond.lays "java/lang/String" "java/lang/String" "hashIsZero" "Z") ∈ wd_W := wd_mem 249 (by decide +kernel) (by decide +kernel)
theorem wd_252 : (Cond.methodLink "java/lang/String" 689 ⟨"java/lang/StringUTF16", "newString", "([BII)Ljava/lang/String;"⟩) ∈ wd_W := wd_mem 252 (by decide +kernel) (by decide +kernel)
theorem wd_253 : (Cond.static ⟨"java/lang/StringUTF16", "newString", "([BII)Ljava/lang/String;"⟩) ∈ wd_W := wd_mem 253 (by decide +kernel) (by decide +kernel)
theorem wd_254 : (Cond.code ⟨"java/lang/StringUTF16", "newString", "([BII)Ljava/lang/String;"⟩ prog_13_method_69_code 5 (some (FieldType.object "java/lang/String"))) ∈ wd_W := wd_mem 254 (by decide +kernel) (by decide +kernel)
theorem wd_256 : (Cond.fieldLink "java/lang/StringUTF16" 251 "java/lang/String" "COMPACT_STRINGS" "Z") ∈ wd_W := wd_mem 256 (by decide +kernel) (by decide +kernel)
theorem wd_257 : (Cond.methodLink "java/lang/StringUTF16" 257 ⟨"java/lang/StringUTF16", "compress", "([BII)[B"⟩) ∈ wd_W := wd_mem 257 (by decide +kernel) (by decide +kernel)
theorem wd_258 : (Cond.static ⟨"java/lang/StringUTF16", "compress", "([BII)[B"⟩) ∈ wd_W := wd_mem 258 (by decide +kernel) (by decide +kernel)
theorem wd_259 : (Cond.code ⟨"java/lang/StringUTF16", "compress", "([BII)[B"⟩ prog_13_method_17_code 6 (some (FieldType.array FieldType.byte))) ∈ wd_W := wd_mem 259 (by decide +kernel) (by decide +kernel)
theorem wd_260 : (Cond.methodLink "java/lang/StringUTF16" 123 ⟨"java/lang/StringUTF16", "compress", "([BI[BII)I"⟩) ∈ wd_W := wd_mem 260 (by decide +kernel) (by decide +kernel)
theorem wd_261 : (Cond.static ⟨"java/lang/StringUTF16", "compress", "([BI[BII)I"⟩) ∈ wd_W := wd_mem 261 (by decide +kernel) (by decide +kernel)
theorem wd_262 : (Cond.code ⟨"java/lang/StringUTF16", "compress", "([BI[BII)I"⟩ prog_13_method_22_code 7 (some FieldType.int)) ∈ wd_W := wd_mem 262 (by decide +kernel) (by decide +kernel)
theorem wd_263 : (Cond.methodLink "java/lang/StringUTF16" 173 ⟨"java/lang/StringUTF16", "checkBoundsOffCount", "(II[B)V"⟩) ∈ wd_W := wd_mem 263 (by decide +kernel) (by decide +kernel)
theorem wd_264 : (Cond.static ⟨"java/lang/StringUTF16", "checkBoundsOffCount", "(II[B)V"⟩) ∈ wd_W := wd_mem 264 (by decide +kernel) (by decide +kernel)
theorem wd_265 : (Cond.code ⟨"java/lang/StringUTF16", "checkBoundsOffCount", "(II[B)V"⟩ prog_13_method_94_code 3 none) ∈ wd_W := wd_mem 265 (by decide +kernel) (by decide +kernel)
theorem wd_266 : (Cond.methodLink "java/lang/StringUTF16" 48 ⟨"java/lang/StringUTF16", "length", "([B)I"⟩) ∈ wd_W := wd_mem 266 (by decide +kernel) (by decide +kernel)
theorem wd_267 : (Cond.static ⟨"java/lang/StringUTF16", "length", "([B)I"⟩) ∈ wd_W := wd_mem 267 (by decide +kernel) (by decide +kernel)
theorem wd_268 : (Cond.code ⟨"java/lang/StringUTF16", "length", "([B)I"⟩ prog_13_method_6_code 1 (some FieldType.int)) ∈ wd_W := wd_mem 268 (by decide +kernel) (by decide +kernel)
theorem wd_269 : (Cond.methodLink "java/lang/StringUTF16" 419 ⟨"java/lang/String", "checkBoundsOffCount", "(III)I"⟩) ∈ wd_W := wd_mem 269 (by decide +kernel) (by decide +kernel)
theorem wd_270 : (Cond.static ⟨"java/lang/String", "checkBoundsOffCount", "(III)I"⟩) ∈ wd_W := wd_mem 270 (by decide +kernel) (by decide +kernel)
theorem wd_271 : (Cond.code ⟨"java/lang/String", "checkBoundsOffCount", "(III)I"⟩ prog_10_method_157_code 3 (some FieldType.int)) ∈ wd_W := wd_mem 271 (by decide +kernel) (by decide +kernel)
theorem wd_272 : (Cond.methodLink "java/lang/String" 1065 ⟨"jdk/internal/util/Preconditions", "checkFromIndexSize", "(IIILjava/util/function/BiFunction;)I"⟩) ∈ wd_W := wd_mem 272 (by decide +kernel) (by decide +kernel)
theorem wd_273 : (Cond.static ⟨"jdk/internal/util/Preconditions", "checkFromIndexSize", "(IIILjava/util/function/BiFunction;)I"⟩) ∈ wd_W := wd_mem 273 (by decide +kernel) (by decide +kernel)
theorem wd_274 : (Cond.code ⟨"jdk/internal/util/Preconditions", "checkFromIndexSize", "(IIILjava/util/function/BiFunction;)I"⟩ prog_17_method_13_code 4 (some FieldType.int)) ∈ wd_W := wd_mem 274 (by decide +kernel) (by decide +kernel)
theorem wd_275 : (Cond.methodLink "java/lang/StringUTF16" 71 ⟨"java/lang/StringUTF16", "getChar", "([BI)C"⟩) ∈ wd_W := wd_mem 275 (by decide +kernel) (by decide +kernel)
theorem wd_276 : (Cond.static ⟨"java/lang/StringUTF16", "getChar", "([BI)C"⟩) ∈ wd_W := wd_mem 276 (by decide +kernel) (by decide +kernel)
theorem wd_277 : (Cond.code ⟨"java/lang/StringUTF16", "getChar", "([BI)C"⟩ prog_13_method_5_code 2 (some FieldType.char)) ∈ wd_W := wd_mem 277 (by decide +kernel) (by decide +kernel)
theorem wd_278 : (Cond.fieldLink "java/lang/StringUTF16" 44 "java/lang/StringUTF16" "$assertionsDisabled" "Z") ∈ wd_W := wd_mem 278 (by decide +kernel) (by decide +kernel)
theorem wd_280 : (Cond.fieldLink "java/lang/StringUTF16" 59 "java/lang/StringUTF16" "HI_BYTE_SHIFT" "I") ∈ wd_W := wd_mem 280 (by decide +kernel) (by decide +kernel)
theorem wd_282 : (Cond.fieldLink "java/lang/StringUTF16" 63 "java/lang/StringUTF16" "LO_BYTE_SHIFT" "I") ∈ wd_W := wd_mem 282 (by decide +kernel) (by decide +kernel)
theorem wd_284 : (Cond.methodLink "java/lang/StringUTF16" 11 ⟨"java/lang/StringUTF16", "newBytesLength", "(I)I"⟩) ∈ wd_W := wd_mem 284 (by decide +kernel) (by decide +kernel)
theorem wd_285 : (Cond.static ⟨"java/lang/StringUTF16", "newBytesLength", "(I)I"⟩) ∈ wd_W := wd_mem 285 (by decide +kernel) (by decide +kernel)
theorem wd_286 : (Cond.code ⟨"java/lang/StringUTF16", "newBytesLength", "(I)I"⟩ prog_13_method_3_code 1 (some FieldType.int)) ∈ wd_W := wd_mem 286 (by decide +kernel) (by decide +kernel)
theorem wd_287 : (Cond.constant "java/lang/StringUTF16" 20 (1073741823 : Int32)) ∈ wd_W := wd_mem 287 (by decide +kernel) (by decide +kernel)
theorem wd_288 : (Cond.methodLink "java/lang/StringUTF16" 126 ⟨"java/util/Arrays", "copyOfRange", "([BII)[B"⟩) ∈ wd_W := wd_mem 288 (by decide +kernel) (by decide +kernel)
theorem wd_289 : (Cond.methodLink "java/lang/StringUTF16" 259 ⟨"java/lang/StringUTF16", "coderFromArrayLen", "([BI)B"⟩) ∈ wd_W := wd_mem 289 (by decide +kernel) (by decide +kernel)
theorem wd_290 : (Cond.static ⟨"java/lang/StringUTF16", "coderFromArrayLen", "([BI)B"⟩) ∈ wd_W := wd_mem 290 (by decide +kernel) (by decide +kernel)
theorem wd_291 : (Cond.code ⟨"java/lang/StringUTF16", "coderFromArrayLen", "([BI)B"⟩ prog_13_method_15_code 2 (some FieldType.byte)) ∈ wd_W := wd_mem 291 (by decide +kernel) (by decide +kernel)
theorem wd_292 : (Cond.classLink "java/lang/StringUTF16" 3 "java/lang/String") ∈ wd_W := wd_mem 292 (by decide +kernel) (by decide +kernel)
theorem wd_293 : (Cond.methodLink "java/lang/StringUTF16" 263 ⟨"java/lang/String", "<init>", "([BB)V"⟩) ∈ wd_W := wd_mem 293 (by decide +kernel) (by decide +kernel)
theorem wd_294 : (Cond.fieldLink "GraphWriter$Defined" 21 "GraphWriter$Defined" "number" "I") ∈ wd_W := wd_mem 294 (by decide +kernel) (by decide +kernel)
theorem wd_295 : (Cond.fieldLink "GraphWriter" 293 "GraphWriter$Defined" "number" "I") ∈ wd_W := wd_mem 295 (by decide +kernel) (by decide +kernel)
theorem wd_296 : (Cond.fieldLink "GraphWriter$Defined" 25 "GraphWriter$Defined" "kind" "I") ∈ wd_W := wd_mem 296 (by decide +kernel) (by decide +kernel)
theorem wd_297 : (Cond.fieldLink "GraphWriter" 52 "GraphWriter$Defined" "kind" "I") ∈ wd_W := wd_mem 297 (by decide +kernel) (by decide +kernel)
theorem wd_298 : (Cond.fieldLink "GraphWriter$Defined" 28 "GraphWriter$Defined" "id" "J") ∈ wd_W := wd_mem 298 (by decide +kernel) (by decide +kernel)
theorem wd_299 : (Cond.fieldLink "GraphWriter" 298 "GraphWriter$Defined" "id" "J") ∈ wd_W := wd_mem 299 (by decide +kernel) (by decide +kernel)
theorem wd_300 : (Cond.fieldLink "GraphWriter$Defined" 40 "GraphWriter$Defined" "sign" "Ljava/lang/String;") ∈ wd_W := wd_mem 300 (by decide +kernel) (by decide +kernel)
theorem wd_301 : (Cond.fieldLink "GraphWriter" 267 "GraphWriter$Defined" "sign" "Ljava/lang/String;") ∈ wd_W := wd_mem 301 (by decide +kernel) (by decide +kernel)
theorem wd_302 : (Cond.fieldLink "GraphWriter$Defined" 44 "GraphWriter$Defined" "chain" "[I") ∈ wd_W := wd_mem 302 (by decide +kernel) (by decide +kernel)
theorem wd_303 : (Cond.fieldLink "GraphWriter" 73 "GraphWriter$Defined" "chain" "[I") ∈ wd_W := wd_mem 303 (by decide +kernel) (by decide +kernel)
theorem wd_304 : (Cond.fieldLink "GraphWriter$Defined" 9 "GraphWriter$Defined" "names" "[I") ∈ wd_W := wd_mem 304 (by decide +kernel) (by decide +kernel)
theorem wd_305 : (Cond.fieldLink "GraphWriter" 311 "GraphWriter$Defined" "names" "[I") ∈ wd_W := wd_mem 305 (by decide +kernel) (by decide +kernel)
theorem wd_306 : (Cond.fieldLink "GraphWriter$Defined" 15 "GraphWriter$Defined" "types" "[I") ∈ wd_W := wd_mem 306 (by decide +kernel) (by decide +kernel)
theorem wd_307 : (Cond.fieldLink "GraphWriter" 190 "GraphWriter$Defined" "types" "[I") ∈ wd_W := wd_mem 307 (by decide +kernel) (by decide +kernel)
theorem wd_308 : (Cond.fieldLink "GraphWriter$Defined" 18 "GraphWriter$Defined" "order" "[I") ∈ wd_W := wd_mem 308 (by decide +kernel) (by decide +kernel)
theorem wd_309 : (Cond.fieldLink "GraphWriter" 283 "GraphWriter$Defined" "order" "[I") ∈ wd_W := wd_mem 309 (by decide +kernel) (by decide +kernel)
theorem wd_310 : (Cond.fieldLink "GraphWriter$Defined" 47 "GraphWriter$Defined" "fields" "I") ∈ wd_W := wd_mem 310 (by decide +kernel) (by decide +kernel)
theorem wd_311 : (Cond.fieldLink "GraphWriter" 60 "GraphWriter$Defined" "fields" "I") ∈ wd_W := wd_mem 311 (by decide +kernel) (by decide +kernel)
theorem wd_312 : (Cond.fieldLink "GraphWriter$Defined" 54 "GraphWriter$Defined" "shown" "I") ∈ wd_W := wd_mem 312 (by decide +kernel) (by decide +kernel)
theorem wd_313 : (Cond.fieldLink "GraphWriter" 280 "GraphWriter$Defined" "shown" "I") ∈ wd_W := wd_mem 313 (by decide +kernel) (by decide +kernel)
theorem wd_314 : (Cond.fieldLink "GraphWriter" 56 "GraphWriter$Defined" "used" "Z") ∈ wd_W := wd_mem 314 (by decide +kernel) (by decide +kernel)
theorem wd_315 : (Cond.laysFinal "GraphWriter$Defined" "GraphWriter$Defined" "number" "I") ∈ wd_W := wd_mem 315 (by decide +kernel) (by decide +kernel)
theorem wd_317 : (Cond.laysFinal "GraphWriter$Defined" "GraphWriter$Defined" "kind" "I") ∈ wd_W := wd_mem 317 (by decide +kernel) (by decide +kernel)
theorem wd_319 : (Cond.laysFinal "GraphWriter$Defined" "GraphWriter$Defined" "id" "J") ∈ wd_W := wd_mem 319 (by decide +kernel) (by decide +kernel)
theorem wd_321 : (Cond.laysFinal "GraphWriter$Defined" "GraphWriter$Defined" "sign" "Ljava/lang/String;") ∈ wd_W := wd_mem 321 (by decide +kernel) (by decide +kernel)
theorem wd_323 : (Cond.laysFinal "GraphWriter$Defined" "GraphWriter$Defined" "chain" "[I") ∈ wd_W := wd_mem 323 (by decide +kernel) (by decide +kernel)
theorem wd_325 : (Cond.laysFinal "GraphWriter$Defined" "GraphWriter$Defined" "names" "[I") ∈ wd_W := wd_mem 325 (by decide +kernel) (by decide +kernel)
theorem wd_327 : (Cond.laysFinal "GraphWriter$Defined" "GraphWriter$Defined" "types" "[I") ∈ wd_W := wd_mem 327 (by decide +kernel) (by decide +kernel)
theorem wd_329 : (Cond.laysFinal "GraphWriter$Defined" "GraphWriter$Defined" "order" "[I") ∈ wd_W := wd_mem 329 (by decide +kernel) (by decide +kernel)
theorem wd_331 : (Cond.lays "GraphWriter$Defined" "GraphWriter$Defined" "fields" "I") ∈ wd_W := wd_mem 331 (by decide +kernel) (by decide +kernel)
theorem wd_333 : (Cond.lays "GraphWriter$Defined" "GraphWriter$Defined" "shown" "I") ∈ wd_W := wd_mem 333 (by decide +kernel) (by decide +kernel)
theorem wd_335 : (Cond.lays "GraphWriter$Defined" "GraphWriter$Defined" "used" "Z") ∈ wd_W := wd_mem 335 (by decide +kernel) (by decide +kernel)
theorem wd_338 : (Cond.methodLink "GraphWriterLaw" 20 ⟨"GraphWriter", "field", "(IIIZ)I"⟩) ∈ wd_W := wd_mem 338 (by decide +kernel) (by decide +kernel)
theorem wd_339 : (Cond.instanceMethod ⟨"GraphWriter", "field", "(IIIZ)I"⟩) ∈ wd_W := wd_mem 339 (by decide +kernel) (by decide +kernel)
theorem wd_340 : (Cond.selects "GraphWriter" ⟨"GraphWriter", "field", "(IIIZ)I"⟩ ⟨"GraphWriter", "field", "(IIIZ)I"⟩) ∈ wd_W := wd_mem 340 (by decide +kernel) (by decide +kernel)
theorem wd_341 : (Cond.code ⟨"GraphWriter", "field", "(IIIZ)I"⟩ prog_1_method_3_code 6 (some FieldType.int)) ∈ wd_W := wd_mem 341 (by decide +kernel) (by decide +kernel)
theorem wd_342 : (Cond.methodLink "GraphWriter" 63 ⟨"GraphWriter$Defined", "hasField", "(I)Z"⟩) ∈ wd_W := wd_mem 342 (by decide +kernel) (by decide +kernel)
theorem wd_343 : (Cond.instanceMethod ⟨"GraphWriter$Defined", "hasField", "(I)Z"⟩) ∈ wd_W := wd_mem 343 (by decide +kernel) (by decide +kernel)
theorem wd_344 : (Cond.selects "GraphWriter$Defined" ⟨"GraphWriter$Defined", "hasField", "(I)Z"⟩ ⟨"GraphWriter$Defined", "hasField", "(I)Z"⟩) ∈ wd_W := wd_mem 344 (by decide +kernel) (by decide +kernel)
theorem wd_345 : (Cond.code ⟨"GraphWriter$Defined", "hasField", "(I)Z"⟩ prog_2_method_3_code 3 (some FieldType.boolean)) ∈ wd_W := wd_mem 345 (by decide +kernel) (by decide +kernel)
theorem wd_346 : (Cond.methodLink "GraphWriter" 66 ⟨"GraphWriter$Defined", "addField", "(IIZ)V"⟩) ∈ wd_W := wd_mem 346 (by decide +kernel) (by decide +kernel)
theorem wd_347 : (Cond.instanceMethod ⟨"GraphWriter$Defined", "addField", "(IIZ)V"⟩) ∈ wd_W := wd_mem 347 (by decide +kernel) (by decide +kernel)
theorem wd_348 : (Cond.selects "GraphWriter$Defined" ⟨"GraphWriter$Defined", "addField", "(IIZ)V"⟩ ⟨"GraphWriter$Defined", "addField", "(IIZ)V"⟩) ∈ wd_W := wd_mem 348 (by decide +kernel) (by decide +kernel)
theorem wd_349 : (Cond.code ⟨"GraphWriter$Defined", "addField", "(IIZ)V"⟩ prog_2_method_4_code 4 none) ∈ wd_W := wd_mem 349 (by decide +kernel) (by decide +kernel)
theorem wd_350 : (Cond.methodLink "GraphWriter$Defined" 50 ⟨"GraphWriter$Defined", "putInOrder", "(I)V"⟩) ∈ wd_W := wd_mem 350 (by decide +kernel) (by decide +kernel)
theorem wd_352 : (Cond.instanceMethod ⟨"GraphWriter$Defined", "putInOrder", "(I)V"⟩) ∈ wd_W := wd_mem 352 (by decide +kernel) (by decide +kernel)
theorem wd_353 : (Cond.code ⟨"GraphWriter$Defined", "putInOrder", "(I)V"⟩ prog_2_method_5_code 3 none) ∈ wd_W := wd_mem 353 (by decide +kernel) (by decide +kernel)
theorem wd_354 : (Cond.methodLink "GraphWriter$Defined" 57 ⟨"GraphWriter$Defined", "rank", "(I)I"⟩) ∈ wd_W := wd_mem 354 (by decide +kernel) (by decide +kernel)
theorem wd_356 : (Cond.instanceMethod ⟨"GraphWriter$Defined", "rank", "(I)I"⟩) ∈ wd_W := wd_mem 356 (by decide +kernel) (by decide +kernel)
theorem wd_357 : (Cond.code ⟨"GraphWriter$Defined", "rank", "(I)I"⟩ prog_2_method_6_code 2 (some FieldType.int)) ∈ wd_W := wd_mem 357 (by decide +kernel) (by decide +kernel)
theorem wd_358 : (Cond.methodLink "GraphWriterLaw" 25 ⟨"GraphWriter", "instance", "(I)I"⟩) ∈ wd_W := wd_mem 358 (by decide +kernel) (by decide +kernel)
theorem wd_359 : (Cond.instanceMethod ⟨"GraphWriter", "instance", "(I)I"⟩) ∈ wd_W := wd_mem 359 (by decide +kernel) (by decide +kernel)
theorem wd_360 : (Cond.selects "GraphWriter" ⟨"GraphWriter", "instance", "(I)I"⟩ ⟨"GraphWriter", "instance", "(I)I"⟩) ∈ wd_W := wd_mem 360 (by decide +kernel) (by decide +kernel)
theorem wd_361 : (Cond.code ⟨"GraphWriter", "instance", "(I)I"⟩ prog_1_method_4_code 4 (some FieldType.int)) ∈ wd_W := wd_mem 361 (by decide +kernel) (by decide +kernel)
theorem wd_362 : (Cond.instantiable "GraphWriter$Thing" 7) ∈ wd_W := wd_mem 362 (by decide +kernel) (by decide +kernel)
theorem wd_363 : (Cond.methodLink "GraphWriter" 77 ⟨"GraphWriter", "slotTypes", "([I)[I"⟩) ∈ wd_W := wd_mem 363 (by decide +kernel) (by decide +kernel)
theorem wd_365 : (Cond.instanceMethod ⟨"GraphWriter", "slotTypes", "([I)[I"⟩) ∈ wd_W := wd_mem 365 (by decide +kernel) (by decide +kernel)
theorem wd_366 : (Cond.code ⟨"GraphWriter", "slotTypes", "([I)[I"⟩ prog_1_method_24_code 7 (some (FieldType.array FieldType.int))) ∈ wd_W := wd_mem 366 (by decide +kernel) (by decide +kernel)
theorem wd_367 : (Cond.methodLink "GraphWriter" 191 ⟨"java/lang/System", "arraycopy", "(Ljava/lang/Object;ILjava/lang/Object;II)V"⟩) ∈ wd_W := wd_mem 367 (by decide +kernel) (by decide +kernel)
theorem wd_369 : (Cond.methodLink "GraphWriter" 83 ⟨"GraphWriter$Thing", "<init>", "(II[ILjava/lang/String;)V"⟩) ∈ wd_W := wd_mem 369 (by decide +kernel) (by decide +kernel)
theorem wd_370 : (Cond.instanceMethod ⟨"GraphWriter$Thing", "<init>", "(II[ILjava/lang/String;)V"⟩) ∈ wd_W := wd_mem 370 (by decide +kernel) (by decide +kernel)
theorem wd_371 : (Cond.code ⟨"GraphWriter$Thing", "<init>", "(II[ILjava/lang/String;)V"⟩ prog_4_method_1_code 6 none) ∈ wd_W := wd_mem 371 (by decide +kernel) (by decide +kernel)
theorem wd_372 : (Cond.methodLink "GraphWriter$Thing" 3 ⟨"java/lang/Object", "<init>", "()V"⟩) ∈ wd_W := wd_mem 372 (by decide +kernel) (by decide +kernel)
theorem wd_373 : (Cond.constantLong "GraphWriter$Thing" 33 (-1 : Int64)) ∈ wd_W := wd_mem 373 (by decide +kernel) (by decide +kernel)
theorem wd_374 : (Cond.fieldLink "GraphWriter$Thing" 15 "GraphWriter$Thing" "sort" "I") ∈ wd_W := wd_mem 374 (by decide +kernel) (by decide +kernel)
theorem wd_375 : (Cond.fieldLink "GraphWriter" 174 "GraphWriter$Thing" "sort" "I") ∈ wd_W := wd_mem 375 (by decide +kernel) (by decide +kernel)
theorem wd_376 : (Cond.fieldLink "GraphWriter$Thing" 18 "GraphWriter$Thing" "owner" "I") ∈ wd_W := wd_mem 376 (by decide +kernel) (by decide +kernel)
theorem wd_377 : (Cond.fieldLink "GraphWriter" 177 "GraphWriter$Thing" "owner" "I") ∈ wd_W := wd_mem 377 (by decide +kernel) (by decide +kernel)
theorem wd_378 : (Cond.fieldLink "GraphWriter$Thing" 21 "GraphWriter$Thing" "types" "[I") ∈ wd_W := wd_mem 378 (by decide +kernel) (by decide +kernel)
theorem wd_379 : (Cond.fieldLink "GraphWriter" 113 "GraphWriter$Thing" "types" "[I") ∈ wd_W := wd_mem 379 (by decide +kernel) (by decide +kernel)
theorem wd_380 : (Cond.fieldLink "GraphWriter$Thing" 29 "GraphWriter$Thing" "values" "[J") ∈ wd_W := wd_mem 380 (by decide +kernel) (by decide +kernel)
theorem wd_381 : (Cond.fieldLink "GraphWriter" 120 "GraphWriter$Thing" "values" "[J") ∈ wd_W := wd_mem 381 (by decide +kernel) (by decide +kernel)
theorem wd_382 : (Cond.fieldLink "GraphWriter$Thing" 25 "GraphWriter$Thing" "text" "Ljava/lang/String;") ∈ wd_W := wd_mem 382 (by decide +kernel) (by decide +kernel)
theorem wd_383 : (Cond.fieldLink "GraphWriter" 180 "GraphWriter$Thing" "text" "Ljava/lang/String;") ∈ wd_W := wd_mem 383 (by decide +kernel) (by decide +kernel)
theorem wd_384 : (Cond.fieldLink "GraphWriter$Thing" 9 "GraphWriter$Thing" "replacement" "I") ∈ wd_W := wd_mem 384 (by decide +kernel) (by decide +kernel)
theorem wd_385 : (Cond.fieldLink "GraphWriter" 127 "GraphWriter$Thing" "replacement" "I") ∈ wd_W := wd_mem 385 (by decide +kernel) (by decide +kernel)
theorem wd_386 : (Cond.fieldLink "GraphWriter" 130 "GraphWriter$Thing" "extra" "I") ∈ wd_W := wd_mem 386 (by decide +kernel) (by decide +kernel)
theorem wd_387 : (Cond.laysFinal "GraphWriter$Thing" "GraphWriter$Thing" "sort" "I") ∈ wd_W := wd_mem 387 (by decide +kernel) (by decide +kernel)
theorem wd_389 : (Cond.laysFinal "GraphWriter$Thing" "GraphWriter$Thing" "owner" "I") ∈ wd_W := wd_mem 389 (by decide +kernel) (by decide +kernel)
theorem wd_391 : (Cond.laysFinal "GraphWriter$Thing" "GraphWriter$Thing" "types" "[I") ∈ wd_W := wd_mem 391 (by decide +kernel) (by decide +kernel)
theorem wd_393 : (Cond.laysFinal "GraphWriter$Thing" "GraphWriter$Thing" "values" "[J") ∈ wd_W := wd_mem 393 (by decide +kernel) (by decide +kernel)
theorem wd_395 : (Cond.laysFinal "GraphWriter$Thing" "GraphWriter$Thing" "text" "Ljava/lang/String;") ∈ wd_W := wd_mem 395 (by decide +kernel) (by decide +kernel)
theorem wd_397 : (Cond.lays "GraphWriter$Thing" "GraphWriter$Thing" "replacement" "I") ∈ wd_W := wd_mem 397 (by decide +kernel) (by decide +kernel)
theorem wd_399 : (Cond.lays "GraphWriter$Thing" "GraphWriter$Thing" "extra" "I") ∈ wd_W := wd_mem 399 (by decide +kernel) (by decide +kernel)
theorem wd_402 : (Cond.arrayClass FieldType.long) ∈ wd_W := wd_mem 402 (by decide +kernel) (by decide +kernel)
theorem wd_403 : (Cond.methodLink "GraphWriter" 86 ⟨"GraphWriter", "keep", "(LGraphWriter$Thing;)I"⟩) ∈ wd_W := wd_mem 403 (by decide +kernel) (by decide +kernel)
theorem wd_405 : (Cond.instanceMethod ⟨"GraphWriter", "keep", "(LGraphWriter$Thing;)I"⟩) ∈ wd_W := wd_mem 405 (by decide +kernel) (by decide +kernel)
theorem wd_406 : (Cond.code ⟨"GraphWriter", "keep", "(LGraphWriter$Thing;)I"⟩ prog_1_method_26_code 2 (some FieldType.int)) ∈ wd_W := wd_mem 406 (by decide +kernel) (by decide +kernel)
theorem wd_407 : (Cond.methodLink "GraphWriterLaw" 30 ⟨"GraphWriter", "text", "(J)I"⟩) ∈ wd_W := wd_mem 407 (by decide +kernel) (by decide +kernel)
theorem wd_408 : (Cond.instanceMethod ⟨"GraphWriter", "text", "(J)I"⟩) ∈ wd_W := wd_mem 408 (by decide +kernel) (by decide +kernel)
theorem wd_409 : (Cond.selects "GraphWriter" ⟨"GraphWriter", "text", "(J)I"⟩ ⟨"GraphWriter", "text", "(J)I"⟩) ∈ wd_W := wd_mem 409 (by decide +kernel) (by decide +kernel)
theorem wd_410 : (Cond.code ⟨"GraphWriter", "text", "(J)I"⟩ prog_1_method_5_code 3 (some FieldType.int)) ∈ wd_W := wd_mem 410 (by decide +kernel) (by decide +kernel)
theorem wd_411 : (Cond.constantLong "GraphWriter" 90 (-9187201950435737472 : Int64)) ∈ wd_W := wd_mem 411 (by decide +kernel) (by decide +kernel)
theorem wd_412 : (Cond.methodLink "GraphWriter" 92 ⟨"GraphWriter", "signsOf", "(J)Ljava/lang/String;"⟩) ∈ wd_W := wd_mem 412 (by decide +kernel) (by decide +kernel)
theorem wd_413 : (Cond.static ⟨"GraphWriter", "signsOf", "(J)Ljava/lang/String;"⟩) ∈ wd_W := wd_mem 413 (by decide +kernel) (by decide +kernel)
theorem wd_414 : (Cond.code ⟨"GraphWriter", "signsOf", "(J)Ljava/lang/String;"⟩ prog_1_method_25_code 5 (some (FieldType.object "java/lang/String"))) ∈ wd_W := wd_mem 414 (by decide +kernel) (by decide +kernel)
theorem wd_415 : (Cond.classLink "GraphWriter" 197 "java/lang/StringBuilder") ∈ wd_W := wd_mem 415 (by decide +kernel) (by decide +kernel)
theorem wd_416 : (Cond.instantiable "java/lang/StringBuilder" 4) ∈ wd_W := wd_mem 416 (by decide +kernel) (by decide +kernel)
theorem wd_417 : (Cond.methodLink "GraphWriter" 199 ⟨"java/lang/StringBuilder", "<init>", "()V"⟩) ∈ wd_W := wd_mem 417 (by decide +kernel) (by decide +kernel)
theorem wd_418 : (Cond.instanceMethod ⟨"java/lang/StringBuilder", "<init>", "()V"⟩) ∈ wd_W := wd_mem 418 (by decide +kernel) (by decide +kernel)
theorem wd_419 : (Cond.code ⟨"java/lang/StringBuilder", "<init>", "()V"⟩ prog_11_method_1_code 1 none) ∈ wd_W := wd_mem 419 (by decide +kernel) (by decide +kernel)
theorem wd_420 : (Cond.methodLink "java/lang/StringBuilder" 1 ⟨"java/lang/AbstractStringBuilder", "<init>", "(I)V"⟩) ∈ wd_W := wd_mem 420 (by decide +kernel) (by decide +kernel)
theorem wd_421 : (Cond.instanceMethod ⟨"java/lang/AbstractStringBuilder", "<init>", "(I)V"⟩) ∈ wd_W := wd_mem 421 (by decide +kernel) (by decide +kernel)
theorem wd_422 : (Cond.code ⟨"java/lang/AbstractStringBuilder", "<init>", "(I)V"⟩ prog_7_method_2_code 2 none) ∈ wd_W := wd_mem 422 (by decide +kernel) (by decide +kernel)
theorem wd_423 : (Cond.methodLink "java/lang/AbstractStringBuilder" 3 ⟨"java/lang/Object", "<init>", "()V"⟩) ∈ wd_W := wd_mem 423 (by decide +kernel) (by decide +kernel)
theorem wd_424 : (Cond.fieldLink "java/lang/AbstractStringBuilder" 18 "java/lang/String" "COMPACT_STRINGS" "Z") ∈ wd_W := wd_mem 424 (by decide +kernel) (by decide +kernel)
theorem wd_425 : (Cond.methodLink "java/lang/AbstractStringBuilder" 26 ⟨"java/lang/StringUTF16", "newBytesFor", "(I)[B"⟩) ∈ wd_W := wd_mem 425 (by decide +kernel) (by decide +kernel)
theorem wd_426 : (Cond.static ⟨"java/lang/StringUTF16", "newBytesFor", "(I)[B"⟩) ∈ wd_W := wd_mem 426 (by decide +kernel) (by decide +kernel)
theorem wd_427 : (Cond.code ⟨"java/lang/StringUTF16", "newBytesFor", "(I)[B"⟩ prog_13_method_2_code 1 (some (FieldType.array FieldType.byte))) ∈ wd_W := wd_mem 427 (by decide +kernel) (by decide +kernel)
theorem wd_428 : (Cond.fieldLink "java/lang/AbstractStringBuilder" 15 "java/lang/AbstractStringBuilder" "value" "[B") ∈ wd_W := wd_mem 428 (by decide +kernel) (by decide +kernel)
theorem wd_429 : (Cond.fieldLink "java/lang/AbstractStringBuilder" 22 "java/lang/AbstractStringBuilder" "coder" "B") ∈ wd_W := wd_mem 429 (by decide +kernel) (by decide +kernel)
theorem wd_430 : (Cond.fieldLink "java/lang/String" 1048 "java/lang/AbstractStringBuilder" "maybeLatin1" "Z") ∈ wd_W := wd_mem 430 (by decide +kernel) (by decide +kernel)
theorem wd_431 : (Cond.fieldLink "java/lang/AbstractStringBuilder" 79 "java/lang/AbstractStringBuilder" "count" "I") ∈ wd_W := wd_mem 431 (by decide +kernel) (by decide +kernel)
theorem wd_432 : (Cond.lays "java/lang/StringBuilder" "java/lang/AbstractStringBuilder" "value" "[B") ∈ wd_W := wd_mem 432 (by decide +kernel) (by decide +kernel)
theorem wd_434 : (Cond.lays "java/lang/StringBuilder" "java/lang/AbstractStringBuilder" "coder" "B") ∈ wd_W := wd_mem 434 (by decide +kernel) (by decide +kernel)
theorem wd_436 : (Cond.lays "java/lang/StringBuilder" "java/lang/AbstractStringBuilder" "maybeLatin1" "Z") ∈ wd_W := wd_mem 436 (by decide +kernel) (by decide +kernel)
theorem wd_438 : (Cond.lays "java/lang/StringBuilder" "java/lang/AbstractStringBuilder" "count" "I") ∈ wd_W := wd_mem 438 (by decide +kernel) (by decide +kernel)
theorem wd_441 : (Cond.constantLong "GraphWriter" 200 (127 : Int64)) ∈ wd_W := wd_mem 441 (by decide +kernel) (by decide +kernel)
theorem wd_442 : (Cond.methodLink "GraphWriter" 202 ⟨"java/lang/StringBuilder", "append", "(C)Ljava/lang/StringBuilder;"⟩) ∈ wd_W := wd_mem 442 (by decide +kernel) (by decide +kernel)
theorem wd_443 : (Cond.instanceMethod ⟨"java/lang/StringBuilder", "append", "(C)Ljava/lang/StringBuilder;"⟩) ∈ wd_W := wd_mem 443 (by decide +kernel) (by decide +kernel)
theorem wd_444 : (Cond.selects "java/lang/StringBuilder" ⟨"java/lang/StringBuilder", "append", "(C)Ljava/lang/StringBuilder;"⟩ ⟨"java/lang/StringBuilder", "append", "(C)Ljava/lang/StringBuilder;"⟩) ∈ wd_W := wd_mem 444 (by decide +kernel) (by decide +kernel)
theorem wd_445 : (Cond.code ⟨"java/lang/StringBuilder", "append", "(C)Ljava/lang/StringBuilder;"⟩ prog_11_method_14_code 2 (some (FieldType.object "java/lang/StringBuilder"))) ∈ wd_W := wd_mem 445 (by decide +kernel) (by decide +kernel)
theorem wd_446 : (Cond.methodLink "java/lang/StringBuilder" 50 ⟨"java/lang/AbstractStringBuilder", "append", "(C)Ljava/lang/AbstractStringBuilder;"⟩) ∈ wd_W := wd_mem 446 (by decide +kernel) (by decide +kernel)
theorem wd_447 : (Cond.instanceMethod ⟨"java/lang/AbstractStringBuilder", "append", "(C)Ljava/lang/AbstractStringBuilder;"⟩) ∈ wd_W := wd_mem 447 (by decide +kernel) (by decide +kernel)
theorem wd_448 : (Cond.code ⟨"java/lang/AbstractStringBuilder", "append", "(C)Ljava/lang/AbstractStringBuilder;"⟩ prog_7_method_31_code 2 (some (FieldType.object "java/lang/AbstractStringBuilder"))) ∈ wd_W := wd_mem 448 (by decide +kernel) (by decide +kernel)
theorem wd_449 : (Cond.methodLink "java/lang/AbstractStringBuilder" 100 ⟨"java/lang/AbstractStringBuilder", "ensureCapacityInternal", "(I)V"⟩) ∈ wd_W := wd_mem 449 (by decide +kernel) (by decide +kernel)
theorem wd_451 : (Cond.instanceMethod ⟨"java/lang/AbstractStringBuilder", "ensureCapacityInternal", "(I)V"⟩) ∈ wd_W := wd_mem 451 (by decide +kernel) (by decide +kernel)
theorem wd_452 : (Cond.code ⟨"java/lang/AbstractStringBuilder", "ensureCapacityInternal", "(I)V"⟩ prog_7_method_9_code 3 none) ∈ wd_W := wd_mem 452 (by decide +kernel) (by decide +kernel)
theorem wd_453 : (Cond.methodLink "java/lang/AbstractStringBuilder" 104 ⟨"java/lang/AbstractStringBuilder", "newCapacity", "(I)I"⟩) ∈ wd_W := wd_mem 453 (by decide +kernel) (by decide +kernel)
theorem wd_455 : (Cond.instanceMethod ⟨"java/lang/AbstractStringBuilder", "newCapacity", "(I)I"⟩) ∈ wd_W := wd_mem 455 (by decide +kernel) (by decide +kernel)
theorem wd_456 : (Cond.code ⟨"java/lang/AbstractStringBuilder", "newCapacity", "(I)I"⟩ prog_7_method_10_code 6 (some FieldType.int)) ∈ wd_W := wd_mem 456 (by decide +kernel) (by decide +kernel)
theorem wd_457 : (Cond.methodLink "java/lang/AbstractStringBuilder" 114 ⟨"jdk/internal/util/ArraysSupport", "newLength", "(III)I"⟩) ∈ wd_W := wd_mem 457 (by decide +kernel) (by decide +kernel)
theorem wd_458 : (Cond.static ⟨"jdk/internal/util/ArraysSupport", "newLength", "(III)I"⟩) ∈ wd_W := wd_mem 458 (by decide +kernel) (by decide +kernel)
theorem wd_459 : (Cond.code ⟨"jdk/internal/util/ArraysSupport", "newLength", "(III)I"⟩ prog_16_method_27_code 4 (some FieldType.int)) ∈ wd_W := wd_mem 459 (by decide +kernel) (by decide +kernel)
theorem wd_460 : (Cond.methodLink "jdk/internal/util/ArraysSupport" 194 ⟨"java/lang/Math", "max", "(II)I"⟩) ∈ wd_W := wd_mem 460 (by decide +kernel) (by decide +kernel)
theorem wd_461 : (Cond.static ⟨"java/lang/Math", "max", "(II)I"⟩) ∈ wd_W := wd_mem 461 (by decide +kernel) (by decide +kernel)
theorem wd_462 : (Cond.code ⟨"java/lang/Math", "max", "(II)I"⟩ prog_9_method_65_code 2 (some FieldType.int)) ∈ wd_W := wd_mem 462 (by decide +kernel) (by decide +kernel)
theorem wd_463 : (Cond.constant "jdk/internal/util/ArraysSupport" 200 (2147483639 : Int32)) ∈ wd_W := wd_mem 463 (by decide +kernel) (by decide +kernel)
theorem wd_464 : (Cond.methodLink "jdk/internal/util/ArraysSupport" 201 ⟨"jdk/internal/util/ArraysSupport", "hugeLength", "(II)I"⟩) ∈ wd_W := wd_mem 464 (by decide +kernel) (by decide +kernel)
theorem wd_465 : (Cond.static ⟨"jdk/internal/util/ArraysSupport", "hugeLength", "(II)I"⟩) ∈ wd_W := wd_mem 465 (by decide +kernel) (by decide +kernel)
theorem wd_466 : (Cond.code ⟨"jdk/internal/util/ArraysSupport", "hugeLength", "(II)I"⟩ prog_16_method_28_code 3 (some FieldType.int)) ∈ wd_W := wd_mem 466 (by decide +kernel) (by decide +kernel)
theorem wd_467 : (Cond.constant "java/lang/AbstractStringBuilder" 39 (2147483647 : Int32)) ∈ wd_W := wd_mem 467 (by decide +kernel) (by decide +kernel)
theorem wd_468 : (Cond.methodLink "java/lang/AbstractStringBuilder" 108 ⟨"java/util/Arrays", "copyOf", "([BI)[B"⟩) ∈ wd_W := wd_mem 468 (by decide +kernel) (by decide +kernel)
theorem wd_469 : (Cond.static ⟨"java/util/Arrays", "copyOf", "([BI)[B"⟩) ∈ wd_W := wd_mem 469 (by decide +kernel) (by decide +kernel)
theorem wd_470 : (Cond.code ⟨"java/util/Arrays", "copyOf", "([BI)[B"⟩ prog_15_method_121_code 3 (some (FieldType.array FieldType.byte))) ∈ wd_W := wd_mem 470 (by decide +kernel) (by decide +kernel)
theorem wd_471 : (Cond.methodLink "java/lang/AbstractStringBuilder" 83 ⟨"java/lang/AbstractStringBuilder", "isLatin1", "()Z"⟩) ∈ wd_W := wd_mem 471 (by decide +kernel) (by decide +kernel)
theorem wd_472 : (Cond.instanceMethod ⟨"java/lang/AbstractStringBuilder", "isLatin1", "()Z"⟩) ∈ wd_W := wd_mem 472 (by decide +kernel) (by decide +kernel)
theorem wd_473 : (Cond.sameMethod "java/lang/AbstractStringBuilder" "java/lang/AbstractStringBuilder" "isLatin1" "()Z") ∈ wd_W := wd_mem 473 (by decide +kernel) (by decide +kernel)
theorem wd_474 : (Cond.selects "java/lang/StringBuilder" ⟨"java/lang/AbstractStringBuilder", "isLatin1", "()Z"⟩ ⟨"java/lang/AbstractStringBuilder", "isLatin1", "()Z"⟩) ∈ wd_W := wd_mem 474 (by decide +kernel) (by decide +kernel)
theorem wd_475 : (Cond.code ⟨"java/lang/AbstractStringBuilder", "isLatin1", "()Z"⟩ prog_7_method_68_code 1 (some FieldType.boolean)) ∈ wd_W := wd_mem 475 (by decide +kernel) (by decide +kernel)
theorem wd_476 : (Cond.methodLink "java/lang/AbstractStringBuilder" 191 ⟨"java/lang/StringLatin1", "canEncode", "(C)Z"⟩) ∈ wd_W := wd_mem 476 (by decide +kernel) (by decide +kernel)
theorem wd_477 : (Cond.static ⟨"java/lang/StringLatin1", "canEncode", "(C)Z"⟩) ∈ wd_W := wd_mem 477 (by decide +kernel) (by decide +kernel)
theorem wd_478 : (Cond.code ⟨"java/lang/StringLatin1", "canEncode", "(C)Z"⟩ prog_12_method_3_code 1 (some FieldType.boolean)) ∈ wd_W := wd_mem 478 (by decide +kernel) (by decide +kernel)
theorem wd_479 : (Cond.methodLink "java/lang/AbstractStringBuilder" 195 ⟨"java/lang/AbstractStringBuilder", "inflate", "()V"⟩) ∈ wd_W := wd_mem 479 (by decide +kernel) (by decide +kernel)
theorem wd_481 : (Cond.instanceMethod ⟨"java/lang/AbstractStringBuilder", "inflate", "()V"⟩) ∈ wd_W := wd_mem 481 (by decide +kernel) (by decide +kernel)
theorem wd_482 : (Cond.code ⟨"java/lang/AbstractStringBuilder", "inflate", "()V"⟩ prog_7_method_11_code 2 none) ∈ wd_W := wd_mem 482 (by decide +kernel) (by decide +kernel)
theorem wd_483 : (Cond.methodLink "java/lang/AbstractStringBuilder" 125 ⟨"java/lang/StringLatin1", "inflate", "([BI[BII)V"⟩) ∈ wd_W := wd_mem 483 (by decide +kernel) (by decide +kernel)
theorem wd_484 : (Cond.static ⟨"java/lang/StringLatin1", "inflate", "([BI[BII)V"⟩) ∈ wd_W := wd_mem 484 (by decide +kernel) (by decide +kernel)
theorem wd_485 : (Cond.code ⟨"java/lang/StringLatin1", "inflate", "([BI[BII)V"⟩ prog_12_method_50_code 5 none) ∈ wd_W := wd_mem 485 (by decide +kernel) (by decide +kernel)
theorem wd_486 : (Cond.methodLink "java/lang/StringLatin1" 240 ⟨"java/lang/StringUTF16", "inflate", "([BI[BII)V"⟩) ∈ wd_W := wd_mem 486 (by decide +kernel) (by decide +kernel)
theorem wd_487 : (Cond.static ⟨"java/lang/StringUTF16", "inflate", "([BI[BII)V"⟩) ∈ wd_W := wd_mem 487 (by decide +kernel) (by decide +kernel)
theorem wd_488 : (Cond.code ⟨"java/lang/StringUTF16", "inflate", "([BI[BII)V"⟩ prog_13_method_86_code 6 none) ∈ wd_W := wd_mem 488 (by decide +kernel) (by decide +kernel)
theorem wd_489 : (Cond.methodLink "java/lang/StringUTF16" 111 ⟨"java/lang/StringUTF16", "putChar", "([BII)V"⟩) ∈ wd_W := wd_mem 489 (by decide +kernel) (by decide +kernel)
theorem wd_490 : (Cond.static ⟨"java/lang/StringUTF16", "putChar", "([BII)V"⟩) ∈ wd_W := wd_mem 490 (by decide +kernel) (by decide +kernel)
theorem wd_491 : (Cond.code ⟨"java/lang/StringUTF16", "putChar", "([BII)V"⟩ prog_13_method_4_code 3 none) ∈ wd_W := wd_mem 491 (by decide +kernel) (by decide +kernel)
theorem wd_492 : (Cond.methodLink "java/lang/AbstractStringBuilder" 197 ⟨"java/lang/StringUTF16", "putCharSB", "([BII)V"⟩) ∈ wd_W := wd_mem 492 (by decide +kernel) (by decide +kernel)
theorem wd_493 : (Cond.static ⟨"java/lang/StringUTF16", "putCharSB", "([BII)V"⟩) ∈ wd_W := wd_mem 493 (by decide +kernel) (by decide +kernel)
theorem wd_494 : (Cond.code ⟨"java/lang/StringUTF16", "putCharSB", "([BII)V"⟩ prog_13_method_71_code 3 none) ∈ wd_W := wd_mem 494 (by decide +kernel) (by decide +kernel)
theorem wd_495 : (Cond.methodLink "java/lang/StringUTF16" 67 ⟨"java/lang/StringUTF16", "checkIndex", "(I[B)V"⟩) ∈ wd_W := wd_mem 495 (by decide +kernel) (by decide +kernel)
theorem wd_496 : (Cond.static ⟨"java/lang/StringUTF16", "checkIndex", "(I[B)V"⟩) ∈ wd_W := wd_mem 496 (by decide +kernel) (by decide +kernel)
theorem wd_497 : (Cond.code ⟨"java/lang/StringUTF16", "checkIndex", "(I[B)V"⟩ prog_13_method_91_code 2 none) ∈ wd_W := wd_mem 497 (by decide +kernel) (by decide +kernel)
theorem wd_498 : (Cond.methodLink "java/lang/StringUTF16" 414 ⟨"java/lang/String", "checkIndex", "(II)V"⟩) ∈ wd_W := wd_mem 498 (by decide +kernel) (by decide +kernel)
theorem wd_499 : (Cond.static ⟨"java/lang/String", "checkIndex", "(II)V"⟩) ∈ wd_W := wd_mem 499 (by decide +kernel) (by decide +kernel)
theorem wd_500 : (Cond.code ⟨"java/lang/String", "checkIndex", "(II)V"⟩ prog_10_method_155_code 2 none) ∈ wd_W := wd_mem 500 (by decide +kernel) (by decide +kernel)
theorem wd_501 : (Cond.methodLink "java/lang/String" 1059 ⟨"jdk/internal/util/Preconditions", "checkIndex", "(IILjava/util/function/BiFunction;)I"⟩) ∈ wd_W := wd_mem 501 (by decide +kernel) (by decide +kernel)
theorem wd_502 : (Cond.static ⟨"jdk/internal/util/Preconditions", "checkIndex", "(IILjava/util/function/BiFunction;)I"⟩) ∈ wd_W := wd_mem 502 (by decide +kernel) (by decide +kernel)
theorem wd_503 : (Cond.code ⟨"jdk/internal/util/Preconditions", "checkIndex", "(IILjava/util/function/BiFunction;)I"⟩ prog_17_method_11_code 3 (some FieldType.int)) ∈ wd_W := wd_mem 503 (by decide +kernel) (by decide +kernel)
theorem wd_504 : (Cond.methodLink "GraphWriter" 206 ⟨"java/lang/StringBuilder", "toString", "()Ljava/lang/String;"⟩) ∈ wd_W := wd_mem 504 (by decide +kernel) (by decide +kernel)
theorem wd_505 : (Cond.instanceMethod ⟨"java/lang/StringBuilder", "toString", "()Ljava/lang/String;"⟩) ∈ wd_W := wd_mem 505 (by decide +kernel) (by decide +kernel)
theorem wd_506 : (Cond.selects "java/lang/StringBuilder" ⟨"java/lang/StringBuilder", "toString", "()Ljava/lang/String;"⟩ ⟨"java/lang/StringBuilder", "toString", "()Ljava/lang/String;"⟩) ∈ wd_W := wd_mem 506 (by decide +kernel) (by decide +kernel)
theorem wd_507 : (Cond.code ⟨"java/lang/StringBuilder", "toString", "()Ljava/lang/String;"⟩ prog_11_method_42_code 1 (some (FieldType.object "java/lang/String"))) ∈ wd_W := wd_mem 507 (by decide +kernel) (by decide +kernel)
theorem wd_508 : (Cond.classLink "java/lang/StringBuilder" 18 "java/lang/String") ∈ wd_W := wd_mem 508 (by decide +kernel) (by decide +kernel)
theorem wd_509 : (Cond.methodLink "java/lang/StringBuilder" 137 ⟨"java/lang/String", "<init>", "(Ljava/lang/StringBuilder;)V"⟩) ∈ wd_W := wd_mem 509 (by decide +kernel) (by decide +kernel)
theorem wd_510 : (Cond.instanceMethod ⟨"java/lang/String", "<init>", "(Ljava/lang/StringBuilder;)V"⟩) ∈ wd_W := wd_mem 510 (by decide +kernel) (by decide +kernel)
theorem wd_511 : (Cond.code ⟨"java/lang/String", "<init>", "(Ljava/lang/StringBuilder;)V"⟩ prog_10_method_53_code 2 none) ∈ wd_W := wd_mem 511 (by decide +kernel) (by decide +kernel)
theorem wd_512 : (Cond.methodLink "java/lang/String" 489 ⟨"java/lang/String", "<init>", "(Ljava/lang/AbstractStringBuilder;Ljava/lang/Void;)V"⟩) ∈ wd_W := wd_mem 512 (by decide +kernel) (by decide +kernel)
theorem wd_513 : (Cond.instanceMethod ⟨"java/lang/String", "<init>", "(Ljava/lang/AbstractStringBuilder;Ljava/lang/Void;)V"⟩) ∈ wd_W := wd_mem 513 (by decide +kernel) (by decide +kernel)
theorem wd_514 : (Cond.code ⟨"java/lang/String", "<init>", "(Ljava/lang/AbstractStringBuilder;Ljava/lang/Void;)V"⟩ prog_10_method_150_code 5 none) ∈ wd_W := wd_mem 514 (by decide +kernel) (by decide +kernel)
theorem wd_515 : (Cond.methodLink "java/lang/String" 552 ⟨"java/lang/AbstractStringBuilder", "getValue", "()[B"⟩) ∈ wd_W := wd_mem 515 (by decide +kernel) (by decide +kernel)
theorem wd_516 : (Cond.instanceMethod ⟨"java/lang/AbstractStringBuilder", "getValue", "()[B"⟩) ∈ wd_W := wd_mem 516 (by decide +kernel) (by decide +kernel)
theorem wd_517 : (Cond.sameMethod "java/lang/AbstractStringBuilder" "java/lang/AbstractStringBuilder" "getValue" "()[B") ∈ wd_W := wd_mem 517 (by decide +kernel) (by decide +kernel)
theorem wd_518 : (Cond.selects "java/lang/StringBuilder" ⟨"java/lang/AbstractStringBuilder", "getValue", "()[B"⟩ ⟨"java/lang/AbstractStringBuilder", "getValue", "()[B"⟩) ∈ wd_W := wd_mem 518 (by decide +kernel) (by decide +kernel)
theorem wd_519 : (Cond.code ⟨"java/lang/AbstractStringBuilder", "getValue", "()[B"⟩ prog_7_method_64_code 1 (some (FieldType.array FieldType.byte))) ∈ wd_W := wd_mem 519 (by decide +kernel) (by decide +kernel)
theorem wd_520 : (Cond.methodLink "java/lang/String" 549 ⟨"java/lang/AbstractStringBuilder", "length", "()I"⟩) ∈ wd_W := wd_mem 520 (by decide +kernel) (by decide +kernel)
theorem wd_521 : (Cond.instanceMethod ⟨"java/lang/AbstractStringBuilder", "length", "()I"⟩) ∈ wd_W := wd_mem 521 (by decide +kernel) (by decide +kernel)
theorem wd_522 : (Cond.sameMethod "java/lang/AbstractStringBuilder" "java/lang/AbstractStringBuilder" "length" "()I") ∈ wd_W := wd_mem 522 (by decide +kernel) (by decide +kernel)
theorem wd_523 : (Cond.selects "java/lang/StringBuilder" ⟨"java/lang/AbstractStringBuilder", "length", "()I"⟩ ⟨"java/lang/StringBuilder", "length", "()I"⟩) ∈ wd_W := wd_mem 523 (by decide +kernel) (by decide +kernel)
theorem wd_524 : (Cond.instanceMethod ⟨"java/lang/StringBuilder", "length", "()I"⟩) ∈ wd_W := wd_mem 524 (by decide +kernel) (by decide +kernel)
theorem wd_525 : (Cond.code ⟨"java/lang/StringBuilder", "length", "()I"⟩ prog_11_method_93_code 1 (some FieldType.int)) ∈ wd_W := wd_mem 525 (by decide +kernel) (by decide +kernel)
theorem wd_526 : (Cond.methodLink "java/lang/StringBuilder" 343 ⟨"java/lang/AbstractStringBuilder", "length", "()I"⟩) ∈ wd_W := wd_mem 526 (by decide +kernel) (by decide +kernel)
theorem wd_527 : (Cond.code ⟨"java/lang/AbstractStringBuilder", "length", "()I"⟩ prog_7_method_6_code 1 (some FieldType.int)) ∈ wd_W := wd_mem 527 (by decide +kernel) (by decide +kernel)
theorem wd_528 : (Cond.methodLink "java/lang/String" 1047 ⟨"java/lang/AbstractStringBuilder", "isLatin1", "()Z"⟩) ∈ wd_W := wd_mem 528 (by decide +kernel) (by decide +kernel)
theorem wd_529 : (Cond.methodLink "java/lang/String" 54 ⟨"java/util/Arrays", "copyOfRange", "([BII)[B"⟩) ∈ wd_W := wd_mem 529 (by decide +kernel) (by decide +kernel)
theorem wd_530 : (Cond.methodLink "java/lang/String" 1051 ⟨"java/lang/StringUTF16", "compress", "([BII)[B"⟩) ∈ wd_W := wd_mem 530 (by decide +kernel) (by decide +kernel)
theorem wd_531 : (Cond.methodLink "java/lang/String" 47 ⟨"java/lang/StringUTF16", "coderFromArrayLen", "([BI)B"⟩) ∈ wd_W := wd_mem 531 (by decide +kernel) (by decide +kernel)
theorem wd_532 : (Cond.methodLink "GraphWriterLaw" 35 ⟨"GraphWriter", "array", "(ZI)I"⟩) ∈ wd_W := wd_mem 532 (by decide +kernel) (by decide +kernel)
theorem wd_533 : (Cond.instanceMethod ⟨"GraphWriter", "array", "(ZI)I"⟩) ∈ wd_W := wd_mem 533 (by decide +kernel) (by decide +kernel)
theorem wd_534 : (Cond.selects "GraphWriter" ⟨"GraphWriter", "array", "(ZI)I"⟩ ⟨"GraphWriter", "array", "(ZI)I"⟩) ∈ wd_W := wd_mem 534 (by decide +kernel) (by decide +kernel)
theorem wd_535 : (Cond.code ⟨"GraphWriter", "array", "(ZI)I"⟩ prog_1_method_6_code 4 (some FieldType.int)) ∈ wd_W := wd_mem 535 (by decide +kernel) (by decide +kernel)
theorem wd_536 : (Cond.methodLink "GraphWriter" 96 ⟨"java/util/Arrays", "fill", "([II)V"⟩) ∈ wd_W := wd_mem 536 (by decide +kernel) (by decide +kernel)
theorem wd_537 : (Cond.methodLink "GraphWriterLaw" 40 ⟨"GraphWriter", "constant", "(II)I"⟩) ∈ wd_W := wd_mem 537 (by decide +kernel) (by decide +kernel)
theorem wd_538 : (Cond.instanceMethod ⟨"GraphWriter", "constant", "(II)I"⟩) ∈ wd_W := wd_mem 538 (by decide +kernel) (by decide +kernel)
theorem wd_539 : (Cond.selects "GraphWriter" ⟨"GraphWriter", "constant", "(II)I"⟩ ⟨"GraphWriter", "constant", "(II)I"⟩) ∈ wd_W := wd_mem 539 (by decide +kernel) (by decide +kernel)
theorem wd_540 : (Cond.code ⟨"GraphWriter", "constant", "(II)I"⟩ prog_1_method_7_code 4 (some FieldType.int)) ∈ wd_W := wd_mem 540 (by decide +kernel) (by decide +kernel)
theorem wd_542 : (Cond.methodLink "GraphWriter" 104 ⟨"java/lang/String", "substring", "(II)Ljava/lang/String;"⟩) ∈ wd_W := wd_mem 542 (by decide +kernel) (by decide +kernel)
theorem wd_543 : (Cond.methodLink "GraphWriterLaw" 45 ⟨"GraphWriter", "set", "(IIJ)I"⟩) ∈ wd_W := wd_mem 543 (by decide +kernel) (by decide +kernel)
theorem wd_544 : (Cond.instanceMethod ⟨"GraphWriter", "set", "(IIJ)I"⟩) ∈ wd_W := wd_mem 544 (by decide +kernel) (by decide +kernel)
theorem wd_545 : (Cond.selects "GraphWriter" ⟨"GraphWriter", "set", "(IIJ)I"⟩ ⟨"GraphWriter", "set", "(IIJ)I"⟩) ∈ wd_W := wd_mem 545 (by decide +kernel) (by decide +kernel)
theorem wd_546 : (Cond.code ⟨"GraphWriter", "set", "(IIJ)I"⟩ prog_1_method_8_code 6 (some FieldType.int)) ∈ wd_W := wd_mem 546 (by decide +kernel) (by decide +kernel)
theorem wd_547 : (Cond.methodLink "GraphWriter" 110 ⟨"GraphWriter", "isMade", "(I)Z"⟩) ∈ wd_W := wd_mem 547 (by decide +kernel) (by decide +kernel)
theorem wd_549 : (Cond.instanceMethod ⟨"GraphWriter", "isMade", "(I)Z"⟩) ∈ wd_W := wd_mem 549 (by decide +kernel) (by decide +kernel)
theorem wd_550 : (Cond.code ⟨"GraphWriter", "isMade", "(I)Z"⟩ prog_1_method_19_code 2 (some FieldType.boolean)) ∈ wd_W := wd_mem 550 (by decide +kernel) (by decide +kernel)
theorem wd_551 : (Cond.methodLink "GraphWriter" 116 ⟨"GraphWriter", "mayBeHeld", "(JI)Z"⟩) ∈ wd_W := wd_mem 551 (by decide +kernel) (by decide +kernel)
theorem wd_553 : (Cond.instanceMethod ⟨"GraphWriter", "mayBeHeld", "(JI)Z"⟩) ∈ wd_W := wd_mem 553 (by decide +kernel) (by decide +kernel)
theorem wd_554 : (Cond.code ⟨"GraphWriter", "mayBeHeld", "(JI)Z"⟩ prog_1_method_27_code 4 (some FieldType.boolean)) ∈ wd_W := wd_mem 554 (by decide +kernel) (by decide +kernel)
theorem wd_555 : (Cond.constantLong "GraphWriter" 210 (-1 : Int64)) ∈ wd_W := wd_mem 555 (by decide +kernel) (by decide +kernel)
theorem wd_556 : (Cond.methodLink "GraphWriterLaw" 50 ⟨"GraphWriter", "replace", "(II)I"⟩) ∈ wd_W := wd_mem 556 (by decide +kernel) (by decide +kernel)
theorem wd_557 : (Cond.instanceMethod ⟨"GraphWriter", "replace", "(II)I"⟩) ∈ wd_W := wd_mem 557 (by decide +kernel) (by decide +kernel)
theorem wd_558 : (Cond.selects "GraphWriter" ⟨"GraphWriter", "replace", "(II)I"⟩ ⟨"GraphWriter", "replace", "(II)I"⟩) ∈ wd_W := wd_mem 558 (by decide +kernel) (by decide +kernel)
theorem wd_559 : (Cond.code ⟨"GraphWriter", "replace", "(II)I"⟩ prog_1_method_9_code 3 (some FieldType.int)) ∈ wd_W := wd_mem 559 (by decide +kernel) (by decide +kernel)
theorem wd_560 : (Cond.methodLink "GraphWriter" 124 ⟨"GraphWriter", "isInstance", "(I)Z"⟩) ∈ wd_W := wd_mem 560 (by decide +kernel) (by decide +kernel)
theorem wd_562 : (Cond.instanceMethod ⟨"GraphWriter", "isInstance", "(I)Z"⟩) ∈ wd_W := wd_mem 562 (by decide +kernel) (by decide +kernel)
theorem wd_563 : (Cond.code ⟨"GraphWriter", "isInstance", "(I)Z"⟩ prog_1_method_20_code 2 (some FieldType.boolean)) ∈ wd_W := wd_mem 563 (by decide +kernel) (by decide +kernel)
theorem wd_564 : (Cond.methodLink "GraphWriterLaw" 54 ⟨"GraphWriter", "extra", "(II)I"⟩) ∈ wd_W := wd_mem 564 (by decide +kernel) (by decide +kernel)
theorem wd_565 : (Cond.instanceMethod ⟨"GraphWriter", "extra", "(II)I"⟩) ∈ wd_W := wd_mem 565 (by decide +kernel) (by decide +kernel)
theorem wd_566 : (Cond.selects "GraphWriter" ⟨"GraphWriter", "extra", "(II)I"⟩ ⟨"GraphWriter", "extra", "(II)I"⟩) ∈ wd_W := wd_mem 566 (by decide +kernel) (by decide +kernel)
theorem wd_567 : (Cond.code ⟨"GraphWriter", "extra", "(II)I"⟩ prog_1_method_10_code 3 (some FieldType.int)) ∈ wd_W := wd_mem 567 (by decide +kernel) (by decide +kernel)
theorem wd_568 : (Cond.methodLink "GraphWriterLaw" 58 ⟨"GraphWriter", "data", "(JI)I"⟩) ∈ wd_W := wd_mem 568 (by decide +kernel) (by decide +kernel)
theorem wd_569 : (Cond.instanceMethod ⟨"GraphWriter", "data", "(JI)I"⟩) ∈ wd_W := wd_mem 569 (by decide +kernel) (by decide +kernel)
theorem wd_570 : (Cond.selects "GraphWriter" ⟨"GraphWriter", "data", "(JI)I"⟩ ⟨"GraphWriter", "data", "(JI)I"⟩) ∈ wd_W := wd_mem 570 (by decide +kernel) (by decide +kernel)
theorem wd_571 : (Cond.code ⟨"GraphWriter", "data", "(JI)I"⟩ prog_1_method_11_code 4 (some FieldType.int)) ∈ wd_W := wd_mem 571 (by decide +kernel) (by decide +kernel)
theorem wd_572 : (Cond.methodLink "GraphWriter" 133 ⟨"GraphWriter$Out", "hasRoomToWait", "(I)Z"⟩) ∈ wd_W := wd_mem 572 (by decide +kernel) (by decide +kernel)
theorem wd_573 : (Cond.instanceMethod ⟨"GraphWriter$Out", "hasRoomToWait", "(I)Z"⟩) ∈ wd_W := wd_mem 573 (by decide +kernel) (by decide +kernel)
theorem wd_574 : (Cond.selects "GraphWriter$Out" ⟨"GraphWriter$Out", "hasRoomToWait", "(I)Z"⟩ ⟨"GraphWriter$Out", "hasRoomToWait", "(I)Z"⟩) ∈ wd_W := wd_mem 574 (by decide +kernel) (by decide +kernel)
theorem wd_575 : (Cond.code ⟨"GraphWriter$Out", "hasRoomToWait", "(I)Z"⟩ prog_3_method_15_code 3 (some FieldType.boolean)) ∈ wd_W := wd_mem 575 (by decide +kernel) (by decide +kernel)
theorem wd_576 : (Cond.methodLink "GraphWriter" 136 ⟨"GraphWriter$Out", "letWait", "(JI)V"⟩) ∈ wd_W := wd_mem 576 (by decide +kernel) (by decide +kernel)
theorem wd_577 : (Cond.instanceMethod ⟨"GraphWriter$Out", "letWait", "(JI)V"⟩) ∈ wd_W := wd_mem 577 (by decide +kernel) (by decide +kernel)
theorem wd_578 : (Cond.selects "GraphWriter$Out" ⟨"GraphWriter$Out", "letWait", "(JI)V"⟩ ⟨"GraphWriter$Out", "letWait", "(JI)V"⟩) ∈ wd_W := wd_mem 578 (by decide +kernel) (by decide +kernel)
theorem wd_579 : (Cond.code ⟨"GraphWriter$Out", "letWait", "(JI)V"⟩ prog_3_method_16_code 5 none) ∈ wd_W := wd_mem 579 (by decide +kernel) (by decide +kernel)
theorem wd_580 : (Cond.methodLink "GraphWriter$Out" 105 ⟨"GraphWriter$Out", "flush", "()V"⟩) ∈ wd_W := wd_mem 580 (by decide +kernel) (by decide +kernel)
theorem wd_581 : (Cond.instanceMethod ⟨"GraphWriter$Out", "flush", "()V"⟩) ∈ wd_W := wd_mem 581 (by decide +kernel) (by decide +kernel)
theorem wd_582 : (Cond.selects "GraphWriter$Out" ⟨"GraphWriter$Out", "flush", "()V"⟩ ⟨"GraphWriter$Out", "flush", "()V"⟩) ∈ wd_W := wd_mem 582 (by decide +kernel) (by decide +kernel)
theorem wd_583 : (Cond.code ⟨"GraphWriter$Out", "flush", "()V"⟩ prog_3_method_17_code 2 none) ∈ wd_W := wd_mem 583 (by decide +kernel) (by decide +kernel)
theorem wd_584 : (Cond.constantLong "GraphWriter$Out" 108 (119 : Int64)) ∈ wd_W := wd_mem 584 (by decide +kernel) (by decide +kernel)
theorem wd_585 : (Cond.methodLink "GraphWriter$Out" 64 ⟨"GraphWriter$Out", "put", "(JI)V"⟩) ∈ wd_W := wd_mem 585 (by decide +kernel) (by decide +kernel)
theorem wd_586 : (Cond.methodLink "GraphWriterLaw" 63 ⟨"GraphWriter", "write", "(IZ)I"⟩) ∈ wd_W := wd_mem 586 (by decide +kernel) (by decide +kernel)
theorem wd_587 : (Cond.instanceMethod ⟨"GraphWriter", "write", "(IZ)I"⟩) ∈ wd_W := wd_mem 587 (by decide +kernel) (by decide +kernel)
theorem wd_588 : (Cond.selects "GraphWriter" ⟨"GraphWriter", "write", "(IZ)I"⟩ ⟨"GraphWriter", "write", "(IZ)I"⟩) ∈ wd_W := wd_mem 588 (by decide +kernel) (by decide +kernel)
theorem wd_589 : (Cond.code ⟨"GraphWriter", "write", "(IZ)I"⟩ prog_1_method_12_code 3 (some FieldType.int)) ∈ wd_W := wd_mem 589 (by decide +kernel) (by decide +kernel)
theorem wd_590 : (Cond.methodLink "GraphWriter" 142 ⟨"GraphWriter$Out", "begin", "()V"⟩) ∈ wd_W := wd_mem 590 (by decide +kernel) (by decide +kernel)
theorem wd_591 : (Cond.instanceMethod ⟨"GraphWriter$Out", "begin", "()V"⟩) ∈ wd_W := wd_mem 591 (by decide +kernel) (by decide +kernel)
theorem wd_592 : (Cond.selects "GraphWriter$Out" ⟨"GraphWriter$Out", "begin", "()V"⟩ ⟨"GraphWriter$Out", "begin", "()V"⟩) ∈ wd_W := wd_mem 592 (by decide +kernel) (by decide +kernel)
theorem wd_593 : (Cond.code ⟨"GraphWriter$Out", "begin", "()V"⟩ prog_3_method_2_code 1 none) ∈ wd_W := wd_mem 593 (by decide +kernel) (by decide +kernel)
theorem wd_594 : (Cond.methodLink "GraphWriter$Out" 29 ⟨"java/lang/System", "arraycopy", "(Ljava/lang/Object;ILjava/lang/Object;II)V"⟩) ∈ wd_W := wd_mem 594 (by decide +kernel) (by decide +kernel)
theorem wd_595 : (Cond.methodLink "GraphWriter" 145 ⟨"GraphWriter$Out", "flush", "()V"⟩) ∈ wd_W := wd_mem 595 (by decide +kernel) (by decide +kernel)
theorem wd_596 : (Cond.methodLink "GraphWriter" 148 ⟨"GraphWriter", "writeObject", "(IZI)V"⟩) ∈ wd_W := wd_mem 596 (by decide +kernel) (by decide +kernel)
theorem wd_598 : (Cond.instanceMethod ⟨"GraphWriter", "writeObject", "(IZI)V"⟩) ∈ wd_W := wd_mem 598 (by decide +kernel) (by decide +kernel)
theorem wd_599 : (Cond.code ⟨"GraphWriter", "writeObject", "(IZI)V"⟩ prog_1_method_28_code 5 none) ∈ wd_W := wd_mem 599 (by decide +kernel) (by decide +kernel)
theorem wd_600 : (Cond.constantLong "GraphWriter" 215 (112 : Int64)) ∈ wd_W := wd_mem 600 (by decide +kernel) (by decide +kernel)
theorem wd_601 : (Cond.methodLink "GraphWriter" 217 ⟨"GraphWriter", "replaced", "(I)I"⟩) ∈ wd_W := wd_mem 601 (by decide +kernel) (by decide +kernel)
theorem wd_603 : (Cond.instanceMethod ⟨"GraphWriter", "replaced", "(I)I"⟩) ∈ wd_W := wd_mem 603 (by decide +kernel) (by decide +kernel)
theorem wd_604 : (Cond.code ⟨"GraphWriter", "replaced", "(I)I"⟩ prog_1_method_29_code 6 (some FieldType.int)) ∈ wd_W := wd_mem 604 (by decide +kernel) (by decide +kernel)
theorem wd_605 : (Cond.methodLink "GraphWriter" 221 ⟨"GraphWriter$Out", "putReference", "(I)Z"⟩) ∈ wd_W := wd_mem 605 (by decide +kernel) (by decide +kernel)
theorem wd_606 : (Cond.instanceMethod ⟨"GraphWriter$Out", "putReference", "(I)Z"⟩) ∈ wd_W := wd_mem 606 (by decide +kernel) (by decide +kernel)
theorem wd_607 : (Cond.selects "GraphWriter$Out" ⟨"GraphWriter$Out", "putReference", "(I)Z"⟩ ⟨"GraphWriter$Out", "putReference", "(I)Z"⟩) ∈ wd_W := wd_mem 607 (by decide +kernel) (by decide +kernel)
theorem wd_608 : (Cond.code ⟨"GraphWriter$Out", "putReference", "(I)Z"⟩ prog_3_method_10_code 2 (some FieldType.boolean)) ∈ wd_W := wd_mem 608 (by decide +kernel) (by decide +kernel)
theorem wd_609 : (Cond.constantLong "GraphWriter$Out" 78 (113 : Int64)) ∈ wd_W := wd_mem 609 (by decide +kernel) (by decide +kernel)
theorem wd_610 : (Cond.constant "GraphWriter$Out" 80 (8257536 : Int32)) ∈ wd_W := wd_mem 610 (by decide +kernel) (by decide +kernel)
theorem wd_611 : (Cond.methodLink "GraphWriter" 224 ⟨"GraphWriter$Out", "putText", "(ILjava/lang/String;)V"⟩) ∈ wd_W := wd_mem 611 (by decide +kernel) (by decide +kernel)
theorem wd_612 : (Cond.instanceMethod ⟨"GraphWriter$Out", "putText", "(ILjava/lang/String;)V"⟩) ∈ wd_W := wd_mem 612 (by decide +kernel) (by decide +kernel)
theorem wd_613 : (Cond.selects "GraphWriter$Out" ⟨"GraphWriter$Out", "putText", "(ILjava/lang/String;)V"⟩ ⟨"GraphWriter$Out", "putText", "(ILjava/lang/String;)V"⟩) ∈ wd_W := wd_mem 613 (by decide +kernel) (by decide +kernel)
theorem wd_614 : (Cond.code ⟨"GraphWriter$Out", "putText", "(ILjava/lang/String;)V"⟩ prog_3_method_11_code 3 none) ∈ wd_W := wd_mem 614 (by decide +kernel) (by decide +kernel)
theorem wd_615 : (Cond.constantLong "GraphWriter$Out" 81 (116 : Int64)) ∈ wd_W := wd_mem 615 (by decide +kernel) (by decide +kernel)
theorem wd_616 : (Cond.methodLink "GraphWriter$Out" 83 ⟨"GraphWriter$Out", "giveHandle", "(I)V"⟩) ∈ wd_W := wd_mem 616 (by decide +kernel) (by decide +kernel)
theorem wd_617 : (Cond.instanceMethod ⟨"GraphWriter$Out", "giveHandle", "(I)V"⟩) ∈ wd_W := wd_mem 617 (by decide +kernel) (by decide +kernel)
theorem wd_618 : (Cond.selects "GraphWriter$Out" ⟨"GraphWriter$Out", "giveHandle", "(I)V"⟩ ⟨"GraphWriter$Out", "giveHandle", "(I)V"⟩) ∈ wd_W := wd_mem 618 (by decide +kernel) (by decide +kernel)
theorem wd_619 : (Cond.code ⟨"GraphWriter$Out", "giveHandle", "(I)V"⟩ prog_3_method_8_code 2 none) ∈ wd_W := wd_mem 619 (by decide +kernel) (by decide +kernel)
theorem wd_620 : (Cond.methodLink "GraphWriter$Out" 87 ⟨"GraphWriter$Out", "putUtf", "(Ljava/lang/String;)V"⟩) ∈ wd_W := wd_mem 620 (by decide +kernel) (by decide +kernel)
theorem wd_621 : (Cond.instanceMethod ⟨"GraphWriter$Out", "putUtf", "(Ljava/lang/String;)V"⟩) ∈ wd_W := wd_mem 621 (by decide +kernel) (by decide +kernel)
theorem wd_622 : (Cond.selects "GraphWriter$Out" ⟨"GraphWriter$Out", "putUtf", "(Ljava/lang/String;)V"⟩ ⟨"GraphWriter$Out", "putUtf", "(Ljava/lang/String;)V"⟩) ∈ wd_W := wd_mem 622 (by decide +kernel) (by decide +kernel)
theorem wd_623 : (Cond.code ⟨"GraphWriter$Out", "putUtf", "(Ljava/lang/String;)V"⟩ prog_3_method_6_code 3 none) ∈ wd_W := wd_mem 623 (by decide +kernel) (by decide +kernel)
theorem wd_624 : (Cond.methodLink "GraphWriter$Out" 59 ⟨"java/lang/String", "length", "()I"⟩) ∈ wd_W := wd_mem 624 (by decide +kernel) (by decide +kernel)
theorem wd_625 : (Cond.methodLink "GraphWriter$Out" 68 ⟨"java/lang/String", "charAt", "(I)C"⟩) ∈ wd_W := wd_mem 625 (by decide +kernel) (by decide +kernel)
theorem wd_626 : (Cond.instanceMethod ⟨"java/lang/String", "charAt", "(I)C"⟩) ∈ wd_W := wd_mem 626 (by decide +kernel) (by decide +kernel)
theorem wd_627 : (Cond.selects "java/lang/String" ⟨"java/lang/String", "charAt", "(I)C"⟩ ⟨"java/lang/String", "charAt", "(I)C"⟩) ∈ wd_W := wd_mem 627 (by decide +kernel) (by decide +kernel)
theorem wd_628 : (Cond.code ⟨"java/lang/String", "charAt", "(I)C"⟩ prog_10_method_56_code 2 (some FieldType.char)) ∈ wd_W := wd_mem 628 (by decide +kernel) (by decide +kernel)
theorem wd_629 : (Cond.methodLink "java/lang/String" 495 ⟨"java/lang/StringLatin1", "charAt", "([BI)C"⟩) ∈ wd_W := wd_mem 629 (by decide +kernel) (by decide +kernel)
theorem wd_630 : (Cond.static ⟨"java/lang/StringLatin1", "charAt", "([BI)C"⟩) ∈ wd_W := wd_mem 630 (by decide +kernel) (by decide +kernel)
theorem wd_631 : (Cond.code ⟨"java/lang/StringLatin1", "charAt", "([BI)C"⟩ prog_12_method_2_code 2 (some FieldType.char)) ∈ wd_W := wd_mem 631 (by decide +kernel) (by decide +kernel)
theorem wd_632 : (Cond.methodLink "java/lang/StringLatin1" 9 ⟨"java/lang/String", "checkIndex", "(II)V"⟩) ∈ wd_W := wd_mem 632 (by decide +kernel) (by decide +kernel)
theorem wd_633 : (Cond.methodLink "java/lang/String" 498 ⟨"java/lang/StringUTF16", "charAt", "([BI)C"⟩) ∈ wd_W := wd_mem 633 (by decide +kernel) (by decide +kernel)
theorem wd_634 : (Cond.static ⟨"java/lang/StringUTF16", "charAt", "([BI)C"⟩) ∈ wd_W := wd_mem 634 (by decide +kernel) (by decide +kernel)
theorem wd_635 : (Cond.code ⟨"java/lang/StringUTF16", "charAt", "([BI)C"⟩ prog_13_method_83_code 2 (some FieldType.char)) ∈ wd_W := wd_mem 635 (by decide +kernel) (by decide +kernel)
theorem wd_636 : (Cond.methodLink "GraphWriter" 228 ⟨"GraphWriter", "writeInts", "(I)V"⟩) ∈ wd_W := wd_mem 636 (by decide +kernel) (by decide +kernel)
theorem wd_638 : (Cond.instanceMethod ⟨"GraphWriter", "writeInts", "(I)V"⟩) ∈ wd_W := wd_mem 638 (by decide +kernel) (by decide +kernel)
theorem wd_639 : (Cond.code ⟨"GraphWriter", "writeInts", "(I)V"⟩ prog_1_method_30_code 4 none) ∈ wd_W := wd_mem 639 (by decide +kernel) (by decide +kernel)
theorem wd_640 : (Cond.constantLong "GraphWriter" 242 (117 : Int64)) ∈ wd_W := wd_mem 640 (by decide +kernel) (by decide +kernel)
theorem wd_642 : (Cond.constantLong "GraphWriter" 245 (5600894804908749477 : Int64)) ∈ wd_W := wd_mem 642 (by decide +kernel) (by decide +kernel)
theorem wd_643 : (Cond.methodLink "GraphWriter" 247 ⟨"GraphWriter$Out", "openDescriptor", "(ILjava/lang/String;JII)Z"⟩) ∈ wd_W := wd_mem 643 (by decide +kernel) (by decide +kernel)
theorem wd_644 : (Cond.instanceMethod ⟨"GraphWriter$Out", "openDescriptor", "(ILjava/lang/String;JII)Z"⟩) ∈ wd_W := wd_mem 644 (by decide +kernel) (by decide +kernel)
theorem wd_645 : (Cond.selects "GraphWriter$Out" ⟨"GraphWriter$Out", "openDescriptor", "(ILjava/lang/String;JII)Z"⟩ ⟨"GraphWriter$Out", "openDescriptor", "(ILjava/lang/String;JII)Z"⟩) ∈ wd_W := wd_mem 645 (by decide +kernel) (by decide +kernel)
theorem wd_646 : (Cond.code ⟨"GraphWriter$Out", "openDescriptor", "(ILjava/lang/String;JII)Z"⟩ prog_3_method_12_code 7 (some FieldType.boolean)) ∈ wd_W := wd_mem 646 (by decide +kernel) (by decide +kernel)
theorem wd_647 : (Cond.methodLink "GraphWriter$Out" 91 ⟨"GraphWriter$Out", "putReference", "(I)Z"⟩) ∈ wd_W := wd_mem 647 (by decide +kernel) (by decide +kernel)
theorem wd_648 : (Cond.constantLong "GraphWriter$Out" 95 (114 : Int64)) ∈ wd_W := wd_mem 648 (by decide +kernel) (by decide +kernel)
theorem wd_649 : (Cond.methodLink "GraphWriter" 251 ⟨"GraphWriter$Out", "closeTopDescriptor", "()V"⟩) ∈ wd_W := wd_mem 649 (by decide +kernel) (by decide +kernel)
theorem wd_650 : (Cond.instanceMethod ⟨"GraphWriter$Out", "closeTopDescriptor", "()V"⟩) ∈ wd_W := wd_mem 650 (by decide +kernel) (by decide +kernel)
theorem wd_651 : (Cond.selects "GraphWriter$Out" ⟨"GraphWriter$Out", "closeTopDescriptor", "()V"⟩ ⟨"GraphWriter$Out", "closeTopDescriptor", "()V"⟩) ∈ wd_W := wd_mem 651 (by decide +kernel) (by decide +kernel)
theorem wd_652 : (Cond.code ⟨"GraphWriter$Out", "closeTopDescriptor", "()V"⟩ prog_3_method_13_code 1 none) ∈ wd_W := wd_mem 652 (by decide +kernel) (by decide +kernel)
theorem wd_653 : (Cond.constantLong "GraphWriter$Out" 97 (120 : Int64)) ∈ wd_W := wd_mem 653 (by decide +kernel) (by decide +kernel)
theorem wd_654 : (Cond.constantLong "GraphWriter$Out" 99 (112 : Int64)) ∈ wd_W := wd_mem 654 (by decide +kernel) (by decide +kernel)
theorem wd_655 : (Cond.methodLink "GraphWriter" 254 ⟨"GraphWriter$Out", "giveHandle", "(I)V"⟩) ∈ wd_W := wd_mem 655 (by decide +kernel) (by decide +kernel)
theorem wd_656 : (Cond.methodLink "GraphWriter" 232 ⟨"GraphWriter", "writeRefs", "(II)V"⟩) ∈ wd_W := wd_mem 656 (by decide +kernel) (by decide +kernel)
theorem wd_658 : (Cond.instanceMethod ⟨"GraphWriter", "writeRefs", "(II)V"⟩) ∈ wd_W := wd_mem 658 (by decide +kernel) (by decide +kernel)
theorem wd_659 : (Cond.code ⟨"GraphWriter", "writeRefs", "(II)V"⟩ prog_1_method_31_code 5 none) ∈ wd_W := wd_mem 659 (by decide +kernel) (by decide +kernel)
theorem wd_661 : (Cond.constantLong "GraphWriter" 259 (-8012369246846506644 : Int64)) ∈ wd_W := wd_mem 661 (by decide +kernel) (by decide +kernel)
theorem wd_662 : (Cond.methodLink "GraphWriter" 236 ⟨"GraphWriter", "writeConstant", "(I)V"⟩) ∈ wd_W := wd_mem 662 (by decide +kernel) (by decide +kernel)
theorem wd_664 : (Cond.instanceMethod ⟨"GraphWriter", "writeConstant", "(I)V"⟩) ∈ wd_W := wd_mem 664 (by decide +kernel) (by decide +kernel)
theorem wd_665 : (Cond.code ⟨"GraphWriter", "writeConstant", "(I)V"⟩ prog_1_method_32_code 3 none) ∈ wd_W := wd_mem 665 (by decide +kernel) (by decide +kernel)
theorem wd_666 : (Cond.constantLong "GraphWriter" 261 (126 : Int64)) ∈ wd_W := wd_mem 666 (by decide +kernel) (by decide +kernel)
theorem wd_667 : (Cond.methodLink "GraphWriter" 263 ⟨"GraphWriter", "writeDescriptor", "(LGraphWriter$Defined;)V"⟩) ∈ wd_W := wd_mem 667 (by decide +kernel) (by decide +kernel)
theorem wd_669 : (Cond.instanceMethod ⟨"GraphWriter", "writeDescriptor", "(LGraphWriter$Defined;)V"⟩) ∈ wd_W := wd_mem 669 (by decide +kernel) (by decide +kernel)
theorem wd_670 : (Cond.code ⟨"GraphWriter", "writeDescriptor", "(LGraphWriter$Defined;)V"⟩ prog_1_method_35_code 6 none) ∈ wd_W := wd_mem 670 (by decide +kernel) (by decide +kernel)
theorem wd_671 : (Cond.methodLink "GraphWriter" 302 ⟨"GraphWriter$Defined", "flags", "()I"⟩) ∈ wd_W := wd_mem 671 (by decide +kernel) (by decide +kernel)
theorem wd_672 : (Cond.instanceMethod ⟨"GraphWriter$Defined", "flags", "()I"⟩) ∈ wd_W := wd_mem 672 (by decide +kernel) (by decide +kernel)
theorem wd_673 : (Cond.selects "GraphWriter$Defined" ⟨"GraphWriter$Defined", "flags", "()I"⟩ ⟨"GraphWriter$Defined", "flags", "()I"⟩) ∈ wd_W := wd_mem 673 (by decide +kernel) (by decide +kernel)
theorem wd_674 : (Cond.code ⟨"GraphWriter$Defined", "flags", "()I"⟩ prog_2_method_2_code 1 (some FieldType.int)) ∈ wd_W := wd_mem 674 (by decide +kernel) (by decide +kernel)
theorem wd_676 : (Cond.methodLink "GraphWriter" 307 ⟨"java/lang/String", "charAt", "(I)C"⟩) ∈ wd_W := wd_mem 676 (by decide +kernel) (by decide +kernel)
theorem wd_677 : (Cond.methodLink "GraphWriter" 314 ⟨"GraphWriter$Out", "putSign", "(C)V"⟩) ∈ wd_W := wd_mem 677 (by decide +kernel) (by decide +kernel)
theorem wd_678 : (Cond.instanceMethod ⟨"GraphWriter$Out", "putSign", "(C)V"⟩) ∈ wd_W := wd_mem 678 (by decide +kernel) (by decide +kernel)
theorem wd_679 : (Cond.selects "GraphWriter$Out" ⟨"GraphWriter$Out", "putSign", "(C)V"⟩ ⟨"GraphWriter$Out", "putSign", "(C)V"⟩) ∈ wd_W := wd_mem 679 (by decide +kernel) (by decide +kernel)
theorem wd_680 : (Cond.code ⟨"GraphWriter$Out", "putSign", "(C)V"⟩ prog_3_method_7_code 2 none) ∈ wd_W := wd_mem 680 (by decide +kernel) (by decide +kernel)
theorem wd_682 : (Cond.constantLong "GraphWriter" 296 (120 : Int64)) ∈ wd_W := wd_mem 682 (by decide +kernel) (by decide +kernel)
theorem wd_684 : (Cond.methodLink "GraphWriter" 239 ⟨"GraphWriter", "writeInstance", "(II)V"⟩) ∈ wd_W := wd_mem 684 (by decide +kernel) (by decide +kernel)
theorem wd_686 : (Cond.instanceMethod ⟨"GraphWriter", "writeInstance", "(II)V"⟩) ∈ wd_W := wd_mem 686 (by decide +kernel) (by decide +kernel)
theorem wd_687 : (Cond.code ⟨"GraphWriter", "writeInstance", "(II)V"⟩ prog_1_method_33_code 8 none) ∈ wd_W := wd_mem 687 (by decide +kernel) (by decide +kernel)
theorem wd_688 : (Cond.methodLink "GraphWriter" 270 ⟨"GraphWriter$Out", "abort", "(Ljava/lang/String;)V"⟩) ∈ wd_W := wd_mem 688 (by decide +kernel) (by decide +kernel)
theorem wd_689 : (Cond.instanceMethod ⟨"GraphWriter$Out", "abort", "(Ljava/lang/String;)V"⟩) ∈ wd_W := wd_mem 689 (by decide +kernel) (by decide +kernel)
theorem wd_690 : (Cond.selects "GraphWriter$Out" ⟨"GraphWriter$Out", "abort", "(Ljava/lang/String;)V"⟩ ⟨"GraphWriter$Out", "abort", "(Ljava/lang/String;)V"⟩) ∈ wd_W := wd_mem 690 (by decide +kernel) (by decide +kernel)
theorem wd_691 : (Cond.code ⟨"GraphWriter$Out", "abort", "(Ljava/lang/String;)V"⟩ prog_3_method_14_code 2 none) ∈ wd_W := wd_mem 691 (by decide +kernel) (by decide +kernel)
theorem wd_692 : (Cond.constantLong "GraphWriter$Out" 101 (123 : Int64)) ∈ wd_W := wd_mem 692 (by decide +kernel) (by decide +kernel)
theorem wd_693 : (Cond.constantLong "GraphWriter$Out" 103 (121 : Int64)) ∈ wd_W := wd_mem 693 (by decide +kernel) (by decide +kernel)
theorem wd_694 : (Cond.constantLong "GraphWriter" 274 (115 : Int64)) ∈ wd_W := wd_mem 694 (by decide +kernel) (by decide +kernel)
theorem wd_695 : (Cond.methodLink "GraphWriter" 276 ⟨"GraphWriter", "writeParts", "(LGraphWriter$Thing;LGraphWriter$Defined;II)V"⟩) ∈ wd_W := wd_mem 695 (by decide +kernel) (by decide +kernel)
theorem wd_697 : (Cond.instanceMethod ⟨"GraphWriter", "writeParts", "(LGraphWriter$Thing;LGraphWriter$Defined;II)V"⟩) ∈ wd_W := wd_mem 697 (by decide +kernel) (by decide +kernel)
theorem wd_698 : (Cond.code ⟨"GraphWriter", "writeParts", "(LGraphWriter$Thing;LGraphWriter$Defined;II)V"⟩ prog_1_method_34_code 10 none) ∈ wd_W := wd_mem 698 (by decide +kernel) (by decide +kernel)
theorem wd_699 : (Cond.fieldLink "GraphWriter" 286 "GraphWriter" "TYPE_WIDTHS" "[I") ∈ wd_W := wd_mem 699 (by decide +kernel) (by decide +kernel)
theorem wd_701 : (Cond.constantLong "GraphWriter" 289 (119 : Int64)) ∈ wd_W := wd_mem 701 (by decide +kernel) (by decide +kernel)
theorem wd_702 : (Cond.constantLong "GraphWriter" 291 (4 : Int64)) ∈ wd_W := wd_mem 702 (by decide +kernel) (by decide +kernel)
theorem wd_703 : (Cond.methodLink "GraphWriter" 152 ⟨"GraphWriter$Out", "settle", "()I"⟩) ∈ wd_W := wd_mem 703 (by decide +kernel) (by decide +kernel)
theorem wd_704 : (Cond.instanceMethod ⟨"GraphWriter$Out", "settle", "()I"⟩) ∈ wd_W := wd_mem 704 (by decide +kernel) (by decide +kernel)
theorem wd_705 : (Cond.selects "GraphWriter$Out" ⟨"GraphWriter$Out", "settle", "()I"⟩ ⟨"GraphWriter$Out", "settle", "()I"⟩) ∈ wd_W := wd_mem 705 (by decide +kernel) (by decide +kernel)
theorem wd_706 : (Cond.code ⟨"GraphWriter$Out", "settle", "()I"⟩ prog_3_method_3_code 2 (some FieldType.int)) ∈ wd_W := wd_mem 706 (by decide +kernel) (by decide +kernel)
theorem wd_707 : (Cond.methodLink "GraphWriter$Out" 53 ⟨"GraphWriter$Out", "goBack", "()V"⟩) ∈ wd_W := wd_mem 707 (by decide +kernel) (by decide +kernel)
theorem wd_709 : (Cond.instanceMethod ⟨"GraphWriter$Out", "goBack", "()V"⟩) ∈ wd_W := wd_mem 709 (by decide +kernel) (by decide +kernel)
theorem wd_710 : (Cond.code ⟨"GraphWriter$Out", "goBack", "()V"⟩ prog_3_method_4_code 1 none) ∈ wd_W := wd_mem 710 (by decide +kernel) (by decide +kernel)
theorem wd_711 : (Cond.methodLink "GraphWriter$Out" 56 ⟨"GraphWriter$Out", "forgetHandles", "()V"⟩) ∈ wd_W := wd_mem 711 (by decide +kernel) (by decide +kernel)
theorem wd_712 : (Cond.methodLink "GraphWriterLaw" 68 ⟨"GraphWriter", "reset", "()I"⟩) ∈ wd_W := wd_mem 712 (by decide +kernel) (by decide +kernel)
theorem wd_713 : (Cond.instanceMethod ⟨"GraphWriter", "reset", "()I"⟩) ∈ wd_W := wd_mem 713 (by decide +kernel) (by decide +kernel)
theorem wd_714 : (Cond.selects "GraphWriter" ⟨"GraphWriter", "reset", "()I"⟩ ⟨"GraphWriter", "reset", "()I"⟩) ∈ wd_W := wd_mem 714 (by decide +kernel) (by decide +kernel)
theorem wd_715 : (Cond.code ⟨"GraphWriter", "reset", "()I"⟩ prog_1_method_13_code 1 (some FieldType.int)) ∈ wd_W := wd_mem 715 (by decide +kernel) (by decide +kernel)
theorem wd_716 : (Cond.constantLong "GraphWriter" 156 (121 : Int64)) ∈ wd_W := wd_mem 716 (by decide +kernel) (by decide +kernel)
theorem wd_717 : (Cond.methodLink "GraphWriterLaw" 73 ⟨"GraphWriter", "byteAt", "(I)I"⟩) ∈ wd_W := wd_mem 717 (by decide +kernel) (by decide +kernel)
theorem wd_718 : (Cond.instanceMethod ⟨"GraphWriter", "byteAt", "(I)I"⟩) ∈ wd_W := wd_mem 718 (by decide +kernel) (by decide +kernel)
theorem wd_719 : (Cond.selects "GraphWriter" ⟨"GraphWriter", "byteAt", "(I)I"⟩ ⟨"GraphWriter", "byteAt", "(I)I"⟩) ∈ wd_W := wd_mem 719 (by decide +kernel) (by decide +kernel)
theorem wd_720 : (Cond.code ⟨"GraphWriter", "byteAt", "(I)I"⟩ prog_1_method_14_code 2 (some FieldType.int)) ∈ wd_W := wd_mem 720 (by decide +kernel) (by decide +kernel)
theorem wd_721 : (Cond.methodLink "GraphWriterLaw" 77 ⟨"GraphWriter", "handle", "(I)I"⟩) ∈ wd_W := wd_mem 721 (by decide +kernel) (by decide +kernel)
theorem wd_722 : (Cond.instanceMethod ⟨"GraphWriter", "handle", "(I)I"⟩) ∈ wd_W := wd_mem 722 (by decide +kernel) (by decide +kernel)
theorem wd_723 : (Cond.selects "GraphWriter" ⟨"GraphWriter", "handle", "(I)I"⟩ ⟨"GraphWriter", "handle", "(I)I"⟩) ∈ wd_W := wd_mem 723 (by decide +kernel) (by decide +kernel)
theorem wd_724 : (Cond.code ⟨"GraphWriter", "handle", "(I)I"⟩ prog_1_method_15_code 2 (some FieldType.int)) ∈ wd_W := wd_mem 724 (by decide +kernel) (by decide +kernel)
theorem wd_725 : (Cond.methodLink "GraphWriterLaw" 81 ⟨"GraphWriter", "count", "(I)I"⟩) ∈ wd_W := wd_mem 725 (by decide +kernel) (by decide +kernel)
theorem wd_726 : (Cond.instanceMethod ⟨"GraphWriter", "count", "(I)I"⟩) ∈ wd_W := wd_mem 726 (by decide +kernel) (by decide +kernel)
theorem wd_727 : (Cond.selects "GraphWriter" ⟨"GraphWriter", "count", "(I)I"⟩ ⟨"GraphWriter", "count", "(I)I"⟩) ∈ wd_W := wd_mem 727 (by decide +kernel) (by decide +kernel)
theorem wd_728 : (Cond.code ⟨"GraphWriter", "count", "(I)I"⟩ prog_1_method_16_code 2 (some FieldType.int)) ∈ wd_W := wd_mem 728 (by decide +kernel) (by decide +kernel)
theorem wd_729 : (Cond.methodLink "GraphWriter" 171 ⟨"GraphWriter", "definedClasses", "()I"⟩) ∈ wd_W := wd_mem 729 (by decide +kernel) (by decide +kernel)
theorem wd_731 : (Cond.instanceMethod ⟨"GraphWriter", "definedClasses", "()I"⟩) ∈ wd_W := wd_mem 731 (by decide +kernel) (by decide +kernel)
theorem wd_732 : (Cond.code ⟨"GraphWriter", "definedClasses", "()I"⟩ prog_1_method_21_code 3 (some FieldType.int)) ∈ wd_W := wd_mem 732 (by decide +kernel) (by decide +kernel)
theorem wd_733 : (Cond.methodLink "GraphWriterLaw" 85 ⟨"GraphWriter", "object", "(II)I"⟩) ∈ wd_W := wd_mem 733 (by decide +kernel) (by decide +kernel)
theorem wd_734 : (Cond.instanceMethod ⟨"GraphWriter", "object", "(II)I"⟩) ∈ wd_W := wd_mem 734 (by decide +kernel) (by decide +kernel)
theorem wd_735 : (Cond.selects "GraphWriter" ⟨"GraphWriter", "object", "(II)I"⟩ ⟨"GraphWriter", "object", "(II)I"⟩) ∈ wd_W := wd_mem 735 (by decide +kernel) (by decide +kernel)
theorem wd_736 : (Cond.code ⟨"GraphWriter", "object", "(II)I"⟩ prog_1_method_17_code 4 (some FieldType.int)) ∈ wd_W := wd_mem 736 (by decide +kernel) (by decide +kernel)
theorem wd_737 : (Cond.methodLink "GraphWriter" 184 ⟨"java/lang/String", "length", "()I"⟩) ∈ wd_W := wd_mem 737 (by decide +kernel) (by decide +kernel)
theorem wd_738 : (Cond.classLink "GraphWriterLaw" 10 "GraphWriterModel") ∈ wd_W := wd_mem 738 (by decide +kernel) (by decide +kernel)
theorem wd_739 : (Cond.instantiable "GraphWriterModel" 31) ∈ wd_W := wd_mem 739 (by decide +kernel) (by decide +kernel)
theorem wd_740 : (Cond.methodLink "GraphWriterLaw" 12 ⟨"GraphWriterModel", "<init>", "()V"⟩) ∈ wd_W := wd_mem 740 (by decide +kernel) (by decide +kernel)
theorem wd_741 : (Cond.instanceMethod ⟨"GraphWriterModel", "<init>", "()V"⟩) ∈ wd_W := wd_mem 741 (by decide +kernel) (by decide +kernel)
theorem wd_742 : (Cond.code ⟨"GraphWriterModel", "<init>", "()V"⟩ prog_6_method_1_code 1 none) ∈ wd_W := wd_mem 742 (by decide +kernel) (by decide +kernel)
theorem wd_743 : (Cond.methodLink "GraphWriterModel" 1 ⟨"java/lang/Object", "<init>", "()V"⟩) ∈ wd_W := wd_mem 743 (by decide +kernel) (by decide +kernel)
theorem wd_744 : (Cond.constantLong "GraphWriterModel" 81 (44269 : Int64)) ∈ wd_W := wd_mem 744 (by decide +kernel) (by decide +kernel)
theorem wd_745 : (Cond.methodLink "GraphWriterModel" 83 ⟨"GraphWriterModel", "append", "(JI)V"⟩) ∈ wd_W := wd_mem 745 (by decide +kernel) (by decide +kernel)
theorem wd_747 : (Cond.instanceMethod ⟨"GraphWriterModel", "append", "(JI)V"⟩) ∈ wd_W := wd_mem 747 (by decide +kernel) (by decide +kernel)
theorem wd_748 : (Cond.code ⟨"GraphWriterModel", "append", "(JI)V"⟩ prog_6_method_4_code 5 none) ∈ wd_W := wd_mem 748 (by decide +kernel) (by decide +kernel)
theorem wd_749 : (Cond.constantLong "GraphWriterModel" 87 (5 : Int64)) ∈ wd_W := wd_mem 749 (by decide +kernel) (by decide +kernel)
theorem wd_750 : (Cond.methodLink "GraphWriterModel" 89 ⟨"GraphWriterModel", "noHandles", "()V"⟩) ∈ wd_W := wd_mem 750 (by decide +kernel) (by decide +kernel)
theorem wd_752 : (Cond.instanceMethod ⟨"GraphWriterModel", "noHandles", "()V"⟩) ∈ wd_W := wd_mem 752 (by decide +kernel) (by decide +kernel)
theorem wd_753 : (Cond.code ⟨"GraphWriterModel", "noHandles", "()V"⟩ prog_6_method_5_code 2 none) ∈ wd_W := wd_mem 753 (by decide +kernel) (by decide +kernel)
theorem wd_754 : (Cond.fieldLink "GraphWriterModel" 7 "GraphWriterModel" "defined" "[Z") ∈ wd_W := wd_mem 754 (by decide +kernel) (by decide +kernel)
theorem wd_755 : (Cond.fieldLink "GraphWriterModel" 13 "GraphWriterModel" "kind" "[I") ∈ wd_W := wd_mem 755 (by decide +kernel) (by decide +kernel)
theorem wd_756 : (Cond.fieldLink "GraphWriterModel" 17 "GraphWriterModel" "above" "[I") ∈ wd_W := wd_mem 756 (by decide +kernel) (by decide +kernel)
theorem wd_757 : (Cond.fieldLink "GraphWriterModel" 20 "GraphWriterModel" "id" "[J") ∈ wd_W := wd_mem 757 (by decide +kernel) (by decide +kernel)
theorem wd_758 : (Cond.fieldLink "GraphWriterModel" 24 "GraphWriterModel" "fields" "[I") ∈ wd_W := wd_mem 758 (by decide +kernel) (by decide +kernel)
theorem wd_759 : (Cond.fieldLink "GraphWriterModel" 27 "GraphWriterModel" "fName" "[I") ∈ wd_W := wd_mem 759 (by decide +kernel) (by decide +kernel)
theorem wd_760 : (Cond.fieldLink "GraphWriterModel" 30 "GraphWriterModel" "fType" "[I") ∈ wd_W := wd_mem 760 (by decide +kernel) (by decide +kernel)
theorem wd_761 : (Cond.fieldLink "GraphWriterModel" 33 "GraphWriterModel" "fSkip" "[Z") ∈ wd_W := wd_mem 761 (by decide +kernel) (by decide +kernel)
theorem wd_762 : (Cond.fieldLink "GraphWriterModel" 36 "GraphWriterModel" "sort" "[I") ∈ wd_W := wd_mem 762 (by decide +kernel) (by decide +kernel)
theorem wd_763 : (Cond.fieldLink "GraphWriterModel" 39 "GraphWriterModel" "classOf" "[I") ∈ wd_W := wd_mem 763 (by decide +kernel) (by decide +kernel)
theorem wd_764 : (Cond.fieldLink "GraphWriterModel" 42 "GraphWriterModel" "nameOf" "[I") ∈ wd_W := wd_mem 764 (by decide +kernel) (by decide +kernel)
theorem wd_765 : (Cond.fieldLink "GraphWriterModel" 45 "GraphWriterModel" "size" "[I") ∈ wd_W := wd_mem 765 (by decide +kernel) (by decide +kernel)
theorem wd_766 : (Cond.fieldLink "GraphWriterModel" 48 "GraphWriterModel" "value" "[J") ∈ wd_W := wd_mem 766 (by decide +kernel) (by decide +kernel)
theorem wd_767 : (Cond.fieldLink "GraphWriterModel" 51 "GraphWriterModel" "standIn" "[I") ∈ wd_W := wd_mem 767 (by decide +kernel) (by decide +kernel)
theorem wd_768 : (Cond.fieldLink "GraphWriterModel" 54 "GraphWriterModel" "extras" "[I") ∈ wd_W := wd_mem 768 (by decide +kernel) (by decide +kernel)
theorem wd_769 : (Cond.fieldLink "GraphWriterModel" 115 "GraphWriterModel" "objects" "I") ∈ wd_W := wd_mem 769 (by decide +kernel) (by decide +kernel)
theorem wd_770 : (Cond.fieldLink "GraphWriterModel" 57 "GraphWriterModel" "stream" "[I") ∈ wd_W := wd_mem 770 (by decide +kernel) (by decide +kernel)
theorem wd_771 : (Cond.fieldLink "GraphWriterModel" 96 "GraphWriterModel" "length" "I") ∈ wd_W := wd_mem 771 (by decide +kernel) (by decide +kernel)
theorem wd_772 : (Cond.fieldLink "GraphWriterModel" 60 "GraphWriterModel" "waiting" "[I") ∈ wd_W := wd_mem 772 (by decide +kernel) (by decide +kernel)
theorem wd_773 : (Cond.fieldLink "GraphWriterModel" 106 "GraphWriterModel" "waits" "I") ∈ wd_W := wd_mem 773 (by decide +kernel) (by decide +kernel)
theorem wd_774 : (Cond.fieldLink "GraphWriterModel" 63 "GraphWriterModel" "handles" "[I") ∈ wd_W := wd_mem 774 (by decide +kernel) (by decide +kernel)
theorem wd_775 : (Cond.fieldLink "GraphWriterModel" 100 "GraphWriterModel" "given" "I") ∈ wd_W := wd_mem 775 (by decide +kernel) (by decide +kernel)
theorem wd_776 : (Cond.fieldLink "GraphWriterModel" 66 "GraphWriterModel" "todo" "[I") ∈ wd_W := wd_mem 776 (by decide +kernel) (by decide +kernel)
theorem wd_777 : (Cond.fieldLink "GraphWriterModel" 69 "GraphWriterModel" "todoOf" "[I") ∈ wd_W := wd_mem 777 (by decide +kernel) (by decide +kernel)
theorem wd_778 : (Cond.fieldLink "GraphWriterModel" 72 "GraphWriterModel" "todoWith" "[I") ∈ wd_W := wd_mem 778 (by decide +kernel) (by decide +kernel)
theorem wd_779 : (Cond.fieldLink "GraphWriterModel" 152 "GraphWriterModel" "left" "I") ∈ wd_W := wd_mem 779 (by decide +kernel) (by decide +kernel)
theorem wd_780 : (Cond.fieldLink "GraphWriterModel" 75 "GraphWriterModel" "order" "[I") ∈ wd_W := wd_mem 780 (by decide +kernel) (by decide +kernel)
theorem wd_781 : (Cond.fieldLink "GraphWriterModel" 78 "GraphWriterModel" "oldHandles" "[I") ∈ wd_W := wd_mem 781 (by decide +kernel) (by decide +kernel)
theorem wd_782 : (Cond.fieldLink "GraphWriterModel" 140 "GraphWriterModel" "oldLength" "I") ∈ wd_W := wd_mem 782 (by decide +kernel) (by decide +kernel)
theorem wd_783 : (Cond.fieldLink "GraphWriterModel" 143 "GraphWriterModel" "oldWaits" "I") ∈ wd_W := wd_mem 783 (by decide +kernel) (by decide +kernel)
theorem wd_784 : (Cond.fieldLink "GraphWriterModel" 146 "GraphWriterModel" "oldGiven" "I") ∈ wd_W := wd_mem 784 (by decide +kernel) (by decide +kernel)
theorem wd_785 : (Cond.laysFinal "GraphWriterModel" "GraphWriterModel" "defined" "[Z") ∈ wd_W := wd_mem 785 (by decide +kernel) (by decide +kernel)
theorem wd_787 : (Cond.laysFinal "GraphWriterModel" "GraphWriterModel" "kind" "[I") ∈ wd_W := wd_mem 787 (by decide +kernel) (by decide +kernel)
theorem wd_789 : (Cond.laysFinal "GraphWriterModel" "GraphWriterModel" "above" "[I") ∈ wd_W := wd_mem 789 (by decide +kernel) (by decide +kernel)
theorem wd_791 : (Cond.laysFinal "GraphWriterModel" "GraphWriterModel" "id" "[J") ∈ wd_W := wd_mem 791 (by decide +kernel) (by decide +kernel)
theorem wd_793 : (Cond.laysFinal "GraphWriterModel" "GraphWriterModel" "fields" "[I") ∈ wd_W := wd_mem 793 (by decide +kernel) (by decide +kernel)
theorem wd_795 : (Cond.laysFinal "GraphWriterModel" "GraphWriterModel" "fName" "[I") ∈ wd_W := wd_mem 795 (by decide +kernel) (by decide +kernel)
theorem wd_797 : (Cond.laysFinal "GraphWriterModel" "GraphWriterModel" "fType" "[I") ∈ wd_W := wd_mem 797 (by decide +kernel) (by decide +kernel)
theorem wd_799 : (Cond.laysFinal "GraphWriterModel" "GraphWriterModel" "fSkip" "[Z") ∈ wd_W := wd_mem 799 (by decide +kernel) (by decide +kernel)
theorem wd_801 : (Cond.laysFinal "GraphWriterModel" "GraphWriterModel" "sort" "[I") ∈ wd_W := wd_mem 801 (by decide +kernel) (by decide +kernel)
theorem wd_803 : (Cond.laysFinal "GraphWriterModel" "GraphWriterModel" "classOf" "[I") ∈ wd_W := wd_mem 803 (by decide +kernel) (by decide +kernel)
theorem wd_805 : (Cond.laysFinal "GraphWriterModel" "GraphWriterModel" "nameOf" "[I") ∈ wd_W := wd_mem 805 (by decide +kernel) (by decide +kernel)
theorem wd_807 : (Cond.laysFinal "GraphWriterModel" "GraphWriterModel" "size" "[I") ∈ wd_W := wd_mem 807 (by decide +kernel) (by decide +kernel)
theorem wd_809 : (Cond.laysFinal "GraphWriterModel" "GraphWriterModel" "value" "[J") ∈ wd_W := wd_mem 809 (by decide +kernel) (by decide +kernel)
theorem wd_811 : (Cond.laysFinal "GraphWriterModel" "GraphWriterModel" "standIn" "[I") ∈ wd_W := wd_mem 811 (by decide +kernel) (by decide +kernel)
theorem wd_813 : (Cond.laysFinal "GraphWriterModel" "GraphWriterModel" "extras" "[I") ∈ wd_W := wd_mem 813 (by decide +kernel) (by decide +kernel)
theorem wd_815 : (Cond.lays "GraphWriterModel" "GraphWriterModel" "objects" "I") ∈ wd_W := wd_mem 815 (by decide +kernel) (by decide +kernel)
theorem wd_817 : (Cond.laysFinal "GraphWriterModel" "GraphWriterModel" "stream" "[I") ∈ wd_W := wd_mem 817 (by decide +kernel) (by decide +kernel)
theorem wd_819 : (Cond.lays "GraphWriterModel" "GraphWriterModel" "length" "I") ∈ wd_W := wd_mem 819 (by decide +kernel) (by decide +kernel)
theorem wd_821 : (Cond.laysFinal "GraphWriterModel" "GraphWriterModel" "waiting" "[I") ∈ wd_W := wd_mem 821 (by decide +kernel) (by decide +kernel)
theorem wd_823 : (Cond.lays "GraphWriterModel" "GraphWriterModel" "waits" "I") ∈ wd_W := wd_mem 823 (by decide +kernel) (by decide +kernel)
theorem wd_825 : (Cond.laysFinal "GraphWriterModel" "GraphWriterModel" "handles" "[I") ∈ wd_W := wd_mem 825 (by decide +kernel) (by decide +kernel)
theorem wd_827 : (Cond.lays "GraphWriterModel" "GraphWriterModel" "given" "I") ∈ wd_W := wd_mem 827 (by decide +kernel) (by decide +kernel)
theorem wd_829 : (Cond.laysFinal "GraphWriterModel" "GraphWriterModel" "todo" "[I") ∈ wd_W := wd_mem 829 (by decide +kernel) (by decide +kernel)
theorem wd_831 : (Cond.laysFinal "GraphWriterModel" "GraphWriterModel" "todoOf" "[I") ∈ wd_W := wd_mem 831 (by decide +kernel) (by decide +kernel)
theorem wd_833 : (Cond.laysFinal "GraphWriterModel" "GraphWriterModel" "todoWith" "[I") ∈ wd_W := wd_mem 833 (by decide +kernel) (by decide +kernel)
theorem wd_835 : (Cond.lays "GraphWriterModel" "GraphWriterModel" "left" "I") ∈ wd_W := wd_mem 835 (by decide +kernel) (by decide +kernel)
theorem wd_837 : (Cond.laysFinal "GraphWriterModel" "GraphWriterModel" "order" "[I") ∈ wd_W := wd_mem 837 (by decide +kernel) (by decide +kernel)
theorem wd_839 : (Cond.laysFinal "GraphWriterModel" "GraphWriterModel" "oldHandles" "[I") ∈ wd_W := wd_mem 839 (by decide +kernel) (by decide +kernel)
theorem wd_841 : (Cond.lays "GraphWriterModel" "GraphWriterModel" "oldLength" "I") ∈ wd_W := wd_mem 841 (by decide +kernel) (by decide +kernel)
theorem wd_843 : (Cond.lays "GraphWriterModel" "GraphWriterModel" "oldWaits" "I") ∈ wd_W := wd_mem 843 (by decide +kernel) (by decide +kernel)
theorem wd_845 : (Cond.lays "GraphWriterModel" "GraphWriterModel" "oldGiven" "I") ∈ wd_W := wd_mem 845 (by decide +kernel) (by decide +kernel)
theorem wd_848 : (Cond.arrayClass FieldType.boolean) ∈ wd_W := wd_mem 848 (by decide +kernel) (by decide +kernel)
theorem wd_849 : (Cond.methodLink "GraphWriterLaw" 19 ⟨"GraphWriterModel", "define", "(IIIJ)I"⟩) ∈ wd_W := wd_mem 849 (by decide +kernel) (by decide +kernel)
theorem wd_850 : (Cond.instanceMethod ⟨"GraphWriterModel", "define", "(IIIJ)I"⟩) ∈ wd_W := wd_mem 850 (by decide +kernel) (by decide +kernel)
theorem wd_851 : (Cond.selects "GraphWriterModel" ⟨"GraphWriterModel", "define", "(IIIJ)I"⟩ ⟨"GraphWriterModel", "define", "(IIIJ)I"⟩) ∈ wd_W := wd_mem 851 (by decide +kernel) (by decide +kernel)
theorem wd_852 : (Cond.code ⟨"GraphWriterModel", "define", "(IIIJ)I"⟩ prog_6_method_9_code 6 (some FieldType.int)) ∈ wd_W := wd_mem 852 (by decide +kernel) (by decide +kernel)
theorem wd_853 : (Cond.methodLink "GraphWriterModel" 92 ⟨"GraphWriterModel", "out", "(II)Z"⟩) ∈ wd_W := wd_mem 853 (by decide +kernel) (by decide +kernel)
theorem wd_855 : (Cond.instanceMethod ⟨"GraphWriterModel", "out", "(II)Z"⟩) ∈ wd_W := wd_mem 855 (by decide +kernel) (by decide +kernel)
theorem wd_856 : (Cond.code ⟨"GraphWriterModel", "out", "(II)Z"⟩ prog_6_method_2_code 3 (some FieldType.boolean)) ∈ wd_W := wd_mem 856 (by decide +kernel) (by decide +kernel)
theorem wd_857 : (Cond.methodLink "GraphWriterModel" 111 ⟨"GraphWriterModel", "noClass", "(I)Z"⟩) ∈ wd_W := wd_mem 857 (by decide +kernel) (by decide +kernel)
theorem wd_859 : (Cond.instanceMethod ⟨"GraphWriterModel", "noClass", "(I)Z"⟩) ∈ wd_W := wd_mem 859 (by decide +kernel) (by decide +kernel)
theorem wd_860 : (Cond.code ⟨"GraphWriterModel", "noClass", "(I)Z"⟩ prog_6_method_3_code 2 (some FieldType.boolean)) ∈ wd_W := wd_mem 860 (by decide +kernel) (by decide +kernel)
theorem wd_861 : (Cond.methodLink "GraphWriterLaw" 24 ⟨"GraphWriterModel", "field", "(IIIZ)I"⟩) ∈ wd_W := wd_mem 861 (by decide +kernel) (by decide +kernel)
theorem wd_862 : (Cond.instanceMethod ⟨"GraphWriterModel", "field", "(IIIZ)I"⟩) ∈ wd_W := wd_mem 862 (by decide +kernel) (by decide +kernel)
theorem wd_863 : (Cond.selects "GraphWriterModel" ⟨"GraphWriterModel", "field", "(IIIZ)I"⟩ ⟨"GraphWriterModel", "field", "(IIIZ)I"⟩) ∈ wd_W := wd_mem 863 (by decide +kernel) (by decide +kernel)
theorem wd_864 : (Cond.code ⟨"GraphWriterModel", "field", "(IIIZ)I"⟩ prog_6_method_11_code 6 (some FieldType.int)) ∈ wd_W := wd_mem 864 (by decide +kernel) (by decide +kernel)
theorem wd_865 : (Cond.methodLink "GraphWriterModel" 118 ⟨"GraphWriterModel", "below", "(II)Z"⟩) ∈ wd_W := wd_mem 865 (by decide +kernel) (by decide +kernel)
theorem wd_867 : (Cond.instanceMethod ⟨"GraphWriterModel", "below", "(II)Z"⟩) ∈ wd_W := wd_mem 867 (by decide +kernel) (by decide +kernel)
theorem wd_868 : (Cond.code ⟨"GraphWriterModel", "below", "(II)Z"⟩ prog_6_method_10_code 5 (some FieldType.boolean)) ∈ wd_W := wd_mem 868 (by decide +kernel) (by decide +kernel)
theorem wd_869 : (Cond.methodLink "GraphWriterLaw" 29 ⟨"GraphWriterModel", "instance", "(I)I"⟩) ∈ wd_W := wd_mem 869 (by decide +kernel) (by decide +kernel)
theorem wd_870 : (Cond.instanceMethod ⟨"GraphWriterModel", "instance", "(I)I"⟩) ∈ wd_W := wd_mem 870 (by decide +kernel) (by decide +kernel)
theorem wd_871 : (Cond.selects "GraphWriterModel" ⟨"GraphWriterModel", "instance", "(I)I"⟩ ⟨"GraphWriterModel", "instance", "(I)I"⟩) ∈ wd_W := wd_mem 871 (by decide +kernel) (by decide +kernel)
theorem wd_872 : (Cond.code ⟨"GraphWriterModel", "instance", "(I)I"⟩ prog_6_method_16_code 4 (some FieldType.int)) ∈ wd_W := wd_mem 872 (by decide +kernel) (by decide +kernel)
theorem wd_873 : (Cond.methodLink "GraphWriterModel" 121 ⟨"GraphWriterModel", "firstSlot", "(I)I"⟩) ∈ wd_W := wd_mem 873 (by decide +kernel) (by decide +kernel)
theorem wd_875 : (Cond.instanceMethod ⟨"GraphWriterModel", "firstSlot", "(I)I"⟩) ∈ wd_W := wd_mem 875 (by decide +kernel) (by decide +kernel)
theorem wd_876 : (Cond.code ⟨"GraphWriterModel", "firstSlot", "(I)I"⟩ prog_6_method_13_code 5 (some FieldType.int)) ∈ wd_W := wd_mem 876 (by decide +kernel) (by decide +kernel)
theorem wd_877 : (Cond.methodLink "GraphWriterModel" 129 ⟨"GraphWriterModel", "begin", "(II)I"⟩) ∈ wd_W := wd_mem 877 (by decide +kernel) (by decide +kernel)
theorem wd_879 : (Cond.instanceMethod ⟨"GraphWriterModel", "begin", "(II)I"⟩) ∈ wd_W := wd_mem 879 (by decide +kernel) (by decide +kernel)
theorem wd_880 : (Cond.code ⟨"GraphWriterModel", "begin", "(II)I"⟩ prog_6_method_12_code 4 (some FieldType.int)) ∈ wd_W := wd_mem 880 (by decide +kernel) (by decide +kernel)
theorem wd_881 : (Cond.methodLink "GraphWriterModel" 132 ⟨"GraphWriterModel", "slotType", "(II)I"⟩) ∈ wd_W := wd_mem 881 (by decide +kernel) (by decide +kernel)
theorem wd_883 : (Cond.instanceMethod ⟨"GraphWriterModel", "slotType", "(II)I"⟩) ∈ wd_W := wd_mem 883 (by decide +kernel) (by decide +kernel)
theorem wd_884 : (Cond.code ⟨"GraphWriterModel", "slotType", "(II)I"⟩ prog_6_method_15_code 4 (some FieldType.int)) ∈ wd_W := wd_mem 884 (by decide +kernel) (by decide +kernel)
theorem wd_885 : (Cond.methodLink "GraphWriterModel" 125 ⟨"GraphWriterModel", "holder", "(II)I"⟩) ∈ wd_W := wd_mem 885 (by decide +kernel) (by decide +kernel)
theorem wd_887 : (Cond.instanceMethod ⟨"GraphWriterModel", "holder", "(II)I"⟩) ∈ wd_W := wd_mem 887 (by decide +kernel) (by decide +kernel)
theorem wd_888 : (Cond.code ⟨"GraphWriterModel", "holder", "(II)I"⟩ prog_6_method_14_code 5 (some FieldType.int)) ∈ wd_W := wd_mem 888 (by decide +kernel) (by decide +kernel)
theorem wd_889 : (Cond.constantLong "GraphWriterModel" 135 (-1 : Int64)) ∈ wd_W := wd_mem 889 (by decide +kernel) (by decide +kernel)
theorem wd_890 : (Cond.methodLink "GraphWriterLaw" 34 ⟨"GraphWriterModel", "text", "(J)I"⟩) ∈ wd_W := wd_mem 890 (by decide +kernel) (by decide +kernel)
theorem wd_891 : (Cond.instanceMethod ⟨"GraphWriterModel", "text", "(J)I"⟩) ∈ wd_W := wd_mem 891 (by decide +kernel) (by decide +kernel)
theorem wd_892 : (Cond.selects "GraphWriterModel" ⟨"GraphWriterModel", "text", "(J)I"⟩ ⟨"GraphWriterModel", "text", "(J)I"⟩) ∈ wd_W := wd_mem 892 (by decide +kernel) (by decide +kernel)
theorem wd_893 : (Cond.code ⟨"GraphWriterModel", "text", "(J)I"⟩ prog_6_method_17_code 7 (some FieldType.int)) ∈ wd_W := wd_mem 893 (by decide +kernel) (by decide +kernel)
theorem wd_894 : (Cond.methodLink "GraphWriterLaw" 39 ⟨"GraphWriterModel", "array", "(ZI)I"⟩) ∈ wd_W := wd_mem 894 (by decide +kernel) (by decide +kernel)
theorem wd_895 : (Cond.instanceMethod ⟨"GraphWriterModel", "array", "(ZI)I"⟩) ∈ wd_W := wd_mem 895 (by decide +kernel) (by decide +kernel)
theorem wd_896 : (Cond.selects "GraphWriterModel" ⟨"GraphWriterModel", "array", "(ZI)I"⟩ ⟨"GraphWriterModel", "array", "(ZI)I"⟩) ∈ wd_W := wd_mem 896 (by decide +kernel) (by decide +kernel)
theorem wd_897 : (Cond.code ⟨"GraphWriterModel", "array", "(ZI)I"⟩ prog_6_method_18_code 5 (some FieldType.int)) ∈ wd_W := wd_mem 897 (by decide +kernel) (by decide +kernel)
theorem wd_898 : (Cond.methodLink "GraphWriterLaw" 44 ⟨"GraphWriterModel", "constant", "(II)I"⟩) ∈ wd_W := wd_mem 898 (by decide +kernel) (by decide +kernel)
theorem wd_899 : (Cond.instanceMethod ⟨"GraphWriterModel", "constant", "(II)I"⟩) ∈ wd_W := wd_mem 899 (by decide +kernel) (by decide +kernel)
theorem wd_900 : (Cond.selects "GraphWriterModel" ⟨"GraphWriterModel", "constant", "(II)I"⟩ ⟨"GraphWriterModel", "constant", "(II)I"⟩) ∈ wd_W := wd_mem 900 (by decide +kernel) (by decide +kernel)
theorem wd_901 : (Cond.code ⟨"GraphWriterModel", "constant", "(II)I"⟩ prog_6_method_19_code 4 (some FieldType.int)) ∈ wd_W := wd_mem 901 (by decide +kernel) (by decide +kernel)
theorem wd_902 : (Cond.methodLink "GraphWriterLaw" 49 ⟨"GraphWriterModel", "set", "(IIJ)I"⟩) ∈ wd_W := wd_mem 902 (by decide +kernel) (by decide +kernel)
theorem wd_903 : (Cond.instanceMethod ⟨"GraphWriterModel", "set", "(IIJ)I"⟩) ∈ wd_W := wd_mem 903 (by decide +kernel) (by decide +kernel)
theorem wd_904 : (Cond.selects "GraphWriterModel" ⟨"GraphWriterModel", "set", "(IIJ)I"⟩ ⟨"GraphWriterModel", "set", "(IIJ)I"⟩) ∈ wd_W := wd_mem 904 (by decide +kernel) (by decide +kernel)
theorem wd_905 : (Cond.code ⟨"GraphWriterModel", "set", "(IIJ)I"⟩ prog_6_method_20_code 6 (some FieldType.int)) ∈ wd_W := wd_mem 905 (by decide +kernel) (by decide +kernel)
theorem wd_906 : (Cond.methodLink "GraphWriterLaw" 53 ⟨"GraphWriterModel", "replace", "(II)I"⟩) ∈ wd_W := wd_mem 906 (by decide +kernel) (by decide +kernel)
theorem wd_907 : (Cond.instanceMethod ⟨"GraphWriterModel", "replace", "(II)I"⟩) ∈ wd_W := wd_mem 907 (by decide +kernel) (by decide +kernel)
theorem wd_908 : (Cond.selects "GraphWriterModel" ⟨"GraphWriterModel", "replace", "(II)I"⟩ ⟨"GraphWriterModel", "replace", "(II)I"⟩) ∈ wd_W := wd_mem 908 (by decide +kernel) (by decide +kernel)
theorem wd_909 : (Cond.code ⟨"GraphWriterModel", "replace", "(II)I"⟩ prog_6_method_22_code 3 (some FieldType.int)) ∈ wd_W := wd_mem 909 (by decide +kernel) (by decide +kernel)
theorem wd_910 : (Cond.methodLink "GraphWriterModel" 137 ⟨"GraphWriterModel", "noInstance", "(I)Z"⟩) ∈ wd_W := wd_mem 910 (by decide +kernel) (by decide +kernel)
theorem wd_912 : (Cond.instanceMethod ⟨"GraphWriterModel", "noInstance", "(I)Z"⟩) ∈ wd_W := wd_mem 912 (by decide +kernel) (by decide +kernel)
theorem wd_913 : (Cond.code ⟨"GraphWriterModel", "noInstance", "(I)Z"⟩ prog_6_method_21_code 2 (some FieldType.boolean)) ∈ wd_W := wd_mem 913 (by decide +kernel) (by decide +kernel)
theorem wd_914 : (Cond.methodLink "GraphWriterLaw" 57 ⟨"GraphWriterModel", "extra", "(II)I"⟩) ∈ wd_W := wd_mem 914 (by decide +kernel) (by decide +kernel)
theorem wd_915 : (Cond.instanceMethod ⟨"GraphWriterModel", "extra", "(II)I"⟩) ∈ wd_W := wd_mem 915 (by decide +kernel) (by decide +kernel)
theorem wd_916 : (Cond.selects "GraphWriterModel" ⟨"GraphWriterModel", "extra", "(II)I"⟩ ⟨"GraphWriterModel", "extra", "(II)I"⟩) ∈ wd_W := wd_mem 916 (by decide +kernel) (by decide +kernel)
theorem wd_917 : (Cond.code ⟨"GraphWriterModel", "extra", "(II)I"⟩ prog_6_method_23_code 3 (some FieldType.int)) ∈ wd_W := wd_mem 917 (by decide +kernel) (by decide +kernel)
theorem wd_918 : (Cond.methodLink "GraphWriterLaw" 62 ⟨"GraphWriterModel", "data", "(JI)I"⟩) ∈ wd_W := wd_mem 918 (by decide +kernel) (by decide +kernel)
theorem wd_919 : (Cond.instanceMethod ⟨"GraphWriterModel", "data", "(JI)I"⟩) ∈ wd_W := wd_mem 919 (by decide +kernel) (by decide +kernel)
theorem wd_920 : (Cond.selects "GraphWriterModel" ⟨"GraphWriterModel", "data", "(JI)I"⟩ ⟨"GraphWriterModel", "data", "(JI)I"⟩) ∈ wd_W := wd_mem 920 (by decide +kernel) (by decide +kernel)
theorem wd_921 : (Cond.code ⟨"GraphWriterModel", "data", "(JI)I"⟩ prog_6_method_26_code 7 (some FieldType.int)) ∈ wd_W := wd_mem 921 (by decide +kernel) (by decide +kernel)
theorem wd_922 : (Cond.methodLink "GraphWriterModel" 149 ⟨"GraphWriterModel", "flush", "()V"⟩) ∈ wd_W := wd_mem 922 (by decide +kernel) (by decide +kernel)
theorem wd_924 : (Cond.instanceMethod ⟨"GraphWriterModel", "flush", "()V"⟩) ∈ wd_W := wd_mem 924 (by decide +kernel) (by decide +kernel)
theorem wd_925 : (Cond.code ⟨"GraphWriterModel", "flush", "()V"⟩ prog_6_method_8_code 2 none) ∈ wd_W := wd_mem 925 (by decide +kernel) (by decide +kernel)
theorem wd_926 : (Cond.constantLong "GraphWriterModel" 109 (119 : Int64)) ∈ wd_W := wd_mem 926 (by decide +kernel) (by decide +kernel)
theorem wd_927 : (Cond.methodLink "GraphWriterLaw" 67 ⟨"GraphWriterModel", "write", "(IZ)I"⟩) ∈ wd_W := wd_mem 927 (by decide +kernel) (by decide +kernel)
theorem wd_928 : (Cond.instanceMethod ⟨"GraphWriterModel", "write", "(IZ)I"⟩) ∈ wd_W := wd_mem 928 (by decide +kernel) (by decide +kernel)
theorem wd_929 : (Cond.selects "GraphWriterModel" ⟨"GraphWriterModel", "write", "(IZ)I"⟩ ⟨"GraphWriterModel", "write", "(IZ)I"⟩) ∈ wd_W := wd_mem 929 (by decide +kernel) (by decide +kernel)
theorem wd_930 : (Cond.code ⟨"GraphWriterModel", "write", "(IZ)I"⟩ prog_6_method_44_code 4 (some FieldType.int)) ∈ wd_W := wd_mem 930 (by decide +kernel) (by decide +kernel)
theorem wd_931 : (Cond.methodLink "GraphWriterModel" 282 ⟨"GraphWriterModel", "remember", "()V"⟩) ∈ wd_W := wd_mem 931 (by decide +kernel) (by decide +kernel)
theorem wd_933 : (Cond.instanceMethod ⟨"GraphWriterModel", "remember", "()V"⟩) ∈ wd_W := wd_mem 933 (by decide +kernel) (by decide +kernel)
theorem wd_934 : (Cond.code ⟨"GraphWriterModel", "remember", "()V"⟩ prog_6_method_24_code 2 none) ∈ wd_W := wd_mem 934 (by decide +kernel) (by decide +kernel)
theorem wd_935 : (Cond.methodLink "GraphWriterModel" 273 ⟨"GraphWriterModel", "writeObject", "(IZ)Z"⟩) ∈ wd_W := wd_mem 935 (by decide +kernel) (by decide +kernel)
theorem wd_937 : (Cond.instanceMethod ⟨"GraphWriterModel", "writeObject", "(IZ)Z"⟩) ∈ wd_W := wd_mem 937 (by decide +kernel) (by decide +kernel)
theorem wd_938 : (Cond.code ⟨"GraphWriterModel", "writeObject", "(IZ)Z"⟩ prog_6_method_41_code 5 (some FieldType.boolean)) ∈ wd_W := wd_mem 938 (by decide +kernel) (by decide +kernel)
theorem wd_939 : (Cond.methodLink "GraphWriterModel" 252 ⟨"GraphWriterModel", "standing", "(I)I"⟩) ∈ wd_W := wd_mem 939 (by decide +kernel) (by decide +kernel)
theorem wd_941 : (Cond.instanceMethod ⟨"GraphWriterModel", "standing", "(I)I"⟩) ∈ wd_W := wd_mem 941 (by decide +kernel) (by decide +kernel)
theorem wd_942 : (Cond.code ⟨"GraphWriterModel", "standing", "(I)I"⟩ prog_6_method_37_code 6 (some FieldType.int)) ∈ wd_W := wd_mem 942 (by decide +kernel) (by decide +kernel)
theorem wd_943 : (Cond.constantLong "GraphWriterModel" 212 (112 : Int64)) ∈ wd_W := wd_mem 943 (by decide +kernel) (by decide +kernel)
theorem wd_944 : (Cond.methodLink "GraphWriterModel" 187 ⟨"GraphWriterModel", "refer", "(I)V"⟩) ∈ wd_W := wd_mem 944 (by decide +kernel) (by decide +kernel)
theorem wd_946 : (Cond.instanceMethod ⟨"GraphWriterModel", "refer", "(I)V"⟩) ∈ wd_W := wd_mem 946 (by decide +kernel) (by decide +kernel)
theorem wd_947 : (Cond.code ⟨"GraphWriterModel", "refer", "(I)V"⟩ prog_6_method_7_code 2 none) ∈ wd_W := wd_mem 947 (by decide +kernel) (by decide +kernel)
theorem wd_948 : (Cond.constantLong "GraphWriterModel" 103 (113 : Int64)) ∈ wd_W := wd_mem 948 (by decide +kernel) (by decide +kernel)
theorem wd_949 : (Cond.constant "GraphWriterModel" 105 (8257536 : Int32)) ∈ wd_W := wd_mem 949 (by decide +kernel) (by decide +kernel)
theorem wd_950 : (Cond.constantLong "GraphWriterModel" 190 (116 : Int64)) ∈ wd_W := wd_mem 950 (by decide +kernel) (by decide +kernel)
theorem wd_951 : (Cond.methodLink "GraphWriterModel" 192 ⟨"GraphWriterModel", "give", "(I)V"⟩) ∈ wd_W := wd_mem 951 (by decide +kernel) (by decide +kernel)
theorem wd_953 : (Cond.instanceMethod ⟨"GraphWriterModel", "give", "(I)V"⟩) ∈ wd_W := wd_mem 953 (by decide +kernel) (by decide +kernel)
theorem wd_954 : (Cond.code ⟨"GraphWriterModel", "give", "(I)V"⟩ prog_6_method_6_code 2 none) ∈ wd_W := wd_mem 954 (by decide +kernel) (by decide +kernel)
theorem wd_955 : (Cond.methodLink "GraphWriterModel" 255 ⟨"GraphWriterModel", "writeArray", "(I)V"⟩) ∈ wd_W := wd_mem 955 (by decide +kernel) (by decide +kernel)
theorem wd_957 : (Cond.instanceMethod ⟨"GraphWriterModel", "writeArray", "(I)V"⟩) ∈ wd_W := wd_mem 957 (by decide +kernel) (by decide +kernel)
theorem wd_958 : (Cond.code ⟨"GraphWriterModel", "writeArray", "(I)V"⟩ prog_6_method_39_code 4 none) ∈ wd_W := wd_mem 958 (by decide +kernel) (by decide +kernel)
theorem wd_959 : (Cond.constantLong "GraphWriterModel" 241 (117 : Int64)) ∈ wd_W := wd_mem 959 (by decide +kernel) (by decide +kernel)
theorem wd_960 : (Cond.methodLink "GraphWriterModel" 243 ⟨"GraphWriterModel", "arrayDescriptor", "(Z)V"⟩) ∈ wd_W := wd_mem 960 (by decide +kernel) (by decide +kernel)
theorem wd_962 : (Cond.instanceMethod ⟨"GraphWriterModel", "arrayDescriptor", "(Z)V"⟩) ∈ wd_W := wd_mem 962 (by decide +kernel) (by decide +kernel)
theorem wd_963 : (Cond.code ⟨"GraphWriterModel", "arrayDescriptor", "(Z)V"⟩ prog_6_method_36_code 3 none) ∈ wd_W := wd_mem 963 (by decide +kernel) (by decide +kernel)
theorem wd_964 : (Cond.constantLong "GraphWriterModel" 200 (114 : Int64)) ∈ wd_W := wd_mem 964 (by decide +kernel) (by decide +kernel)
theorem wd_965 : (Cond.constantLong "GraphWriterModel" 225 (19 : Int64)) ∈ wd_W := wd_mem 965 (by decide +kernel) (by decide +kernel)
theorem wd_966 : (Cond.constantLong "GraphWriterModel" 227 (6578750122511904364 : Int64)) ∈ wd_W := wd_mem 966 (by decide +kernel) (by decide +kernel)
theorem wd_967 : (Cond.constantLong "GraphWriterModel" 229 (7020662317715188325 : Int64)) ∈ wd_W := wd_mem 967 (by decide +kernel) (by decide +kernel)
theorem wd_968 : (Cond.constantLong "GraphWriterModel" 231 (6517819 : Int64)) ∈ wd_W := wd_mem 968 (by decide +kernel) (by decide +kernel)
theorem wd_969 : (Cond.constantLong "GraphWriterModel" 155 (2 : Int64)) ∈ wd_W := wd_mem 969 (by decide +kernel) (by decide +kernel)
theorem wd_970 : (Cond.constantLong "GraphWriterModel" 157 (23369 : Int64)) ∈ wd_W := wd_mem 970 (by decide +kernel) (by decide +kernel)
theorem wd_971 : (Cond.constantLong "GraphWriterModel" 233 (-8012369246846506644 : Int64)) ∈ wd_W := wd_mem 971 (by decide +kernel) (by decide +kernel)
theorem wd_972 : (Cond.constantLong "GraphWriterModel" 235 (5600894804908749477 : Int64)) ∈ wd_W := wd_mem 972 (by decide +kernel) (by decide +kernel)
theorem wd_973 : (Cond.methodLink "GraphWriterModel" 208 ⟨"GraphWriterModel", "plainEnd", "(II)V"⟩) ∈ wd_W := wd_mem 973 (by decide +kernel) (by decide +kernel)
theorem wd_975 : (Cond.instanceMethod ⟨"GraphWriterModel", "plainEnd", "(II)V"⟩) ∈ wd_W := wd_mem 975 (by decide +kernel) (by decide +kernel)
theorem wd_976 : (Cond.code ⟨"GraphWriterModel", "plainEnd", "(II)V"⟩ prog_6_method_33_code 3 none) ∈ wd_W := wd_mem 976 (by decide +kernel) (by decide +kernel)
theorem wd_977 : (Cond.constantLong "GraphWriterModel" 198 (120 : Int64)) ∈ wd_W := wd_mem 977 (by decide +kernel) (by decide +kernel)
theorem wd_978 : (Cond.methodLink "GraphWriterModel" 237 ⟨"GraphWriterModel", "push", "(III)V"⟩) ∈ wd_W := wd_mem 978 (by decide +kernel) (by decide +kernel)
theorem wd_980 : (Cond.instanceMethod ⟨"GraphWriterModel", "push", "(III)V"⟩) ∈ wd_W := wd_mem 980 (by decide +kernel) (by decide +kernel)
theorem wd_981 : (Cond.code ⟨"GraphWriterModel", "push", "(III)V"⟩ prog_6_method_27_code 4 none) ∈ wd_W := wd_mem 981 (by decide +kernel) (by decide +kernel)
theorem wd_982 : (Cond.methodLink "GraphWriterModel" 258 ⟨"GraphWriterModel", "writeConstant", "(I)V"⟩) ∈ wd_W := wd_mem 982 (by decide +kernel) (by decide +kernel)
theorem wd_984 : (Cond.instanceMethod ⟨"GraphWriterModel", "writeConstant", "(I)V"⟩) ∈ wd_W := wd_mem 984 (by decide +kernel) (by decide +kernel)
theorem wd_985 : (Cond.code ⟨"GraphWriterModel", "writeConstant", "(I)V"⟩ prog_6_method_40_code 2 none) ∈ wd_W := wd_mem 985 (by decide +kernel) (by decide +kernel)
theorem wd_986 : (Cond.constantLong "GraphWriterModel" 247 (126 : Int64)) ∈ wd_W := wd_mem 986 (by decide +kernel) (by decide +kernel)
theorem wd_987 : (Cond.methodLink "GraphWriterModel" 249 ⟨"GraphWriterModel", "descriptor", "(I)V"⟩) ∈ wd_W := wd_mem 987 (by decide +kernel) (by decide +kernel)
theorem wd_989 : (Cond.instanceMethod ⟨"GraphWriterModel", "descriptor", "(I)V"⟩) ∈ wd_W := wd_mem 989 (by decide +kernel) (by decide +kernel)
theorem wd_990 : (Cond.code ⟨"GraphWriterModel", "descriptor", "(I)V"⟩ prog_6_method_35_code 6 none) ∈ wd_W := wd_mem 990 (by decide +kernel) (by decide +kernel)
theorem wd_991 : (Cond.methodLink "GraphWriterModel" 183 ⟨"GraphWriterModel", "letter", "(I)V"⟩) ∈ wd_W := wd_mem 991 (by decide +kernel) (by decide +kernel)
theorem wd_993 : (Cond.instanceMethod ⟨"GraphWriterModel", "letter", "(I)V"⟩) ∈ wd_W := wd_mem 993 (by decide +kernel) (by decide +kernel)
theorem wd_994 : (Cond.code ⟨"GraphWriterModel", "letter", "(I)V"⟩ prog_6_method_29_code 2 none) ∈ wd_W := wd_mem 994 (by decide +kernel) (by decide +kernel)
theorem wd_995 : (Cond.methodLink "GraphWriterModel" 214 ⟨"GraphWriterModel", "enumBase", "()V"⟩) ∈ wd_W := wd_mem 995 (by decide +kernel) (by decide +kernel)
theorem wd_997 : (Cond.instanceMethod ⟨"GraphWriterModel", "enumBase", "()V"⟩) ∈ wd_W := wd_mem 997 (by decide +kernel) (by decide +kernel)
theorem wd_998 : (Cond.code ⟨"GraphWriterModel", "enumBase", "()V"⟩ prog_6_method_34_code 1 none) ∈ wd_W := wd_mem 998 (by decide +kernel) (by decide +kernel)
theorem wd_999 : (Cond.constantLong "GraphWriterModel" 202 (14 : Int64)) ∈ wd_W := wd_mem 999 (by decide +kernel) (by decide +kernel)
theorem wd_1000 : (Cond.constantLong "GraphWriterModel" 204 (7665538200524054894 : Int64)) ∈ wd_W := wd_mem 1000 (by decide +kernel) (by decide +kernel)
theorem wd_1001 : (Cond.constantLong "GraphWriterModel" 206 (113448431023469 : Int64)) ∈ wd_W := wd_mem 1001 (by decide +kernel) (by decide +kernel)
theorem wd_1002 : (Cond.constantLong "GraphWriterModel" 217 (3 : Int64)) ∈ wd_W := wd_mem 1002 (by decide +kernel) (by decide +kernel)
theorem wd_1003 : (Cond.methodLink "GraphWriterModel" 219 ⟨"GraphWriterModel", "arrange", "(I)I"⟩) ∈ wd_W := wd_mem 1003 (by decide +kernel) (by decide +kernel)
theorem wd_1005 : (Cond.instanceMethod ⟨"GraphWriterModel", "arrange", "(I)I"⟩) ∈ wd_W := wd_mem 1005 (by decide +kernel) (by decide +kernel)
theorem wd_1006 : (Cond.code ⟨"GraphWriterModel", "arrange", "(I)I"⟩ prog_6_method_30_code 6 (some FieldType.int)) ∈ wd_W := wd_mem 1006 (by decide +kernel) (by decide +kernel)
theorem wd_1007 : (Cond.methodLink "GraphWriterModel" 222 ⟨"GraphWriterModel", "fieldEntry", "(I)V"⟩) ∈ wd_W := wd_mem 1007 (by decide +kernel) (by decide +kernel)
theorem wd_1009 : (Cond.instanceMethod ⟨"GraphWriterModel", "fieldEntry", "(I)V"⟩) ∈ wd_W := wd_mem 1009 (by decide +kernel) (by decide +kernel)
theorem wd_1010 : (Cond.code ⟨"GraphWriterModel", "fieldEntry", "(I)V"⟩ prog_6_method_32_code 4 none) ∈ wd_W := wd_mem 1010 (by decide +kernel) (by decide +kernel)
theorem wd_1011 : (Cond.constantLong "GraphWriterModel" 167 (66 : Int64)) ∈ wd_W := wd_mem 1011 (by decide +kernel) (by decide +kernel)
theorem wd_1012 : (Cond.constantLong "GraphWriterModel" 169 (67 : Int64)) ∈ wd_W := wd_mem 1012 (by decide +kernel) (by decide +kernel)
theorem wd_1013 : (Cond.constantLong "GraphWriterModel" 171 (73 : Int64)) ∈ wd_W := wd_mem 1013 (by decide +kernel) (by decide +kernel)
theorem wd_1014 : (Cond.constantLong "GraphWriterModel" 173 (74 : Int64)) ∈ wd_W := wd_mem 1014 (by decide +kernel) (by decide +kernel)
theorem wd_1015 : (Cond.constantLong "GraphWriterModel" 175 (83 : Int64)) ∈ wd_W := wd_mem 1015 (by decide +kernel) (by decide +kernel)
theorem wd_1016 : (Cond.constantLong "GraphWriterModel" 177 (90 : Int64)) ∈ wd_W := wd_mem 1016 (by decide +kernel) (by decide +kernel)
theorem wd_1017 : (Cond.constantLong "GraphWriterModel" 179 (91 : Int64)) ∈ wd_W := wd_mem 1017 (by decide +kernel) (by decide +kernel)
theorem wd_1018 : (Cond.constantLong "GraphWriterModel" 181 (76 : Int64)) ∈ wd_W := wd_mem 1018 (by decide +kernel) (by decide +kernel)
theorem wd_1019 : (Cond.methodLink "GraphWriterModel" 195 ⟨"GraphWriterModel", "typeSigns", "(I)V"⟩) ∈ wd_W := wd_mem 1019 (by decide +kernel) (by decide +kernel)
theorem wd_1021 : (Cond.instanceMethod ⟨"GraphWriterModel", "typeSigns", "(I)V"⟩) ∈ wd_W := wd_mem 1021 (by decide +kernel) (by decide +kernel)
theorem wd_1022 : (Cond.code ⟨"GraphWriterModel", "typeSigns", "(I)V"⟩ prog_6_method_31_code 2 none) ∈ wd_W := wd_mem 1022 (by decide +kernel) (by decide +kernel)
theorem wd_1023 : (Cond.constantLong "GraphWriterModel" 159 (18 : Int64)) ∈ wd_W := wd_mem 1023 (by decide +kernel) (by decide +kernel)
theorem wd_1024 : (Cond.constantLong "GraphWriterModel" 161 (5506320655478385761 : Int64)) ∈ wd_W := wd_mem 1024 (by decide +kernel) (by decide +kernel)
theorem wd_1025 : (Cond.constantLong "GraphWriterModel" 163 (7955379284773332323 : Int64)) ∈ wd_W := wd_mem 1025 (by decide +kernel) (by decide +kernel)
theorem wd_1026 : (Cond.constantLong "GraphWriterModel" 165 (29755 : Int64)) ∈ wd_W := wd_mem 1026 (by decide +kernel) (by decide +kernel)
theorem wd_1027 : (Cond.methodLink "GraphWriterModel" 261 ⟨"GraphWriterModel", "abort", "(I)V"⟩) ∈ wd_W := wd_mem 1027 (by decide +kernel) (by decide +kernel)
theorem wd_1029 : (Cond.instanceMethod ⟨"GraphWriterModel", "abort", "(I)V"⟩) ∈ wd_W := wd_mem 1029 (by decide +kernel) (by decide +kernel)
theorem wd_1030 : (Cond.code ⟨"GraphWriterModel", "abort", "(I)V"⟩ prog_6_method_42_code 2 none) ∈ wd_W := wd_mem 1030 (by decide +kernel) (by decide +kernel)
theorem wd_1031 : (Cond.constantLong "GraphWriterModel" 269 (31609 : Int64)) ∈ wd_W := wd_mem 1031 (by decide +kernel) (by decide +kernel)
theorem wd_1032 : (Cond.constantLong "GraphWriterModel" 271 (121 : Int64)) ∈ wd_W := wd_mem 1032 (by decide +kernel) (by decide +kernel)
theorem wd_1033 : (Cond.constantLong "GraphWriterModel" 264 (115 : Int64)) ∈ wd_W := wd_mem 1033 (by decide +kernel) (by decide +kernel)
theorem wd_1034 : (Cond.methodLink "GraphWriterModel" 266 ⟨"GraphWriterModel", "parts", "(I)V"⟩) ∈ wd_W := wd_mem 1034 (by decide +kernel) (by decide +kernel)
theorem wd_1036 : (Cond.instanceMethod ⟨"GraphWriterModel", "parts", "(I)V"⟩) ∈ wd_W := wd_mem 1036 (by decide +kernel) (by decide +kernel)
theorem wd_1037 : (Cond.code ⟨"GraphWriterModel", "parts", "(I)V"⟩ prog_6_method_38_code 6 none) ∈ wd_W := wd_mem 1037 (by decide +kernel) (by decide +kernel)
theorem wd_1038 : (Cond.methodLink "GraphWriterModel" 285 ⟨"GraphWriterModel", "doOne", "()Z"⟩) ∈ wd_W := wd_mem 1038 (by decide +kernel) (by decide +kernel)
theorem wd_1040 : (Cond.instanceMethod ⟨"GraphWriterModel", "doOne", "()Z"⟩) ∈ wd_W := wd_mem 1040 (by decide +kernel) (by decide +kernel)
theorem wd_1041 : (Cond.code ⟨"GraphWriterModel", "doOne", "()Z"⟩ prog_6_method_43_code 6 (some FieldType.boolean)) ∈ wd_W := wd_mem 1041 (by decide +kernel) (by decide +kernel)
theorem wd_1042 : (Cond.methodLink "GraphWriterModel" 277 ⟨"GraphWriterModel", "width", "(I)I"⟩) ∈ wd_W := wd_mem 1042 (by decide +kernel) (by decide +kernel)
theorem wd_1044 : (Cond.instanceMethod ⟨"GraphWriterModel", "width", "(I)I"⟩) ∈ wd_W := wd_mem 1044 (by decide +kernel) (by decide +kernel)
theorem wd_1045 : (Cond.code ⟨"GraphWriterModel", "width", "(I)I"⟩ prog_6_method_28_code 2 (some FieldType.int)) ∈ wd_W := wd_mem 1045 (by decide +kernel) (by decide +kernel)
theorem wd_1046 : (Cond.constantLong "GraphWriterModel" 280 (30468 : Int64)) ∈ wd_W := wd_mem 1046 (by decide +kernel) (by decide +kernel)
theorem wd_1047 : (Cond.methodLink "GraphWriterModel" 289 ⟨"GraphWriterModel", "tooLong", "()Z"⟩) ∈ wd_W := wd_mem 1047 (by decide +kernel) (by decide +kernel)
theorem wd_1049 : (Cond.instanceMethod ⟨"GraphWriterModel", "tooLong", "()Z"⟩) ∈ wd_W := wd_mem 1049 (by decide +kernel) (by decide +kernel)
theorem wd_1050 : (Cond.code ⟨"GraphWriterModel", "tooLong", "()Z"⟩ prog_6_method_25_code 2 (some FieldType.boolean)) ∈ wd_W := wd_mem 1050 (by decide +kernel) (by decide +kernel)
theorem wd_1051 : (Cond.methodLink "GraphWriterLaw" 72 ⟨"GraphWriterModel", "reset", "()I"⟩) ∈ wd_W := wd_mem 1051 (by decide +kernel) (by decide +kernel)
theorem wd_1052 : (Cond.instanceMethod ⟨"GraphWriterModel", "reset", "()I"⟩) ∈ wd_W := wd_mem 1052 (by decide +kernel) (by decide +kernel)
theorem wd_1053 : (Cond.selects "GraphWriterModel" ⟨"GraphWriterModel", "reset", "()I"⟩ ⟨"GraphWriterModel", "reset", "()I"⟩) ∈ wd_W := wd_mem 1053 (by decide +kernel) (by decide +kernel)
theorem wd_1054 : (Cond.code ⟨"GraphWriterModel", "reset", "()I"⟩ prog_6_method_45_code 1 (some FieldType.int)) ∈ wd_W := wd_mem 1054 (by decide +kernel) (by decide +kernel)
theorem wd_1055 : (Cond.methodLink "GraphWriterLaw" 76 ⟨"GraphWriterModel", "byteAt", "(I)I"⟩) ∈ wd_W := wd_mem 1055 (by decide +kernel) (by decide +kernel)
theorem wd_1056 : (Cond.instanceMethod ⟨"GraphWriterModel", "byteAt", "(I)I"⟩) ∈ wd_W := wd_mem 1056 (by decide +kernel) (by decide +kernel)
theorem wd_1057 : (Cond.selects "GraphWriterModel" ⟨"GraphWriterModel", "byteAt", "(I)I"⟩ ⟨"GraphWriterModel", "byteAt", "(I)I"⟩) ∈ wd_W := wd_mem 1057 (by decide +kernel) (by decide +kernel)
theorem wd_1058 : (Cond.code ⟨"GraphWriterModel", "byteAt", "(I)I"⟩ prog_6_method_46_code 2 (some FieldType.int)) ∈ wd_W := wd_mem 1058 (by decide +kernel) (by decide +kernel)
theorem wd_1059 : (Cond.methodLink "GraphWriterLaw" 80 ⟨"GraphWriterModel", "handle", "(I)I"⟩) ∈ wd_W := wd_mem 1059 (by decide +kernel) (by decide +kernel)
theorem wd_1060 : (Cond.instanceMethod ⟨"GraphWriterModel", "handle", "(I)I"⟩) ∈ wd_W := wd_mem 1060 (by decide +kernel) (by decide +kernel)
theorem wd_1061 : (Cond.selects "GraphWriterModel" ⟨"GraphWriterModel", "handle", "(I)I"⟩ ⟨"GraphWriterModel", "handle", "(I)I"⟩) ∈ wd_W := wd_mem 1061 (by decide +kernel) (by decide +kernel)
theorem wd_1062 : (Cond.code ⟨"GraphWriterModel", "handle", "(I)I"⟩ prog_6_method_47_code 2 (some FieldType.int)) ∈ wd_W := wd_mem 1062 (by decide +kernel) (by decide +kernel)
theorem wd_1063 : (Cond.methodLink "GraphWriterLaw" 84 ⟨"GraphWriterModel", "count", "(I)I"⟩) ∈ wd_W := wd_mem 1063 (by decide +kernel) (by decide +kernel)
theorem wd_1064 : (Cond.instanceMethod ⟨"GraphWriterModel", "count", "(I)I"⟩) ∈ wd_W := wd_mem 1064 (by decide +kernel) (by decide +kernel)
theorem wd_1065 : (Cond.selects "GraphWriterModel" ⟨"GraphWriterModel", "count", "(I)I"⟩ ⟨"GraphWriterModel", "count", "(I)I"⟩) ∈ wd_W := wd_mem 1065 (by decide +kernel) (by decide +kernel)
theorem wd_1066 : (Cond.code ⟨"GraphWriterModel", "count", "(I)I"⟩ prog_6_method_48_code 4 (some FieldType.int)) ∈ wd_W := wd_mem 1066 (by decide +kernel) (by decide +kernel)
theorem wd_1067 : (Cond.methodLink "GraphWriterLaw" 88 ⟨"GraphWriterModel", "object", "(II)I"⟩) ∈ wd_W := wd_mem 1067 (by decide +kernel) (by decide +kernel)
theorem wd_1068 : (Cond.instanceMethod ⟨"GraphWriterModel", "object", "(II)I"⟩) ∈ wd_W := wd_mem 1068 (by decide +kernel) (by decide +kernel)
theorem wd_1069 : (Cond.selects "GraphWriterModel" ⟨"GraphWriterModel", "object", "(II)I"⟩ ⟨"GraphWriterModel", "object", "(II)I"⟩) ∈ wd_W := wd_mem 1069 (by decide +kernel) (by decide +kernel)
theorem wd_1070 : (Cond.code ⟨"GraphWriterModel", "object", "(II)I"⟩ prog_6_method_49_code 3 (some FieldType.int)) ∈ wd_W := wd_mem 1070 (by decide +kernel) (by decide +kernel)
theorem wd_1071 : (Cond.constantLong "GraphWriterLaw" 13 (4294967295 : Int64)) ∈ wd_W := wd_mem 1071 (by decide +kernel) (by decide +kernel)
theorem wd_1072 : (Cond.sameMethod "java/lang/AbstractStringBuilder" "java/lang/AbstractStringBuilder" "append" "(C)Ljava/lang/AbstractStringBuilder;") ∈ wd_W := wd_mem 1072 (by decide +kernel) (by decide +kernel)
theorem wd_1073 : (Cond.sameMethod "java/lang/AbstractStringBuilder" "java/lang/AbstractStringBuilder" "ensureCapacityInternal" "(I)V") ∈ wd_W := wd_mem 1073 (by decide +kernel) (by decide +kernel)
theorem wd_1074 : (Cond.sameMethod "java/lang/AbstractStringBuilder" "java/lang/AbstractStringBuilder" "newCapacity" "(I)I") ∈ wd_W := wd_mem 1074 (by decide +kernel) (by decide +kernel)
theorem wd_1075 : (Cond.sameMethod "java/lang/AbstractStringBuilder" "java/lang/AbstractStringBuilder" "inflate" "()V") ∈ wd_W := wd_mem 1075 (by decide +kernel) (by decide +kernel)
end
section
abbrev b_G_init : ByteArray := prog_1_method_1_code
abbrev y_G_init : MethodName := ⟨"GraphWriter", "<init>", "()V"⟩
abbrev c_G_init : Cond := .code y_G_init b_G_init 1 none
abbrev b_JO_init : ByteArray := object_method_1_code
abbrev y_JO_init : MethodName := ⟨"java/lang/Object", "<init>", "()V"⟩
abbrev c_JO_init : Cond := .code y_JO_init b_JO_init 1 none
abbrev b_O_init : ByteArray := prog_3_method_1_code
abbrev y_O_init : MethodName := ⟨"GraphWriter$Out", "<init>", "()V"⟩
abbrev c_O_init : Cond := .code y_O_init b_O_init 1 none
abbrev b_O_forgetHandles : ByteArray := prog_3_method_9_code
abbrev y_O_forgetHandles : MethodName := ⟨"GraphWriter$Out", "forgetHandles", "()V"⟩
abbrev c_O_forgetHandles : Cond := .code y_O_forgetHandles b_O_forgetHandles 1 none
abbrev b_JR_fill : ByteArray := prog_15_method_103_code
abbrev y_JR_fill : MethodName := ⟨"java/util/Arrays", "fill", "([II)V"⟩
abbrev c_JR_fill : Cond := .code y_JR_fill b_JR_fill 4 none
abbrev b_O_put : ByteArray := prog_3_method_5_code
abbrev y_O_put : MethodName := ⟨"GraphWriter$Out", "put", "(JI)V"⟩
abbrev c_O_put : Cond := .code y_O_put b_O_put 5 none
abbrev b_G_define : ByteArray := prog_1_method_2_code
abbrev y_G_define : MethodName := ⟨"GraphWriter", "define", "(IIIJ)I"⟩
abbrev c_G_define : Cond := .code y_G_define b_G_define 6 (some FieldType.int)
abbrev b_G_mayStandAbove : ByteArray := prog_1_method_22_code
abbrev y_G_mayStandAbove : MethodName := ⟨"GraphWriter", "mayStandAbove", "(II)Z"⟩
abbrev c_G_mayStandAbove : Cond := .code y_G_mayStandAbove b_G_mayStandAbove 4 (some FieldType.boolean)
abbrev b_G_isDefined : ByteArray := prog_1_method_18_code
abbrev y_G_isDefined : MethodName := ⟨"GraphWriter", "isDefined", "(I)Z"⟩
abbrev c_G_isDefined : Cond := .code y_G_isDefined b_G_isDefined 2 (some FieldType.boolean)
abbrev b_G_chainTo : ByteArray := prog_1_method_23_code
abbrev y_G_chainTo : MethodName := ⟨"GraphWriter", "chainTo", "(II)[I"⟩
abbrev c_G_chainTo : Cond := .code y_G_chainTo b_G_chainTo 5 (some (FieldType.array FieldType.int))
abbrev b_JR_copyOf1 : ByteArray := prog_15_method_123_code
abbrev y_JR_copyOf1 : MethodName := ⟨"java/util/Arrays", "copyOf", "([II)[I"⟩
abbrev c_JR_copyOf1 : Cond := .code y_JR_copyOf1 b_JR_copyOf1 3 (some (FieldType.array FieldType.int))
abbrev b_JM_min : ByteArray := prog_9_method_69_code
abbrev y_JM_min : MethodName := ⟨"java/lang/Math", "min", "(II)I"⟩
abbrev c_JM_min : Cond := .code y_JM_min b_JM_min 2 (some FieldType.int)
abbrev b_D_init : ByteArray := prog_2_method_1_code
abbrev y_D_init : MethodName := ⟨"GraphWriter$Defined", "<init>", "(IIJ[I)V"⟩
abbrev c_D_init : Cond := .code y_D_init b_D_init 6 none
abbrev b_JS_substring : ByteArray := prog_10_method_92_code
abbrev y_JS_substring : MethodName := ⟨"java/lang/String", "substring", "(II)Ljava/lang/String;"⟩
abbrev c_JS_substring : Cond := .code y_JS_substring b_JS_substring 5 (some (FieldType.object "java/lang/String"))
abbrev b_JS_length : ByteArray := prog_10_method_54_code
abbrev y_JS_length : MethodName := ⟨"java/lang/String", "length", "()I"⟩
abbrev c_JS_length : Cond := .code y_JS_length b_JS_length 1 (some FieldType.int)
abbrev b_JS_coder : ByteArray := prog_10_method_152_code
abbrev y_JS_coder : MethodName := ⟨"java/lang/String", "coder", "()B"⟩
abbrev c_JS_coder : Cond := .code y_JS_coder b_JS_coder 1 (some FieldType.byte)
abbrev b_JS_checkBoundsBeginEnd : ByteArray := prog_10_method_158_code
abbrev y_JS_checkBoundsBeginEnd : MethodName := ⟨"java/lang/String", "checkBoundsBeginEnd", "(III)V"⟩
abbrev c_JS_checkBoundsBeginEnd : Cond := .code y_JS_checkBoundsBeginEnd b_JS_checkBoundsBeginEnd 3 none
abbrev b_JC_checkFromToIndex : ByteArray := prog_17_method_12_code
abbrev y_JC_checkFromToIndex : MethodName := ⟨"jdk/internal/util/Preconditions", "checkFromToIndex", "(IIILjava/util/function/BiFunction;)I"⟩
abbrev c_JC_checkFromToIndex : Cond := .code y_JC_checkFromToIndex b_JC_checkFromToIndex 4 (some FieldType.int)
abbrev b_JS_isLatin1 : ByteArray := prog_10_method_154_code
abbrev y_JS_isLatin1 : MethodName := ⟨"java/lang/String", "isLatin1", "()Z"⟩
abbrev c_JS_isLatin1 : Cond := .code y_JS_isLatin1 b_JS_isLatin1 1 (some FieldType.boolean)
abbrev b_JL_newString : ByteArray := prog_12_method_47_code
abbrev y_JL_newString : MethodName := ⟨"java/lang/StringLatin1", "newString", "([BII)Ljava/lang/String;"⟩
abbrev c_JL_newString : Cond := .code y_JL_newString b_JL_newString 3 (some (FieldType.object "java/lang/String"))
abbrev b_JR_copyOfRange : ByteArray := prog_15_method_132_code
abbrev y_JR_copyOfRange : MethodName := ⟨"java/util/Arrays", "copyOfRange", "([BII)[B"⟩
abbrev c_JR_copyOfRange : Cond := .code y_JR_copyOfRange b_JR_copyOfRange 3 (some (FieldType.array FieldType.byte))
abbrev b_JR_copyOfRangeByte : ByteArray := prog_15_method_133_code
abbrev y_JR_copyOfRangeByte : MethodName := ⟨"java/util/Arrays", "copyOfRangeByte", "([BII)[B"⟩
abbrev c_JR_copyOfRangeByte : Cond := .code y_JR_copyOfRangeByte b_JR_copyOfRangeByte 5 (some (FieldType.array FieldType.byte))
abbrev b_JR_checkLength : ByteArray := prog_15_method_131_code
abbrev y_JR_checkLength : MethodName := ⟨"java/util/Arrays", "checkLength", "(II)V"⟩
abbrev c_JR_checkLength : Cond := .code y_JR_checkLength b_JR_checkLength 2 none
abbrev b_JS_init1 : ByteArray := prog_10_method_151_code
abbrev y_JS_init1 : MethodName := ⟨"java/lang/String", "<init>", "([BB)V"⟩
abbrev c_JS_init1 : Cond := .code y_JS_init1 b_JS_init1 3 none
abbrev b_JU_newString : ByteArray := prog_13_method_69_code
abbrev y_JU_newString : MethodName := ⟨"java/lang/StringUTF16", "newString", "([BII)Ljava/lang/String;"⟩
abbrev c_JU_newString : Cond := .code y_JU_newString b_JU_newString 5 (some (FieldType.object "java/lang/String"))
abbrev b_JU_compress1 : ByteArray := prog_13_method_17_code
abbrev y_JU_compress1 : MethodName := ⟨"java/lang/StringUTF16", "compress", "([BII)[B"⟩
abbrev c_JU_compress1 : Cond := .code y_JU_compress1 b_JU_compress1 6 (some (FieldType.array FieldType.byte))
abbrev b_JU_compress2 : ByteArray := prog_13_method_22_code
abbrev y_JU_compress2 : MethodName := ⟨"java/lang/StringUTF16", "compress", "([BI[BII)I"⟩
abbrev c_JU_compress2 : Cond := .code y_JU_compress2 b_JU_compress2 7 (some FieldType.int)
abbrev b_JU_checkBoundsOffCount : ByteArray := prog_13_method_94_code
abbrev y_JU_checkBoundsOffCount : MethodName := ⟨"java/lang/StringUTF16", "checkBoundsOffCount", "(II[B)V"⟩
abbrev c_JU_checkBoundsOffCount : Cond := .code y_JU_checkBoundsOffCount b_JU_checkBoundsOffCount 3 none
abbrev b_JU_length : ByteArray := prog_13_method_6_code
abbrev y_JU_length : MethodName := ⟨"java/lang/StringUTF16", "length", "([B)I"⟩
abbrev c_JU_length : Cond := .code y_JU_length b_JU_length 1 (some FieldType.int)
abbrev b_JS_checkBoundsOffCount : ByteArray := prog_10_method_157_code
abbrev y_JS_checkBoundsOffCount : MethodName := ⟨"java/lang/String", "checkBoundsOffCount", "(III)I"⟩
abbrev c_JS_checkBoundsOffCount : Cond := .code y_JS_checkBoundsOffCount b_JS_checkBoundsOffCount 3 (some FieldType.int)
abbrev b_JC_checkFromIndexSize : ByteArray := prog_17_method_13_code
abbrev y_JC_checkFromIndexSize : MethodName := ⟨"jdk/internal/util/Preconditions", "checkFromIndexSize", "(IIILjava/util/function/BiFunction;)I"⟩
abbrev c_JC_checkFromIndexSize : Cond := .code y_JC_checkFromIndexSize b_JC_checkFromIndexSize 4 (some FieldType.int)
abbrev b_JU_getChar : ByteArray := prog_13_method_5_code
abbrev y_JU_getChar : MethodName := ⟨"java/lang/StringUTF16", "getChar", "([BI)C"⟩
abbrev c_JU_getChar : Cond := .code y_JU_getChar b_JU_getChar 2 (some FieldType.char)
abbrev b_JU_newBytesLength : ByteArray := prog_13_method_3_code
abbrev y_JU_newBytesLength : MethodName := ⟨"java/lang/StringUTF16", "newBytesLength", "(I)I"⟩
abbrev c_JU_newBytesLength : Cond := .code y_JU_newBytesLength b_JU_newBytesLength 1 (some FieldType.int)
abbrev b_JU_coderFromArrayLen : ByteArray := prog_13_method_15_code
abbrev y_JU_coderFromArrayLen : MethodName := ⟨"java/lang/StringUTF16", "coderFromArrayLen", "([BI)B"⟩
abbrev c_JU_coderFromArrayLen : Cond := .code y_JU_coderFromArrayLen b_JU_coderFromArrayLen 2 (some FieldType.byte)
abbrev b_G_field : ByteArray := prog_1_method_3_code
abbrev y_G_field : MethodName := ⟨"GraphWriter", "field", "(IIIZ)I"⟩
abbrev c_G_field : Cond := .code y_G_field b_G_field 6 (some FieldType.int)
abbrev b_D_hasField : ByteArray := prog_2_method_3_code
abbrev y_D_hasField : MethodName := ⟨"GraphWriter$Defined", "hasField", "(I)Z"⟩
abbrev c_D_hasField : Cond := .code y_D_hasField b_D_hasField 3 (some FieldType.boolean)
abbrev b_D_addField : ByteArray := prog_2_method_4_code
abbrev y_D_addField : MethodName := ⟨"GraphWriter$Defined", "addField", "(IIZ)V"⟩
abbrev c_D_addField : Cond := .code y_D_addField b_D_addField 4 none
abbrev b_D_putInOrder : ByteArray := prog_2_method_5_code
abbrev y_D_putInOrder : MethodName := ⟨"GraphWriter$Defined", "putInOrder", "(I)V"⟩
abbrev c_D_putInOrder : Cond := .code y_D_putInOrder b_D_putInOrder 3 none
abbrev b_D_rank : ByteArray := prog_2_method_6_code
abbrev y_D_rank : MethodName := ⟨"GraphWriter$Defined", "rank", "(I)I"⟩
abbrev c_D_rank : Cond := .code y_D_rank b_D_rank 2 (some FieldType.int)
abbrev b_G_instance : ByteArray := prog_1_method_4_code
abbrev y_G_instance : MethodName := ⟨"GraphWriter", "instance", "(I)I"⟩
abbrev c_G_instance : Cond := .code y_G_instance b_G_instance 4 (some FieldType.int)
abbrev b_G_slotTypes : ByteArray := prog_1_method_24_code
abbrev y_G_slotTypes : MethodName := ⟨"GraphWriter", "slotTypes", "([I)[I"⟩
abbrev c_G_slotTypes : Cond := .code y_G_slotTypes b_G_slotTypes 7 (some (FieldType.array FieldType.int))
abbrev b_T_init : ByteArray := prog_4_method_1_code
abbrev y_T_init : MethodName := ⟨"GraphWriter$Thing", "<init>", "(II[ILjava/lang/String;)V"⟩
abbrev c_T_init : Cond := .code y_T_init b_T_init 6 none
abbrev b_G_keep : ByteArray := prog_1_method_26_code
abbrev y_G_keep : MethodName := ⟨"GraphWriter", "keep", "(LGraphWriter$Thing;)I"⟩
abbrev c_G_keep : Cond := .code y_G_keep b_G_keep 2 (some FieldType.int)
abbrev b_G_text : ByteArray := prog_1_method_5_code
abbrev y_G_text : MethodName := ⟨"GraphWriter", "text", "(J)I"⟩
abbrev c_G_text : Cond := .code y_G_text b_G_text 3 (some FieldType.int)
abbrev b_G_signsOf : ByteArray := prog_1_method_25_code
abbrev y_G_signsOf : MethodName := ⟨"GraphWriter", "signsOf", "(J)Ljava/lang/String;"⟩
abbrev c_G_signsOf : Cond := .code y_G_signsOf b_G_signsOf 5 (some (FieldType.object "java/lang/String"))
abbrev b_JB_init : ByteArray := prog_11_method_1_code
abbrev y_JB_init : MethodName := ⟨"java/lang/StringBuilder", "<init>", "()V"⟩
abbrev c_JB_init : Cond := .code y_JB_init b_JB_init 1 none
abbrev b_JA_init : ByteArray := prog_7_method_2_code
abbrev y_JA_init : MethodName := ⟨"java/lang/AbstractStringBuilder", "<init>", "(I)V"⟩
abbrev c_JA_init : Cond := .code y_JA_init b_JA_init 2 none
abbrev b_JU_newBytesFor : ByteArray := prog_13_method_2_code
abbrev y_JU_newBytesFor : MethodName := ⟨"java/lang/StringUTF16", "newBytesFor", "(I)[B"⟩
abbrev c_JU_newBytesFor : Cond := .code y_JU_newBytesFor b_JU_newBytesFor 1 (some (FieldType.array FieldType.byte))
abbrev b_JB_append : ByteArray := prog_11_method_14_code
abbrev y_JB_append : MethodName := ⟨"java/lang/StringBuilder", "append", "(C)Ljava/lang/StringBuilder;"⟩
abbrev c_JB_append : Cond := .code y_JB_append b_JB_append 2 (some (FieldType.object "java/lang/StringBuilder"))
abbrev b_JA_append : ByteArray := prog_7_method_31_code
abbrev y_JA_append : MethodName := ⟨"java/lang/AbstractStringBuilder", "append", "(C)Ljava/lang/AbstractStringBuilder;"⟩
abbrev c_JA_append : Cond := .code y_JA_append b_JA_append 2 (some (FieldType.object "java/lang/AbstractStringBuilder"))
abbrev b_JA_ensureCapacityInternal : ByteArray := prog_7_method_9_code
abbrev y_JA_ensureCapacityInternal : MethodName := ⟨"java/lang/AbstractStringBuilder", "ensureCapacityInternal", "(I)V"⟩
abbrev c_JA_ensureCapacityInternal : Cond := .code y_JA_ensureCapacityInternal b_JA_ensureCapacityInternal 3 none
abbrev b_JA_newCapacity : ByteArray := prog_7_method_10_code
abbrev y_JA_newCapacity : MethodName := ⟨"java/lang/AbstractStringBuilder", "newCapacity", "(I)I"⟩
abbrev c_JA_newCapacity : Cond := .code y_JA_newCapacity b_JA_newCapacity 6 (some FieldType.int)
abbrev b_JP_newLength : ByteArray := prog_16_method_27_code
abbrev y_JP_newLength : MethodName := ⟨"jdk/internal/util/ArraysSupport", "newLength", "(III)I"⟩
abbrev c_JP_newLength : Cond := .code y_JP_newLength b_JP_newLength 4 (some FieldType.int)
abbrev b_JM_max : ByteArray := prog_9_method_65_code
abbrev y_JM_max : MethodName := ⟨"java/lang/Math", "max", "(II)I"⟩
abbrev c_JM_max : Cond := .code y_JM_max b_JM_max 2 (some FieldType.int)
abbrev b_JP_hugeLength : ByteArray := prog_16_method_28_code
abbrev y_JP_hugeLength : MethodName := ⟨"jdk/internal/util/ArraysSupport", "hugeLength", "(II)I"⟩
abbrev c_JP_hugeLength : Cond := .code y_JP_hugeLength b_JP_hugeLength 3 (some FieldType.int)
abbrev b_JR_copyOf2 : ByteArray := prog_15_method_121_code
abbrev y_JR_copyOf2 : MethodName := ⟨"java/util/Arrays", "copyOf", "([BI)[B"⟩
abbrev c_JR_copyOf2 : Cond := .code y_JR_copyOf2 b_JR_copyOf2 3 (some (FieldType.array FieldType.byte))
abbrev b_JA_isLatin1 : ByteArray := prog_7_method_68_code
abbrev y_JA_isLatin1 : MethodName := ⟨"java/lang/AbstractStringBuilder", "isLatin1", "()Z"⟩
abbrev c_JA_isLatin1 : Cond := .code y_JA_isLatin1 b_JA_isLatin1 1 (some FieldType.boolean)
abbrev b_JL_canEncode : ByteArray := prog_12_method_3_code
abbrev y_JL_canEncode : MethodName := ⟨"java/lang/StringLatin1", "canEncode", "(C)Z"⟩
abbrev c_JL_canEncode : Cond := .code y_JL_canEncode b_JL_canEncode 1 (some FieldType.boolean)
abbrev b_JA_inflate : ByteArray := prog_7_method_11_code
abbrev y_JA_inflate : MethodName := ⟨"java/lang/AbstractStringBuilder", "inflate", "()V"⟩
abbrev c_JA_inflate : Cond := .code y_JA_inflate b_JA_inflate 2 none
abbrev b_JL_inflate : ByteArray := prog_12_method_50_code
abbrev y_JL_inflate : MethodName := ⟨"java/lang/StringLatin1", "inflate", "([BI[BII)V"⟩
abbrev c_JL_inflate : Cond := .code y_JL_inflate b_JL_inflate 5 none
abbrev b_JU_inflate : ByteArray := prog_13_method_86_code
abbrev y_JU_inflate : MethodName := ⟨"java/lang/StringUTF16", "inflate", "([BI[BII)V"⟩
abbrev c_JU_inflate : Cond := .code y_JU_inflate b_JU_inflate 6 none
abbrev b_JU_putChar : ByteArray := prog_13_method_4_code
abbrev y_JU_putChar : MethodName := ⟨"java/lang/StringUTF16", "putChar", "([BII)V"⟩
abbrev c_JU_putChar : Cond := .code y_JU_putChar b_JU_putChar 3 none
abbrev b_JU_putCharSB : ByteArray := prog_13_method_71_code
abbrev y_JU_putCharSB : MethodName := ⟨"java/lang/StringUTF16", "putCharSB", "([BII)V"⟩
abbrev c_JU_putCharSB : Cond := .code y_JU_putCharSB b_JU_putCharSB 3 none
abbrev b_JU_checkIndex : ByteArray := prog_13_method_91_code
abbrev y_JU_checkIndex : MethodName := ⟨"java/lang/StringUTF16", "checkIndex", "(I[B)V"⟩
abbrev c_JU_checkIndex : Cond := .code y_JU_checkIndex b_JU_checkIndex 2 none
abbrev b_JS_checkIndex : ByteArray := prog_10_method_155_code
abbrev y_JS_checkIndex : MethodName := ⟨"java/lang/String", "checkIndex", "(II)V"⟩
abbrev c_JS_checkIndex : Cond := .code y_JS_checkIndex b_JS_checkIndex 2 none
abbrev b_JC_checkIndex : ByteArray := prog_17_method_11_code
abbrev y_JC_checkIndex : MethodName := ⟨"jdk/internal/util/Preconditions", "checkIndex", "(IILjava/util/function/BiFunction;)I"⟩
abbrev c_JC_checkIndex : Cond := .code y_JC_checkIndex b_JC_checkIndex 3 (some FieldType.int)
abbrev b_JB_toString : ByteArray := prog_11_method_42_code
abbrev y_JB_toString : MethodName := ⟨"java/lang/StringBuilder", "toString", "()Ljava/lang/String;"⟩
abbrev c_JB_toString : Cond := .code y_JB_toString b_JB_toString 1 (some (FieldType.object "java/lang/String"))
abbrev b_JS_init2 : ByteArray := prog_10_method_53_code
abbrev y_JS_init2 : MethodName := ⟨"java/lang/String", "<init>", "(Ljava/lang/StringBuilder;)V"⟩
abbrev c_JS_init2 : Cond := .code y_JS_init2 b_JS_init2 2 none
abbrev b_JS_init3 : ByteArray := prog_10_method_150_code
abbrev y_JS_init3 : MethodName := ⟨"java/lang/String", "<init>", "(Ljava/lang/AbstractStringBuilder;Ljava/lang/Void;)V"⟩
abbrev c_JS_init3 : Cond := .code y_JS_init3 b_JS_init3 5 none
abbrev b_JA_getValue : ByteArray := prog_7_method_64_code
abbrev y_JA_getValue : MethodName := ⟨"java/lang/AbstractStringBuilder", "getValue", "()[B"⟩
abbrev c_JA_getValue : Cond := .code y_JA_getValue b_JA_getValue 1 (some (FieldType.array FieldType.byte))
abbrev b_JB_length : ByteArray := prog_11_method_93_code
abbrev y_JB_length : MethodName := ⟨"java/lang/StringBuilder", "length", "()I"⟩
abbrev c_JB_length : Cond := .code y_JB_length b_JB_length 1 (some FieldType.int)
abbrev b_JA_length : ByteArray := prog_7_method_6_code
abbrev y_JA_length : MethodName := ⟨"java/lang/AbstractStringBuilder", "length", "()I"⟩
abbrev c_JA_length : Cond := .code y_JA_length b_JA_length 1 (some FieldType.int)
abbrev b_G_array : ByteArray := prog_1_method_6_code
abbrev y_G_array : MethodName := ⟨"GraphWriter", "array", "(ZI)I"⟩
abbrev c_G_array : Cond := .code y_G_array b_G_array 4 (some FieldType.int)
abbrev b_G_constant : ByteArray := prog_1_method_7_code
abbrev y_G_constant : MethodName := ⟨"GraphWriter", "constant", "(II)I"⟩
abbrev c_G_constant : Cond := .code y_G_constant b_G_constant 4 (some FieldType.int)
abbrev b_G_set : ByteArray := prog_1_method_8_code
abbrev y_G_set : MethodName := ⟨"GraphWriter", "set", "(IIJ)I"⟩
abbrev c_G_set : Cond := .code y_G_set b_G_set 6 (some FieldType.int)
abbrev b_G_isMade : ByteArray := prog_1_method_19_code
abbrev y_G_isMade : MethodName := ⟨"GraphWriter", "isMade", "(I)Z"⟩
abbrev c_G_isMade : Cond := .code y_G_isMade b_G_isMade 2 (some FieldType.boolean)
abbrev b_G_mayBeHeld : ByteArray := prog_1_method_27_code
abbrev y_G_mayBeHeld : MethodName := ⟨"GraphWriter", "mayBeHeld", "(JI)Z"⟩
abbrev c_G_mayBeHeld : Cond := .code y_G_mayBeHeld b_G_mayBeHeld 4 (some FieldType.boolean)
abbrev b_G_replace : ByteArray := prog_1_method_9_code
abbrev y_G_replace : MethodName := ⟨"GraphWriter", "replace", "(II)I"⟩
abbrev c_G_replace : Cond := .code y_G_replace b_G_replace 3 (some FieldType.int)
abbrev b_G_isInstance : ByteArray := prog_1_method_20_code
abbrev y_G_isInstance : MethodName := ⟨"GraphWriter", "isInstance", "(I)Z"⟩
abbrev c_G_isInstance : Cond := .code y_G_isInstance b_G_isInstance 2 (some FieldType.boolean)
abbrev b_G_extra : ByteArray := prog_1_method_10_code
abbrev y_G_extra : MethodName := ⟨"GraphWriter", "extra", "(II)I"⟩
abbrev c_G_extra : Cond := .code y_G_extra b_G_extra 3 (some FieldType.int)
abbrev b_G_data : ByteArray := prog_1_method_11_code
abbrev y_G_data : MethodName := ⟨"GraphWriter", "data", "(JI)I"⟩
abbrev c_G_data : Cond := .code y_G_data b_G_data 4 (some FieldType.int)
abbrev b_O_hasRoomToWait : ByteArray := prog_3_method_15_code
abbrev y_O_hasRoomToWait : MethodName := ⟨"GraphWriter$Out", "hasRoomToWait", "(I)Z"⟩
abbrev c_O_hasRoomToWait : Cond := .code y_O_hasRoomToWait b_O_hasRoomToWait 3 (some FieldType.boolean)
abbrev b_O_letWait : ByteArray := prog_3_method_16_code
abbrev y_O_letWait : MethodName := ⟨"GraphWriter$Out", "letWait", "(JI)V"⟩
abbrev c_O_letWait : Cond := .code y_O_letWait b_O_letWait 5 none
abbrev b_O_flush : ByteArray := prog_3_method_17_code
abbrev y_O_flush : MethodName := ⟨"GraphWriter$Out", "flush", "()V"⟩
abbrev c_O_flush : Cond := .code y_O_flush b_O_flush 2 none
abbrev b_G_write : ByteArray := prog_1_method_12_code
abbrev y_G_write : MethodName := ⟨"GraphWriter", "write", "(IZ)I"⟩
abbrev c_G_write : Cond := .code y_G_write b_G_write 3 (some FieldType.int)
abbrev b_O_begin : ByteArray := prog_3_method_2_code
abbrev y_O_begin : MethodName := ⟨"GraphWriter$Out", "begin", "()V"⟩
abbrev c_O_begin : Cond := .code y_O_begin b_O_begin 1 none
abbrev b_G_writeObject : ByteArray := prog_1_method_28_code
abbrev y_G_writeObject : MethodName := ⟨"GraphWriter", "writeObject", "(IZI)V"⟩
abbrev c_G_writeObject : Cond := .code y_G_writeObject b_G_writeObject 5 none
abbrev b_G_replaced : ByteArray := prog_1_method_29_code
abbrev y_G_replaced : MethodName := ⟨"GraphWriter", "replaced", "(I)I"⟩
abbrev c_G_replaced : Cond := .code y_G_replaced b_G_replaced 6 (some FieldType.int)
abbrev b_O_putReference : ByteArray := prog_3_method_10_code
abbrev y_O_putReference : MethodName := ⟨"GraphWriter$Out", "putReference", "(I)Z"⟩
abbrev c_O_putReference : Cond := .code y_O_putReference b_O_putReference 2 (some FieldType.boolean)
abbrev b_O_putText : ByteArray := prog_3_method_11_code
abbrev y_O_putText : MethodName := ⟨"GraphWriter$Out", "putText", "(ILjava/lang/String;)V"⟩
abbrev c_O_putText : Cond := .code y_O_putText b_O_putText 3 none
abbrev b_O_giveHandle : ByteArray := prog_3_method_8_code
abbrev y_O_giveHandle : MethodName := ⟨"GraphWriter$Out", "giveHandle", "(I)V"⟩
abbrev c_O_giveHandle : Cond := .code y_O_giveHandle b_O_giveHandle 2 none
abbrev b_O_putUtf : ByteArray := prog_3_method_6_code
abbrev y_O_putUtf : MethodName := ⟨"GraphWriter$Out", "putUtf", "(Ljava/lang/String;)V"⟩
abbrev c_O_putUtf : Cond := .code y_O_putUtf b_O_putUtf 3 none
abbrev b_JS_charAt : ByteArray := prog_10_method_56_code
abbrev y_JS_charAt : MethodName := ⟨"java/lang/String", "charAt", "(I)C"⟩
abbrev c_JS_charAt : Cond := .code y_JS_charAt b_JS_charAt 2 (some FieldType.char)
abbrev b_JL_charAt : ByteArray := prog_12_method_2_code
abbrev y_JL_charAt : MethodName := ⟨"java/lang/StringLatin1", "charAt", "([BI)C"⟩
abbrev c_JL_charAt : Cond := .code y_JL_charAt b_JL_charAt 2 (some FieldType.char)
abbrev b_JU_charAt : ByteArray := prog_13_method_83_code
abbrev y_JU_charAt : MethodName := ⟨"java/lang/StringUTF16", "charAt", "([BI)C"⟩
abbrev c_JU_charAt : Cond := .code y_JU_charAt b_JU_charAt 2 (some FieldType.char)
abbrev b_G_writeInts : ByteArray := prog_1_method_30_code
abbrev y_G_writeInts : MethodName := ⟨"GraphWriter", "writeInts", "(I)V"⟩
abbrev c_G_writeInts : Cond := .code y_G_writeInts b_G_writeInts 4 none
abbrev b_O_openDescriptor : ByteArray := prog_3_method_12_code
abbrev y_O_openDescriptor : MethodName := ⟨"GraphWriter$Out", "openDescriptor", "(ILjava/lang/String;JII)Z"⟩
abbrev c_O_openDescriptor : Cond := .code y_O_openDescriptor b_O_openDescriptor 7 (some FieldType.boolean)
abbrev b_O_closeTopDescriptor : ByteArray := prog_3_method_13_code
abbrev y_O_closeTopDescriptor : MethodName := ⟨"GraphWriter$Out", "closeTopDescriptor", "()V"⟩
abbrev c_O_closeTopDescriptor : Cond := .code y_O_closeTopDescriptor b_O_closeTopDescriptor 1 none
abbrev b_G_writeRefs : ByteArray := prog_1_method_31_code
abbrev y_G_writeRefs : MethodName := ⟨"GraphWriter", "writeRefs", "(II)V"⟩
abbrev c_G_writeRefs : Cond := .code y_G_writeRefs b_G_writeRefs 5 none
abbrev b_G_writeConstant : ByteArray := prog_1_method_32_code
abbrev y_G_writeConstant : MethodName := ⟨"GraphWriter", "writeConstant", "(I)V"⟩
abbrev c_G_writeConstant : Cond := .code y_G_writeConstant b_G_writeConstant 3 none
abbrev b_G_writeDescriptor : ByteArray := prog_1_method_35_code
abbrev y_G_writeDescriptor : MethodName := ⟨"GraphWriter", "writeDescriptor", "(LGraphWriter$Defined;)V"⟩
abbrev c_G_writeDescriptor : Cond := .code y_G_writeDescriptor b_G_writeDescriptor 6 none
abbrev b_D_flags : ByteArray := prog_2_method_2_code
abbrev y_D_flags : MethodName := ⟨"GraphWriter$Defined", "flags", "()I"⟩
abbrev c_D_flags : Cond := .code y_D_flags b_D_flags 1 (some FieldType.int)
abbrev b_O_putSign : ByteArray := prog_3_method_7_code
abbrev y_O_putSign : MethodName := ⟨"GraphWriter$Out", "putSign", "(C)V"⟩
abbrev c_O_putSign : Cond := .code y_O_putSign b_O_putSign 2 none
abbrev b_G_writeInstance : ByteArray := prog_1_method_33_code
abbrev y_G_writeInstance : MethodName := ⟨"GraphWriter", "writeInstance", "(II)V"⟩
abbrev c_G_writeInstance : Cond := .code y_G_writeInstance b_G_writeInstance 8 none
abbrev b_O_abort : ByteArray := prog_3_method_14_code
abbrev y_O_abort : MethodName := ⟨"GraphWriter$Out", "abort", "(Ljava/lang/String;)V"⟩
abbrev c_O_abort : Cond := .code y_O_abort b_O_abort 2 none
abbrev b_G_writeParts : ByteArray := prog_1_method_34_code
abbrev y_G_writeParts : MethodName := ⟨"GraphWriter", "writeParts", "(LGraphWriter$Thing;LGraphWriter$Defined;II)V"⟩
abbrev c_G_writeParts : Cond := .code y_G_writeParts b_G_writeParts 10 none
abbrev b_O_settle : ByteArray := prog_3_method_3_code
abbrev y_O_settle : MethodName := ⟨"GraphWriter$Out", "settle", "()I"⟩
abbrev c_O_settle : Cond := .code y_O_settle b_O_settle 2 (some FieldType.int)
abbrev b_O_goBack : ByteArray := prog_3_method_4_code
abbrev y_O_goBack : MethodName := ⟨"GraphWriter$Out", "goBack", "()V"⟩
abbrev c_O_goBack : Cond := .code y_O_goBack b_O_goBack 1 none
abbrev b_G_reset : ByteArray := prog_1_method_13_code
abbrev y_G_reset : MethodName := ⟨"GraphWriter", "reset", "()I"⟩
abbrev c_G_reset : Cond := .code y_G_reset b_G_reset 1 (some FieldType.int)
abbrev b_G_byteAt : ByteArray := prog_1_method_14_code
abbrev y_G_byteAt : MethodName := ⟨"GraphWriter", "byteAt", "(I)I"⟩
abbrev c_G_byteAt : Cond := .code y_G_byteAt b_G_byteAt 2 (some FieldType.int)
abbrev b_G_handle : ByteArray := prog_1_method_15_code
abbrev y_G_handle : MethodName := ⟨"GraphWriter", "handle", "(I)I"⟩
abbrev c_G_handle : Cond := .code y_G_handle b_G_handle 2 (some FieldType.int)
abbrev b_G_count : ByteArray := prog_1_method_16_code
abbrev y_G_count : MethodName := ⟨"GraphWriter", "count", "(I)I"⟩
abbrev c_G_count : Cond := .code y_G_count b_G_count 2 (some FieldType.int)
abbrev b_G_definedClasses : ByteArray := prog_1_method_21_code
abbrev y_G_definedClasses : MethodName := ⟨"GraphWriter", "definedClasses", "()I"⟩
abbrev c_G_definedClasses : Cond := .code y_G_definedClasses b_G_definedClasses 3 (some FieldType.int)
abbrev b_G_object : ByteArray := prog_1_method_17_code
abbrev y_G_object : MethodName := ⟨"GraphWriter", "object", "(II)I"⟩
abbrev c_G_object : Cond := .code y_G_object b_G_object 4 (some FieldType.int)
abbrev b_M_init : ByteArray := prog_6_method_1_code
abbrev y_M_init : MethodName := ⟨"GraphWriterModel", "<init>", "()V"⟩
abbrev c_M_init : Cond := .code y_M_init b_M_init 1 none
abbrev b_M_append : ByteArray := prog_6_method_4_code
abbrev y_M_append : MethodName := ⟨"GraphWriterModel", "append", "(JI)V"⟩
abbrev c_M_append : Cond := .code y_M_append b_M_append 5 none
abbrev b_M_noHandles : ByteArray := prog_6_method_5_code
abbrev y_M_noHandles : MethodName := ⟨"GraphWriterModel", "noHandles", "()V"⟩
abbrev c_M_noHandles : Cond := .code y_M_noHandles b_M_noHandles 2 none
abbrev b_M_define : ByteArray := prog_6_method_9_code
abbrev y_M_define : MethodName := ⟨"GraphWriterModel", "define", "(IIIJ)I"⟩
abbrev c_M_define : Cond := .code y_M_define b_M_define 6 (some FieldType.int)
abbrev b_M_out : ByteArray := prog_6_method_2_code
abbrev y_M_out : MethodName := ⟨"GraphWriterModel", "out", "(II)Z"⟩
abbrev c_M_out : Cond := .code y_M_out b_M_out 3 (some FieldType.boolean)
abbrev b_M_noClass : ByteArray := prog_6_method_3_code
abbrev y_M_noClass : MethodName := ⟨"GraphWriterModel", "noClass", "(I)Z"⟩
abbrev c_M_noClass : Cond := .code y_M_noClass b_M_noClass 2 (some FieldType.boolean)
abbrev b_M_field : ByteArray := prog_6_method_11_code
abbrev y_M_field : MethodName := ⟨"GraphWriterModel", "field", "(IIIZ)I"⟩
abbrev c_M_field : Cond := .code y_M_field b_M_field 6 (some FieldType.int)
abbrev b_M_below : ByteArray := prog_6_method_10_code
abbrev y_M_below : MethodName := ⟨"GraphWriterModel", "below", "(II)Z"⟩
abbrev c_M_below : Cond := .code y_M_below b_M_below 5 (some FieldType.boolean)
abbrev b_M_instance : ByteArray := prog_6_method_16_code
abbrev y_M_instance : MethodName := ⟨"GraphWriterModel", "instance", "(I)I"⟩
abbrev c_M_instance : Cond := .code y_M_instance b_M_instance 4 (some FieldType.int)
abbrev b_M_firstSlot : ByteArray := prog_6_method_13_code
abbrev y_M_firstSlot : MethodName := ⟨"GraphWriterModel", "firstSlot", "(I)I"⟩
abbrev c_M_firstSlot : Cond := .code y_M_firstSlot b_M_firstSlot 5 (some FieldType.int)
abbrev b_M_begin : ByteArray := prog_6_method_12_code
abbrev y_M_begin : MethodName := ⟨"GraphWriterModel", "begin", "(II)I"⟩
abbrev c_M_begin : Cond := .code y_M_begin b_M_begin 4 (some FieldType.int)
abbrev b_M_slotType : ByteArray := prog_6_method_15_code
abbrev y_M_slotType : MethodName := ⟨"GraphWriterModel", "slotType", "(II)I"⟩
abbrev c_M_slotType : Cond := .code y_M_slotType b_M_slotType 4 (some FieldType.int)
abbrev b_M_holder : ByteArray := prog_6_method_14_code
abbrev y_M_holder : MethodName := ⟨"GraphWriterModel", "holder", "(II)I"⟩
abbrev c_M_holder : Cond := .code y_M_holder b_M_holder 5 (some FieldType.int)
abbrev b_M_text : ByteArray := prog_6_method_17_code
abbrev y_M_text : MethodName := ⟨"GraphWriterModel", "text", "(J)I"⟩
abbrev c_M_text : Cond := .code y_M_text b_M_text 7 (some FieldType.int)
abbrev b_M_array : ByteArray := prog_6_method_18_code
abbrev y_M_array : MethodName := ⟨"GraphWriterModel", "array", "(ZI)I"⟩
abbrev c_M_array : Cond := .code y_M_array b_M_array 5 (some FieldType.int)
abbrev b_M_constant : ByteArray := prog_6_method_19_code
abbrev y_M_constant : MethodName := ⟨"GraphWriterModel", "constant", "(II)I"⟩
abbrev c_M_constant : Cond := .code y_M_constant b_M_constant 4 (some FieldType.int)
abbrev b_M_set : ByteArray := prog_6_method_20_code
abbrev y_M_set : MethodName := ⟨"GraphWriterModel", "set", "(IIJ)I"⟩
abbrev c_M_set : Cond := .code y_M_set b_M_set 6 (some FieldType.int)
abbrev b_M_replace : ByteArray := prog_6_method_22_code
abbrev y_M_replace : MethodName := ⟨"GraphWriterModel", "replace", "(II)I"⟩
abbrev c_M_replace : Cond := .code y_M_replace b_M_replace 3 (some FieldType.int)
abbrev b_M_noInstance : ByteArray := prog_6_method_21_code
abbrev y_M_noInstance : MethodName := ⟨"GraphWriterModel", "noInstance", "(I)Z"⟩
abbrev c_M_noInstance : Cond := .code y_M_noInstance b_M_noInstance 2 (some FieldType.boolean)
abbrev b_M_extra : ByteArray := prog_6_method_23_code
abbrev y_M_extra : MethodName := ⟨"GraphWriterModel", "extra", "(II)I"⟩
abbrev c_M_extra : Cond := .code y_M_extra b_M_extra 3 (some FieldType.int)
abbrev b_M_data : ByteArray := prog_6_method_26_code
abbrev y_M_data : MethodName := ⟨"GraphWriterModel", "data", "(JI)I"⟩
abbrev c_M_data : Cond := .code y_M_data b_M_data 7 (some FieldType.int)
abbrev b_M_flush : ByteArray := prog_6_method_8_code
abbrev y_M_flush : MethodName := ⟨"GraphWriterModel", "flush", "()V"⟩
abbrev c_M_flush : Cond := .code y_M_flush b_M_flush 2 none
abbrev b_M_write : ByteArray := prog_6_method_44_code
abbrev y_M_write : MethodName := ⟨"GraphWriterModel", "write", "(IZ)I"⟩
abbrev c_M_write : Cond := .code y_M_write b_M_write 4 (some FieldType.int)
abbrev b_M_remember : ByteArray := prog_6_method_24_code
abbrev y_M_remember : MethodName := ⟨"GraphWriterModel", "remember", "()V"⟩
abbrev c_M_remember : Cond := .code y_M_remember b_M_remember 2 none
abbrev b_M_writeObject : ByteArray := prog_6_method_41_code
abbrev y_M_writeObject : MethodName := ⟨"GraphWriterModel", "writeObject", "(IZ)Z"⟩
abbrev c_M_writeObject : Cond := .code y_M_writeObject b_M_writeObject 5 (some FieldType.boolean)
abbrev b_M_standing : ByteArray := prog_6_method_37_code
abbrev y_M_standing : MethodName := ⟨"GraphWriterModel", "standing", "(I)I"⟩
abbrev c_M_standing : Cond := .code y_M_standing b_M_standing 6 (some FieldType.int)
abbrev b_M_refer : ByteArray := prog_6_method_7_code
abbrev y_M_refer : MethodName := ⟨"GraphWriterModel", "refer", "(I)V"⟩
abbrev c_M_refer : Cond := .code y_M_refer b_M_refer 2 none
abbrev b_M_give : ByteArray := prog_6_method_6_code
abbrev y_M_give : MethodName := ⟨"GraphWriterModel", "give", "(I)V"⟩
abbrev c_M_give : Cond := .code y_M_give b_M_give 2 none
abbrev b_M_writeArray : ByteArray := prog_6_method_39_code
abbrev y_M_writeArray : MethodName := ⟨"GraphWriterModel", "writeArray", "(I)V"⟩
abbrev c_M_writeArray : Cond := .code y_M_writeArray b_M_writeArray 4 none
abbrev b_M_arrayDescriptor : ByteArray := prog_6_method_36_code
abbrev y_M_arrayDescriptor : MethodName := ⟨"GraphWriterModel", "arrayDescriptor", "(Z)V"⟩
abbrev c_M_arrayDescriptor : Cond := .code y_M_arrayDescriptor b_M_arrayDescriptor 3 none
abbrev b_M_plainEnd : ByteArray := prog_6_method_33_code
abbrev y_M_plainEnd : MethodName := ⟨"GraphWriterModel", "plainEnd", "(II)V"⟩
abbrev c_M_plainEnd : Cond := .code y_M_plainEnd b_M_plainEnd 3 none
abbrev b_M_push : ByteArray := prog_6_method_27_code
abbrev y_M_push : MethodName := ⟨"GraphWriterModel", "push", "(III)V"⟩
abbrev c_M_push : Cond := .code y_M_push b_M_push 4 none
abbrev b_M_writeConstant : ByteArray := prog_6_method_40_code
abbrev y_M_writeConstant : MethodName := ⟨"GraphWriterModel", "writeConstant", "(I)V"⟩
abbrev c_M_writeConstant : Cond := .code y_M_writeConstant b_M_writeConstant 2 none
abbrev b_M_descriptor : ByteArray := prog_6_method_35_code
abbrev y_M_descriptor : MethodName := ⟨"GraphWriterModel", "descriptor", "(I)V"⟩
abbrev c_M_descriptor : Cond := .code y_M_descriptor b_M_descriptor 6 none
abbrev b_M_letter : ByteArray := prog_6_method_29_code
abbrev y_M_letter : MethodName := ⟨"GraphWriterModel", "letter", "(I)V"⟩
abbrev c_M_letter : Cond := .code y_M_letter b_M_letter 2 none
abbrev b_M_enumBase : ByteArray := prog_6_method_34_code
abbrev y_M_enumBase : MethodName := ⟨"GraphWriterModel", "enumBase", "()V"⟩
abbrev c_M_enumBase : Cond := .code y_M_enumBase b_M_enumBase 1 none
abbrev b_M_arrange : ByteArray := prog_6_method_30_code
abbrev y_M_arrange : MethodName := ⟨"GraphWriterModel", "arrange", "(I)I"⟩
abbrev c_M_arrange : Cond := .code y_M_arrange b_M_arrange 6 (some FieldType.int)
abbrev b_M_fieldEntry : ByteArray := prog_6_method_32_code
abbrev y_M_fieldEntry : MethodName := ⟨"GraphWriterModel", "fieldEntry", "(I)V"⟩
abbrev c_M_fieldEntry : Cond := .code y_M_fieldEntry b_M_fieldEntry 4 none
abbrev b_M_typeSigns : ByteArray := prog_6_method_31_code
abbrev y_M_typeSigns : MethodName := ⟨"GraphWriterModel", "typeSigns", "(I)V"⟩
abbrev c_M_typeSigns : Cond := .code y_M_typeSigns b_M_typeSigns 2 none
abbrev b_M_abort : ByteArray := prog_6_method_42_code
abbrev y_M_abort : MethodName := ⟨"GraphWriterModel", "abort", "(I)V"⟩
abbrev c_M_abort : Cond := .code y_M_abort b_M_abort 2 none
abbrev b_M_parts : ByteArray := prog_6_method_38_code
abbrev y_M_parts : MethodName := ⟨"GraphWriterModel", "parts", "(I)V"⟩
abbrev c_M_parts : Cond := .code y_M_parts b_M_parts 6 none
abbrev b_M_doOne : ByteArray := prog_6_method_43_code
abbrev y_M_doOne : MethodName := ⟨"GraphWriterModel", "doOne", "()Z"⟩
abbrev c_M_doOne : Cond := .code y_M_doOne b_M_doOne 6 (some FieldType.boolean)
abbrev b_M_width : ByteArray := prog_6_method_28_code
abbrev y_M_width : MethodName := ⟨"GraphWriterModel", "width", "(I)I"⟩
abbrev c_M_width : Cond := .code y_M_width b_M_width 2 (some FieldType.int)
abbrev b_M_tooLong : ByteArray := prog_6_method_25_code
abbrev y_M_tooLong : MethodName := ⟨"GraphWriterModel", "tooLong", "()Z"⟩
abbrev c_M_tooLong : Cond := .code y_M_tooLong b_M_tooLong 2 (some FieldType.boolean)
abbrev b_M_reset : ByteArray := prog_6_method_45_code
abbrev y_M_reset : MethodName := ⟨"GraphWriterModel", "reset", "()I"⟩
abbrev c_M_reset : Cond := .code y_M_reset b_M_reset 1 (some FieldType.int)
abbrev b_M_byteAt : ByteArray := prog_6_method_46_code
abbrev y_M_byteAt : MethodName := ⟨"GraphWriterModel", "byteAt", "(I)I"⟩
abbrev c_M_byteAt : Cond := .code y_M_byteAt b_M_byteAt 2 (some FieldType.int)
abbrev b_M_handle : ByteArray := prog_6_method_47_code
abbrev y_M_handle : MethodName := ⟨"GraphWriterModel", "handle", "(I)I"⟩
abbrev c_M_handle : Cond := .code y_M_handle b_M_handle 2 (some FieldType.int)
abbrev b_M_count : ByteArray := prog_6_method_48_code
abbrev y_M_count : MethodName := ⟨"GraphWriterModel", "count", "(I)I"⟩
abbrev c_M_count : Cond := .code y_M_count b_M_count 4 (some FieldType.int)
abbrev b_M_object : ByteArray := prog_6_method_49_code
abbrev y_M_object : MethodName := ⟨"GraphWriterModel", "object", "(II)I"⟩
abbrev c_M_object : Cond := .code y_M_object b_M_object 3 (some FieldType.int)
def F_G : u_T := fun k => match k with
  | 0 => ("GraphWriter", "classes", "[LGraphWriter$Defined;", true)
  | 1 => ("GraphWriter", "things", "[LGraphWriter$Thing;", true)
  | 2 => ("GraphWriter", "out", "LGraphWriter$Out;", true)
  | _ => ("GraphWriter", "made", "I", false)
def ft_G : Nat → FieldType := fun k => match k with
  | 0 => .array (.object "GraphWriter$Defined")
  | 1 => .array (.object "GraphWriter$Thing")
  | 2 => .object "GraphWriter$Out"
  | _ => .int
theorem nm_G : ∀ a, a < 4 → ∀ b, b < 4 → a ≠ b → (F_G a).2.1 ≠ (F_G b).2.1 := by decide +kernel
theorem to_G : ∀ k, k < 4 → parseFieldDescriptor (F_G k).2.2.1 = some (ft_G k) := by decide +kernel
theorem in_G : ∀ w ∈ u_ws "GraphWriter" F_G 4, w ∈ wd_W := by
  intro w hw
  obtain ⟨k, hk, rfl⟩ := List.mem_map.mp hw
  have hk := List.mem_range.mp hk
  match k, hk with
  | 0, _ => exact wd_144
  | 1, _ => exact wd_146
  | 2, _ => exact wd_148
  | 3, _ => exact wd_150
  | k + 4, h => exact absurd h (by omega)
def F_O : u_T := fun k => match k with
  | 0 => ("GraphWriter$Out", "bytes", "[B", true)
  | 1 => ("GraphWriter$Out", "waiting", "[B", true)
  | 2 => ("GraphWriter$Out", "last", "[I", true)
  | 3 => ("GraphWriter$Out", "length", "I", false)
  | 4 => ("GraphWriter$Out", "waits", "I", false)
  | 5 => ("GraphWriter$Out", "handles", "I", false)
  | 6 => ("GraphWriter$Out", "outcome", "I", false)
  | 7 => ("GraphWriter$Out", "lastBefore", "[I", true)
  | 8 => ("GraphWriter$Out", "lengthBefore", "I", false)
  | 9 => ("GraphWriter$Out", "waitsBefore", "I", false)
  | _ => ("GraphWriter$Out", "handlesBefore", "I", false)
def ft_O : Nat → FieldType := fun k => match k with
  | 0 => .array .byte
  | 1 => .array .byte
  | 2 => .array .int
  | 3 => .int
  | 4 => .int
  | 5 => .int
  | 6 => .int
  | 7 => .array .int
  | 8 => .int
  | 9 => .int
  | _ => .int
theorem nm_O : ∀ a, a < 11 → ∀ b, b < 11 → a ≠ b → (F_O a).2.1 ≠ (F_O b).2.1 := by decide +kernel
theorem to_O : ∀ k, k < 11 → parseFieldDescriptor (F_O k).2.2.1 = some (ft_O k) := by decide +kernel
theorem in_O : ∀ w ∈ u_ws "GraphWriter$Out" F_O 11, w ∈ wd_W := by
  intro w hw
  obtain ⟨k, hk, rfl⟩ := List.mem_map.mp hw
  have hk := List.mem_range.mp hk
  match k, hk with
  | 0, _ => exact wd_103
  | 1, _ => exact wd_105
  | 2, _ => exact wd_107
  | 3, _ => exact wd_109
  | 4, _ => exact wd_111
  | 5, _ => exact wd_113
  | 6, _ => exact wd_115
  | 7, _ => exact wd_117
  | 8, _ => exact wd_119
  | 9, _ => exact wd_121
  | 10, _ => exact wd_123
  | k + 11, h => exact absurd h (by omega)
def F_D : u_T := fun k => match k with
  | 0 => ("GraphWriter$Defined", "number", "I", true)
  | 1 => ("GraphWriter$Defined", "kind", "I", true)
  | 2 => ("GraphWriter$Defined", "id", "J", true)
  | 3 => ("GraphWriter$Defined", "sign", "Ljava/lang/String;", true)
  | 4 => ("GraphWriter$Defined", "chain", "[I", true)
  | 5 => ("GraphWriter$Defined", "names", "[I", true)
  | 6 => ("GraphWriter$Defined", "types", "[I", true)
  | 7 => ("GraphWriter$Defined", "order", "[I", true)
  | 8 => ("GraphWriter$Defined", "fields", "I", false)
  | 9 => ("GraphWriter$Defined", "shown", "I", false)
  | _ => ("GraphWriter$Defined", "used", "Z", false)
def ft_D : Nat → FieldType := fun k => match k with
  | 0 => .int
  | 1 => .int
  | 2 => .long
  | 3 => .object "java/lang/String"
  | 4 => .array .int
  | 5 => .array .int
  | 6 => .array .int
  | 7 => .array .int
  | 8 => .int
  | 9 => .int
  | _ => .boolean
theorem nm_D : ∀ a, a < 11 → ∀ b, b < 11 → a ≠ b → (F_D a).2.1 ≠ (F_D b).2.1 := by decide +kernel
theorem to_D : ∀ k, k < 11 → parseFieldDescriptor (F_D k).2.2.1 = some (ft_D k) := by decide +kernel
theorem in_D : ∀ w ∈ u_ws "GraphWriter$Defined" F_D 11, w ∈ wd_W := by
  intro w hw
  obtain ⟨k, hk, rfl⟩ := List.mem_map.mp hw
  have hk := List.mem_range.mp hk
  match k, hk with
  | 0, _ => exact wd_315
  | 1, _ => exact wd_317
  | 2, _ => exact wd_319
  | 3, _ => exact wd_321
  | 4, _ => exact wd_323
  | 5, _ => exact wd_325
  | 6, _ => exact wd_327
  | 7, _ => exact wd_329
  | 8, _ => exact wd_331
  | 9, _ => exact wd_333
  | 10, _ => exact wd_335
  | k + 11, h => exact absurd h (by omega)
def F_T : u_T := fun k => match k with
  | 0 => ("GraphWriter$Thing", "sort", "I", true)
  | 1 => ("GraphWriter$Thing", "owner", "I", true)
  | 2 => ("GraphWriter$Thing", "types", "[I", true)
  | 3 => ("GraphWriter$Thing", "values", "[J", true)
  | 4 => ("GraphWriter$Thing", "text", "Ljava/lang/String;", true)
  | 5 => ("GraphWriter$Thing", "replacement", "I", false)
  | _ => ("GraphWriter$Thing", "extra", "I", false)
def ft_T : Nat → FieldType := fun k => match k with
  | 0 => .int
  | 1 => .int
  | 2 => .array .int
  | 3 => .array .long
  | 4 => .object "java/lang/String"
  | 5 => .int
  | _ => .int
theorem nm_T : ∀ a, a < 7 → ∀ b, b < 7 → a ≠ b → (F_T a).2.1 ≠ (F_T b).2.1 := by decide +kernel
theorem to_T : ∀ k, k < 7 → parseFieldDescriptor (F_T k).2.2.1 = some (ft_T k) := by decide +kernel
theorem in_T : ∀ w ∈ u_ws "GraphWriter$Thing" F_T 7, w ∈ wd_W := by
  intro w hw
  obtain ⟨k, hk, rfl⟩ := List.mem_map.mp hw
  have hk := List.mem_range.mp hk
  match k, hk with
  | 0, _ => exact wd_387
  | 1, _ => exact wd_389
  | 2, _ => exact wd_391
  | 3, _ => exact wd_393
  | 4, _ => exact wd_395
  | 5, _ => exact wd_397
  | 6, _ => exact wd_399
  | k + 7, h => exact absurd h (by omega)
def F_M : u_T := fun k => match k with
  | 0 => ("GraphWriterModel", "defined", "[Z", true)
  | 1 => ("GraphWriterModel", "kind", "[I", true)
  | 2 => ("GraphWriterModel", "above", "[I", true)
  | 3 => ("GraphWriterModel", "id", "[J", true)
  | 4 => ("GraphWriterModel", "fields", "[I", true)
  | 5 => ("GraphWriterModel", "fName", "[I", true)
  | 6 => ("GraphWriterModel", "fType", "[I", true)
  | 7 => ("GraphWriterModel", "fSkip", "[Z", true)
  | 8 => ("GraphWriterModel", "sort", "[I", true)
  | 9 => ("GraphWriterModel", "classOf", "[I", true)
  | 10 => ("GraphWriterModel", "nameOf", "[I", true)
  | 11 => ("GraphWriterModel", "size", "[I", true)
  | 12 => ("GraphWriterModel", "value", "[J", true)
  | 13 => ("GraphWriterModel", "standIn", "[I", true)
  | 14 => ("GraphWriterModel", "extras", "[I", true)
  | 15 => ("GraphWriterModel", "objects", "I", false)
  | 16 => ("GraphWriterModel", "stream", "[I", true)
  | 17 => ("GraphWriterModel", "length", "I", false)
  | 18 => ("GraphWriterModel", "waiting", "[I", true)
  | 19 => ("GraphWriterModel", "waits", "I", false)
  | 20 => ("GraphWriterModel", "handles", "[I", true)
  | 21 => ("GraphWriterModel", "given", "I", false)
  | 22 => ("GraphWriterModel", "todo", "[I", true)
  | 23 => ("GraphWriterModel", "todoOf", "[I", true)
  | 24 => ("GraphWriterModel", "todoWith", "[I", true)
  | 25 => ("GraphWriterModel", "left", "I", false)
  | 26 => ("GraphWriterModel", "order", "[I", true)
  | 27 => ("GraphWriterModel", "oldHandles", "[I", true)
  | 28 => ("GraphWriterModel", "oldLength", "I", false)
  | 29 => ("GraphWriterModel", "oldWaits", "I", false)
  | _ => ("GraphWriterModel", "oldGiven", "I", false)
def ft_M : Nat → FieldType := fun k => match k with
  | 0 => .array .boolean
  | 1 => .array .int
  | 2 => .array .int
  | 3 => .array .long
  | 4 => .array .int
  | 5 => .array .int
  | 6 => .array .int
  | 7 => .array .boolean
  | 8 => .array .int
  | 9 => .array .int
  | 10 => .array .int
  | 11 => .array .int
  | 12 => .array .long
  | 13 => .array .int
  | 14 => .array .int
  | 15 => .int
  | 16 => .array .int
  | 17 => .int
  | 18 => .array .int
  | 19 => .int
  | 20 => .array .int
  | 21 => .int
  | 22 => .array .int
  | 23 => .array .int
  | 24 => .array .int
  | 25 => .int
  | 26 => .array .int
  | 27 => .array .int
  | 28 => .int
  | 29 => .int
  | _ => .int
theorem nm_M : ∀ a, a < 31 → ∀ b, b < 31 → a ≠ b → (F_M a).2.1 ≠ (F_M b).2.1 := by decide +kernel
theorem to_M : ∀ k, k < 31 → parseFieldDescriptor (F_M k).2.2.1 = some (ft_M k) := by decide +kernel
theorem in_M : ∀ w ∈ u_ws "GraphWriterModel" F_M 31, w ∈ wd_W := by
  intro w hw
  obtain ⟨k, hk, rfl⟩ := List.mem_map.mp hw
  have hk := List.mem_range.mp hk
  match k, hk with
  | 0, _ => exact wd_785
  | 1, _ => exact wd_787
  | 2, _ => exact wd_789
  | 3, _ => exact wd_791
  | 4, _ => exact wd_793
  | 5, _ => exact wd_795
  | 6, _ => exact wd_797
  | 7, _ => exact wd_799
  | 8, _ => exact wd_801
  | 9, _ => exact wd_803
  | 10, _ => exact wd_805
  | 11, _ => exact wd_807
  | 12, _ => exact wd_809
  | 13, _ => exact wd_811
  | 14, _ => exact wd_813
  | 15, _ => exact wd_815
  | 16, _ => exact wd_817
  | 17, _ => exact wd_819
  | 18, _ => exact wd_821
  | 19, _ => exact wd_823
  | 20, _ => exact wd_825
  | 21, _ => exact wd_827
  | 22, _ => exact wd_829
  | 23, _ => exact wd_831
  | 24, _ => exact wd_833
  | 25, _ => exact wd_835
  | 26, _ => exact wd_837
  | 27, _ => exact wd_839
  | 28, _ => exact wd_841
  | 29, _ => exact wd_843
  | 30, _ => exact wd_845
  | k + 31, h => exact absurd h (by omega)
def F_JS : u_T := fun k => match k with
  | 0 => ("java/lang/String", "value", "[B", true)
  | 1 => ("java/lang/String", "coder", "B", true)
  | 2 => ("java/lang/String", "hash", "I", false)
  | _ => ("java/lang/String", "hashIsZero", "Z", false)
def ft_JS : Nat → FieldType := fun k => match k with
  | 0 => .array .byte
  | 1 => .byte
  | 2 => .int
  | _ => .boolean
theorem nm_JS : ∀ a, a < 4 → ∀ b, b < 4 → a ≠ b → (F_JS a).2.1 ≠ (F_JS b).2.1 := by decide +kernel
theorem to_JS : ∀ k, k < 4 → parseFieldDescriptor (F_JS k).2.2.1 = some (ft_JS k) := by decide +kernel
theorem in_JS : ∀ w ∈ u_ws "java/lang/String" F_JS 4, w ∈ wd_W := by
  intro w hw
  obtain ⟨k, hk, rfl⟩ := List.mem_map.mp hw
  have hk := List.mem_range.mp hk
  match k, hk with
  | 0, _ => exact wd_243
  | 1, _ => exact wd_245
  | 2, _ => exact wd_247
  | 3, _ => exact wd_249
  | k + 4, h => exact absurd h (by omega)
def F_JB : u_T := fun k => match k with
  | 0 => ("java/lang/AbstractStringBuilder", "value", "[B", false)
  | 1 => ("java/lang/AbstractStringBuilder", "coder", "B", false)
  | 2 => ("java/lang/AbstractStringBuilder", "maybeLatin1", "Z", false)
  | _ => ("java/lang/AbstractStringBuilder", "count", "I", false)
def ft_JB : Nat → FieldType := fun k => match k with
  | 0 => .array .byte
  | 1 => .byte
  | 2 => .boolean
  | _ => .int
theorem nm_JB : ∀ a, a < 4 → ∀ b, b < 4 → a ≠ b → (F_JB a).2.1 ≠ (F_JB b).2.1 := by decide +kernel
theorem to_JB : ∀ k, k < 4 → parseFieldDescriptor (F_JB k).2.2.1 = some (ft_JB k) := by decide +kernel
theorem in_JB : ∀ w ∈ u_ws "java/lang/StringBuilder" F_JB 4, w ∈ wd_W := by
  intro w hw
  obtain ⟨k, hk, rfl⟩ := List.mem_map.mp hw
  have hk := List.mem_range.mp hk
  match k, hk with
  | 0, _ => exact wd_432
  | 1, _ => exact wd_434
  | 2, _ => exact wd_436
  | 3, _ => exact wd_438
  | k + 4, h => exact absurd h (by omega)
abbrev cls9 : List vw_C := [("GraphWriter", F_G, 4), ("GraphWriter$Out", F_O, 11), ("GraphWriter$Defined", F_D, 11), ("GraphWriter$Thing", F_T, 7), ("GraphWriterModel", F_M, 31), ("java/lang/String", F_JS, 4), ("java/lang/StringBuilder", F_JB, 4)]
end
section
/-! THE LAYER: a world is a map from roles (kind, number) to cells; ad: where each lies -/
abbrev pw_A : Type := Nat → Nat → Nat
abbrev pw_C : Type := Nat → Nat → Option va_E
def pw_up {α : Type} (f : Nat → Nat → α) (x y : Nat) (v : α) : Nat → Nat → α := fun a b => if a = x ∧ b = y then v else f a b
theorem pw_up_self {α : Type} (f : Nat → Nat → α) (x y : Nat) (v : α) : pw_up f x y v x y = v := if_pos ⟨rfl, rfl⟩
theorem pw_up_ne {α : Type} (f : Nat → Nat → α) {x y a b : Nat} (v : α) (h : ¬ (a = x ∧ b = y)) : pw_up f x y v a b = f a b := if_neg h
theorem pw_up_some {C : pw_C} {x y a b : Nat} {e f : va_E} (hf : pw_up C x y (some e) a b = some f) : (a = x ∧ b = y ∧ f = e) ∨ (¬ (a = x ∧ b = y) ∧ C a b = some f) := by
  by_cases hab : a = x ∧ b = y
  · obtain ⟨rfl, rfl⟩ := hab
    rw [pw_up_self] at hf
    exact Or.inl ⟨rfl, rfl, (Option.some.inj hf).symm⟩
  · rw [pw_up_ne _ _ hab] at hf
    exact Or.inr ⟨hab, hf⟩
/-- the cells are in the heap, apart, and finitely many -/
def pw_W (D : va_G) (cl : List vw_C) (ad : pw_A) (C : pw_C) (H : Heap) : Prop :=
  (∀ (x y : Nat) (e : va_E), C x y = some e → va_at D cl (ad x y, e) H) ∧
  (∀ (x y x' y' : Nat) (e e' : va_E), C x y = some e → C x' y' = some e' → ad x y = ad x' y' → x = x' ∧ y = y') ∧
  ∃ Ls : List (Nat × Nat), ∀ (x y : Nat) (e : va_E), C x y = some e → (x, y) ∈ Ls
/-- the world on the way: of the kind A, and since H0 nothing else has changed -/
def pw_H (D : va_G) (cl : List vw_C) (A : Nat → Prop) (H0 : Heap) (ad : pw_A) (C : pw_C) (H : Heap) (locs : List Loc) : Prop :=
  pw_W D cl ad C H ∧ (∀ (x y : Nat) (e : va_E), C x y = some e → A (ad x y)) ∧ va_S A H0 H locs
theorem pw_list0 {ad : pw_A} {C : pw_C} (hinj : ∀ (x y x' y' : Nat) (e e' : va_E), C x y = some e → C x' y' = some e' → ad x y = ad x' y' → x = x' ∧ y = y') : ∀ Ls : List (Nat × Nat), ∃ ws : va_W, (∀ (k : Nat) (q : Nat × va_E), ws[k]? = some q → ∃ x y, (x, y) ∈ Ls ∧ C x y = some q.2 ∧ ad x y = q.1) ∧ (∀ (x y : Nat) (e : va_E), (x, y) ∈ Ls → C x y = some e → ∃ k : Nat, ws[k]? = some (ad x y, e)) ∧ (∀ (i j : Nat) (p q : Nat × va_E), ws[i]? = some p → ws[j]? = some q → p.1 = q.1 → i = j) := by
  intro Ls
  induction Ls with
  | nil => exact ⟨[], fun k q h => by simp at h, fun x y e h => by simp at h, fun i j p q h => by simp at h⟩
  | cons z Ls ih =>
    obtain ⟨x0, y0⟩ := z
    obtain ⟨ws, h1, h2, h3⟩ := ih
    have h1' : ∀ (k : Nat) (q : Nat × va_E), ws[k]? = some q → ∃ x y, (x, y) ∈ (x0, y0) :: Ls ∧ C x y = some q.2 ∧ ad x y = q.1 := fun k q hk => by
      obtain ⟨x, y, m, r⟩ := h1 k q hk
      exact ⟨x, y, List.mem_cons_of_mem _ m, r⟩
    by_cases hin : (x0, y0) ∈ Ls
    · refine ⟨ws, h1', fun x y e hx he => ?_, h3⟩
      rcases List.mem_cons.mp hx with h | h
      · cases h
        exact h2 _ _ e hin he
      · exact h2 x y e h he
    · cases hc : C x0 y0 with
      | none =>
        refine ⟨ws, h1', fun x y e hx he => ?_, h3⟩
        rcases List.mem_cons.mp hx with h | h
        · cases h
          rw [hc] at he
          cases he
        · exact h2 x y e h he
      | some e0 =>
        refine ⟨(ad x0 y0, e0) :: ws, fun k q hk => ?_, fun x y e hx he => ?_, fun i j p q hi hj hpq => ?_⟩
        · cases k with
          | zero =>
            rw [List.getElem?_cons_zero] at hk
            cases hk
            exact ⟨x0, y0, List.mem_cons_self, hc, rfl⟩
          | succ k =>
            rw [List.getElem?_cons_succ] at hk
            exact h1' k q hk
        · rcases List.mem_cons.mp hx with h | h
          · cases h
            rw [hc] at he
            cases he
            exact ⟨0, rfl⟩
          · obtain ⟨k, hk⟩ := h2 x y e h he
            exact ⟨k + 1, by rw [List.getElem?_cons_succ]; exact hk⟩
        · cases i with
          | zero =>
            cases j with
            | zero => rfl
            | succ j =>
              rw [List.getElem?_cons_zero] at hi
              rw [List.getElem?_cons_succ] at hj
              cases hi
              obtain ⟨x, y, m, r1, r2⟩ := h1 j q hj
              obtain ⟨rfl, rfl⟩ := hinj x y x0 y0 _ _ r1 hc (r2.trans hpq.symm)
              exact absurd m hin
          | succ i =>
            rw [List.getElem?_cons_succ] at hi
            cases j with
            | zero =>
              rw [List.getElem?_cons_zero] at hj
              cases hj
              obtain ⟨x, y, m, r1, r2⟩ := h1 i p hi
              obtain ⟨rfl, rfl⟩ := hinj x y x0 y0 _ _ r1 hc (r2.trans hpq)
              exact absurd m hin
            | succ j =>
              rw [List.getElem?_cons_succ] at hj
              rw [h3 i j p q hi hj hpq]
/-- a world as a list, for the kit's rows -/
def pw_L (ad : pw_A) (C : pw_C) (ws : va_W) : Prop := (∀ (k : Nat) (q : Nat × va_E), ws[k]? = some q → ∃ x y, C x y = some q.2 ∧ ad x y = q.1) ∧ ∀ (x y : Nat) (e : va_E), C x y = some e → ∃ k : Nat, ws[k]? = some (ad x y, e)
theorem pw_list {D : va_G} {cl : List vw_C} {A : Nat → Prop} {H0 : Heap} {ad : pw_A} {C : pw_C} {H : Heap} {locs : List Loc} (h : pw_H D cl A H0 ad C H locs) : ∃ ws : va_W, pw_L ad C ws ∧ va_P D cl ws H ∧ va_D A ws := by
  obtain ⟨⟨g1, g2, Ls, g3⟩, g4, g5⟩ := h
  obtain ⟨ws, h1, h2, h3⟩ := pw_list0 g2 Ls
  have k1 : ∀ (k : Nat) (q : Nat × va_E), ws[k]? = some q → ∃ x y, C x y = some q.2 ∧ ad x y = q.1 := fun k q hk => by
    obtain ⟨x, y, -, r⟩ := h1 k q hk
    exact ⟨x, y, r⟩
  refine ⟨ws, ⟨k1, fun x y e he => h2 x y e (g3 x y e he) he⟩, fun k q hk => ?_, h3, fun k q hk => ?_⟩
  · obtain ⟨x, y, r1, r2⟩ := k1 k q hk
    have := g1 x y _ r1
    rw [r2] at this
    exact this
  · obtain ⟨x, y, r1, r2⟩ := k1 k q hk
    rw [← r2]
    exact g4 x y _ r1
theorem pw_set {D : va_G} {cl : List vw_C} {A : Nat → Prop} {H0 H1 : Heap} {ad : pw_A} {C : pw_C} {H : Heap} {locs locs1 : List Loc} {ws : va_W} (h : pw_H D cl A H0 ad C H locs) (hL : pw_L ad C ws) (hD0 : va_D A ws) {x y k : Nat} {e0 e : va_E} (he : C x y = some e0) (hk : ws[k]? = some (ad x y, e0)) (hP : va_P D cl (ws.set k (ad x y, e)) H1) (hS : va_S A H0 H1 locs1) : pw_H D cl A H0 ad (pw_up C x y (some e)) H1 locs1 := by
  have hl := (List.getElem?_eq_some_iff.mp hk).1
  have hdom : ∀ (a b : Nat) (f : va_E), pw_up C x y (some e) a b = some f → ∃ f', C a b = some f' := by
    intro a b f hf
    rcases pw_up_some hf with ⟨rfl, rfl, -⟩ | ⟨-, h2⟩
    · exact ⟨_, he⟩
    · exact ⟨_, h2⟩
  obtain ⟨⟨g1, g2, Ls, g3⟩, g4, g5⟩ := h
  refine ⟨⟨fun a b f hf => ?_, fun a b a' b' f f' hf hf' hab => ?_, Ls, fun a b f hf => ?_⟩, fun a b f hf => ?_, hS⟩
  · rcases pw_up_some hf with ⟨rfl, rfl, rfl⟩ | ⟨hne, h2⟩
    · exact hP k _ (List.getElem?_set_self hl)
    · obtain ⟨j, hj⟩ := hL.2 a b f h2
      have hjk : k ≠ j := by
        rintro rfl
        have := hk.symm.trans hj
        have h3 := congrArg Prod.fst (Option.some.inj this)
        exact hne (g2 a b x y f e0 h2 he h3.symm)
      exact hP j _ (by rw [List.getElem?_set_ne hjk]; exact hj)
  · obtain ⟨f1, h1⟩ := hdom a b f hf
    obtain ⟨f2, h2⟩ := hdom a' b' f' hf'
    exact g2 a b a' b' f1 f2 h1 h2 hab
  · obtain ⟨f1, h1⟩ := hdom a b f hf
    exact g3 a b f1 h1
  · obtain ⟨f1, h1⟩ := hdom a b f hf
    exact g4 a b f1 h1
theorem pw_push {D : va_G} {cl : List vw_C} {A : Nat → Prop} {H0 H1 : Heap} {ad : pw_A} {C : pw_C} {H : Heap} {locs locs1 : List Loc} {ws : va_W} (h : pw_H D cl A H0 ad C H locs) (hL : pw_L ad C ws) {x y q : Nat} {e : va_E} (hn : C x y = none) (hP : va_P D cl (ws ++ [(q, e)]) H1) (hD : va_D A (ws ++ [(q, e)])) (hS : va_S A H0 H1 locs1) : pw_H D cl A H0 (pw_up ad x y q) (pw_up C x y (some e)) H1 locs1 := by
  have hlast : (ws ++ [(q, e)])[ws.length]? = some (q, e) := by rw [List.getElem?_append_right (Nat.le_refl _), Nat.sub_self]; rfl
  have hold : ∀ (a b : Nat) (f : va_E), C a b = some f → ∃ k, k < ws.length ∧ (ws ++ [(q, e)])[k]? = some (ad a b, f) := by
    intro a b f hf
    obtain ⟨k, hk⟩ := hL.2 a b f hf
    have hlt := (List.getElem?_eq_some_iff.mp hk).1
    exact ⟨k, hlt, by rw [List.getElem?_append_left hlt]; exact hk⟩
  obtain ⟨⟨g1, g2, Ls, g3⟩, g4, g5⟩ := h
  have hq : ∀ (a b : Nat) (f : va_E), C a b = some f → ad a b ≠ q := by
    intro a b f hf hab
    obtain ⟨k, hlt, hk⟩ := hold a b f hf
    have := hD.1 k ws.length _ _ hk hlast hab
    omega
  refine ⟨⟨fun a b f hf => ?_, fun a b a' b' f f' hf hf' hab => ?_, (x, y) :: Ls, fun a b f hf => ?_⟩, fun a b f hf => ?_, hS⟩
  · rcases pw_up_some hf with ⟨rfl, rfl, rfl⟩ | ⟨hne, h2⟩
    · rw [pw_up_self]
      exact hP _ _ hlast
    · rw [pw_up_ne _ _ hne]
      obtain ⟨k, -, hk⟩ := hold a b f h2
      exact hP k _ hk
  · rcases pw_up_some hf with ⟨rfl, rfl, rfl⟩ | ⟨hne, h2⟩ <;> rcases pw_up_some hf' with ⟨rfl, rfl, rfl⟩ | ⟨hne', h2'⟩
    · exact ⟨rfl, rfl⟩
    · rw [pw_up_self, pw_up_ne _ _ hne'] at hab
      exact absurd hab.symm (hq a' b' f' h2')
    · rw [pw_up_self, pw_up_ne _ _ hne] at hab
      exact absurd hab (hq a b f h2)
    · rw [pw_up_ne _ _ hne, pw_up_ne _ _ hne'] at hab
      exact g2 a b a' b' f f' h2 h2' hab
  · rcases pw_up_some hf with ⟨rfl, rfl, rfl⟩ | ⟨hne, h2⟩
    · exact List.mem_cons_self
    · exact List.mem_cons_of_mem _ (g3 a b f h2)
  · rcases pw_up_some hf with ⟨rfl, rfl, rfl⟩ | ⟨hne, h2⟩
    · rw [pw_up_self]
      exact hD.2 _ _ hlast
    · rw [pw_up_ne _ _ hne]
      exact g4 a b f h2
theorem pw_H.one {D : va_G} {cl : List vw_C} {A : Nat → Prop} {H0 : Heap} {ad : pw_A} {C : pw_C} {H : Heap} {locs : List Loc} (h : pw_H D cl A H0 ad C H locs) {x y : Nat} {e : va_E} (he : C x y = some e) : va_P D cl [(ad x y, e)] H := by
  intro k q hk
  have hk0 : k = 0 := by
    have := (List.getElem?_eq_some_iff.mp hk).1
    simp only [List.length_cons, List.length_nil] at this
    omega
  subst hk0
  cases hk
  exact h.1.1 x y e he
/-- which cells a method may change: its world's, and those that it makes -/
def pw_dom (ad : pw_A) (C : pw_C) (sz : Nat) : Nat → Prop := fun q => (∃ (x y : Nat) (e : va_E), C x y = some e ∧ ad x y = q) ∨ sz ≤ q
theorem pw_start {D : va_G} {cl : List vw_C} {ad : pw_A} {C : pw_C} {H : Heap} (h : pw_W D cl ad C H) : pw_H D cl (pw_dom ad C H.size) H ad C H [] := ⟨h, fun x y e he => Or.inl ⟨x, y, e, he, rfl⟩, va_S.rf⟩
theorem pw_dom_new {ad : pw_A} {C : pw_C} {sz : Nat} : ∀ q, sz ≤ q → pw_dom ad C sz q := fun _ h => Or.inr h
theorem pw_H.free {D : va_G} {cl : List vw_C} {A : Nat → Prop} {H0 : Heap} {ad : pw_A} {C : pw_C} {H : Heap} {locs : List Loc} (h : pw_H D cl A H0 ad C H locs) (hA : ∀ q, H0.size ≤ q → A q) : ∀ q, pw_dom ad C H.size q → A q := by
  rintro q (⟨x, y, e, he, rfl⟩ | h1)
  · exact h.2.1 x y e he
  · exact hA q (Nat.le_trans h.2.2.1 h1)
/-- what a method says at its end: its answer, the new world, the rest as it was -/
def pw_Q (D : va_G) (cl : List vw_C) (post : Option Value → pw_A → pw_C → Prop) (A : Nat → Prop) : Array Value → State → Outcome → State → Prop := fun _ st oc t =>
  (∃ (v : Option Value) (ad' : pw_A) (C' : pw_C), oc = .returned v ∧ post v ad' C' ∧ pw_W D cl ad' C' t.heap ∧ ∀ (x y : Nat) (e : va_E), C' x y = some e → A (ad' x y)) ∧ va_F A st t
/-- what stays as the machine goes on: it speaks of cells outside A, and of tables -/
def pw_Zok (Z : (Nat → Prop) → State → Prop) : Prop := ∀ (A A' : Nat → Prop) (U V : State), U.WarmedH V.vm → (∀ q, A' q → A q) → U.heap.size ≤ V.heap.size → (∀ q : Nat, q < U.heap.size → ¬ A q → V.heap[q]? = U.heap[q]?) → Z A U → Z A' V
/-- a contract: from the world (ad, C) with these arguments -/
def pw_Con (l : Launch) (y : MethodName) (ws : List Cond) (rm : Room) (D : va_G) (cl : List vw_C) (tys : List (ClassId × FieldType)) (Z : (Nat → Prop) → State → Prop) (av : List Value) (ad : pw_A) (C : pw_C) (post : Option Value → pw_A → pw_C → Prop) (mc ms : Nat) : Prop :=
  ∀ sz : Nat, Met l y ws rm (va_Pc av (fun U => U.heap.size = sz ∧ pw_W D cl ad C U.heap ∧ va_K D cl tys U ∧ Z (pw_dom ad C sz) U)) (pw_Q D cl post (pw_dom ad C sz)) mc ms (pw_dom ad C sz)
theorem pw_blind {D : va_G} {cl : List vw_C} {tys : List (ClassId × FieldType)} {Z : (Nat → Prop) → State → Prop} (hZ : pw_Zok Z) {av : List Value} {ad : pw_A} {C : pw_C} {sz : Nat} : FrameBlind (va_Pc av (fun U => U.heap.size = sz ∧ pw_W D cl ad C U.heap ∧ va_K D cl tys U ∧ Z (pw_dom ad C sz) U)) := by
  intro a U g mk q
  obtain ⟨q0, q1, qW, qK, qZ⟩ := q
  exact ⟨q0, q1, qW, va_K.moved (u := U) (U := U.calling g mk a) (Vm.Alike.refl U.vm) qK, hZ _ _ U (U.calling g mk a) (State.WarmedH.refl U) (fun _ h => h) (Nat.le_refl _) (fun _ _ _ => rfl) qZ⟩
theorem pw_preS {D : va_G} {cl : List vw_C} {tys : List (ClassId × FieldType)} {Z : (Nat → Prop) → State → Prop} (hZ : pw_Zok Z) {A : Nat → Prop} {ad : pw_A} {C : pw_C} {s : State} {H : Heap} {locs : List Loc} {av : List Value} (hw : pw_H D cl A s.heap ad C H locs) (hA : ∀ q, s.heap.size ≤ q → A q) (hK : va_K D cl tys s) (hz : Z A s) :
    PreS s H (va_Pc av (fun U => U.heap.size = H.size ∧ pw_W D cl ad C U.heap ∧ va_K D cl tys U ∧ Z (pw_dom ad C H.size) U)) av :=
  ⟨pw_blind hZ, fun U hU hW => ⟨rfl, by rw [hU], by rw [hU]; exact hw.1, va_K.moved hW.alike hK, hZ _ _ s U hW (hw.free hA) (by rw [hU]; exact hw.2.2.1) (fun q h1 h2 => by rw [hU]; exact hw.2.2.2.1 q h1 h2) hz⟩⟩
theorem pw_preV {D : va_G} {cl : List vw_C} {tys : List (ClassId × FieldType)} {Z : (Nat → Prop) → State → Prop} (hZ : pw_Zok Z) {A : Nat → Prop} {ad : pw_A} {C : pw_C} {s : State} {H : Heap} {locs : List Loc} {As : List Value} {b x y ci : Nat} {q : vw_C} {fs : List Value} (hw : pw_H D cl A s.heap ad C H locs) (hA : ∀ q, s.heap.size ≤ q → A q) (hK : va_K D cl tys s) (hz : Z A s) (hb : ad x y = b) (he : C x y = some (.inr (ci, fs))) (hc : cl[ci]? = some q) :
    PreV s H q.1 b (va_Pc (.ref b :: As) (fun U => U.heap.size = H.size ∧ pw_W D cl ad C U.heap ∧ va_K D cl tys U ∧ Z (pw_dom ad C H.size) U)) As := by
  subst hb
  obtain ⟨h1, h2⟩ := pw_preS (av := .ref (ad x y) :: As) hZ hw hA hK hz
  exact ⟨h1, va_recv hK (hw.one he) (q0 := 0) hc rfl, h2⟩
theorem pw_in {j n : Nat} (hj : j < n) (hjb : j < 2 ^ 31) : vp_in (nI j) n := by
  rintro (h | h)
  · exact nI_pos hjb h
  · rw [nI_clamp hjb] at h
    omega
theorem pw_clamp0 {i : Int32} {j : Nat} (hi : i = nI j) (hjb : j < 2 ^ 31) : ¬ i < 0 ∧ i.toNatClampNeg = j := by
  subst hi
  exact ⟨nI_pos hjb, nI_clamp hjb⟩
section PW
variable {p : Program} {l : Launch} {e : Env} {R : Room} {s : State} {m : MethodId} {args : Array Value} {below : List Frame} {meth : Method} {c : Code} {H : Heap} {locs : List Loc} {cells slots : Nat} {Q : State → Prop}
variable {cc : ByteArray} {pc : Nat} {ls : Array Slot} {rest st0 : List Value} {D : va_G} {cl : List vw_C} {A : Nat → Prop} {tys : List (ClassId × FieldType)} {H0 : Heap} {ad : pw_A} {C : pw_C} {a : Nat}
/-- behind a call -/
theorem pw_call {post : Option Value → pw_A → pw_C → Prop} {a9 : Array Value} {mc ms : Nat} (hr : va_Run p l e R s m args below meth c H locs cells slots mc ms (F0 m pc ls st0) rest (pw_Q D cl post (pw_dom ad C H.size) a9) (pw_dom ad C H.size)) (hw : pw_H D cl A H0 ad C H locs) (hA : ∀ q, H0.size ≤ q → A q)
    (kk : ∀ (v : Option Value) (ad' : pw_A) (C' : pw_C) (H1 : Heap) (locs1 : List Loc), post v ad' C' → pw_H D cl A H0 ad' C' H1 locs1 → W p l e R s m args below meth c H1 locs1 (cells + mc) (slots + ms) Q (F0 m (pc + 3) ls (v.toList ++ rest))) : W p l e R s m args below meth c H locs cells slots Q (F0 m pc ls st0) := by
  intro T hT X
  obtain ⟨v, st₀, t, T', L, h0, X', hL, e1, e2, ⟨⟨v', ad', C', hv, hp, hW, hD⟩, hz, hk⟩, st⟩ := hr T hT X
  cases hv
  rw [h0] at hz hk
  have hf := hw.free hA
  obtain ⟨t2, a1, b1⟩ := kk v ad' C' T'.heap (locs ++ L) hp ⟨by rw [e1]; exact hW, fun x y f hf9 => hf _ (hD x y f hf9), Nat.le_trans hw.2.2.1 (by rw [e1]; exact hz), fun q h1 h2 => by
      rw [e1, hk q (Nat.lt_of_lt_of_le h1 hw.2.2.1) (fun z => h2 (hf q z))]; exact hw.2.2.2.1 q h1 h2, fun q hq => by
      rcases List.mem_append.mp hq with h | h
      · exact hw.2.2.2.2 q h
      · exact hf _ (hL q h)⟩ T' rfl X'
  exact ⟨t2, st t2 a1, b1⟩
theorem pw_get (hexec : p.tables.exec = Jvm.exec) (hb : c.code = cc) {own ref Cn : String} {T : u_T} {N ci index : Nat} {Ts : List Cond} (hts : ∀ w ∈ Ts, w.before args s = true) (hin : ∀ w ∈ u_ws Cn T N, w ∈ Ts) (hown : s.vm.findClass own = some m.cls) (hK : va_K D cl tys s) (hw : pw_H D cl A H0 ad C H locs) (x y : Nat) (ha : ad x y = a) {fs : List Value} (he : C x y = some (.inr (ci, fs))) (hc : cl[ci]? = some (Cn, T, N)) (k : Nat) (hk : k < N) (hlink : (Cond.fieldLink own index ref (T k).2.1 (T k).2.2.1).before args s = true) (hsame : ∀ x, s.fieldFound? (T k).1 (T k).2.1 (T k).2.2.1 = some x → s.fieldFound? ref (T k).2.1 (T k).2.2.1 = some x) {v : Value} (hv : fs[k]? = some v) (hdg : decode cc pc = .ok (.getfield index, 3))
    (kk : W p l e R s m args below meth c H locs cells slots Q (F0 m (pc + 3) ls (v :: rest))) : W p l e R s m args below meth c H locs cells slots Q (F0 m pc ls (.ref a :: rest)) := by
  subst ha
  exact va_get hexec hb hts hin hown hK (hw.one he) 0 rfl hc k hk hlink hsame hv hdg kk
theorem pw_put (hexec : p.tables.exec = Jvm.exec) (hb : c.code = cc) {own ref Cn : String} {T : u_T} {N ci index : Nat} {Ts : List Cond} (hts : ∀ w ∈ Ts, w.before args s = true) (hin : ∀ w ∈ u_ws Cn T N, w ∈ Ts) (ty0 : Nat → FieldType) (hty : ∀ k, k < N → parseFieldDescriptor (T k).2.2.1 = some (ty0 k)) (hnm : ∀ a, a < N → ∀ b, b < N → a ≠ b → (T a).2.1 ≠ (T b).2.1) (hown : s.vm.findClass own = some m.cls) (hK : va_K D cl tys s) (hw : pw_H D cl A H0 ad C H locs) (x y : Nat) (ha : ad x y = a) {fs : List Value} (he : C x y = some (.inr (ci, fs))) (hc : cl[ci]? = some (Cn, T, N)) (k : Nat) (hk : k < N) (hlink : (Cond.fieldLink own index ref (T k).2.1 (T k).2.2.1).before args s = true) (hsame : ∀ x, s.fieldFound? (T k).1 (T k).2.1 (T k).2.2.1 = some x → s.fieldFound? ref (T k).2.1 (T k).2.2.1 = some x) (hfin : (T k).2.2.2 = false) {ty : FieldType} {v : Value} (hd : parseFieldDescriptor (T k).2.2.1 = some ty) (hn : narrow ty v = v) (hfit : fits ty v = true) (hl : k < fs.length)
    (hdg : decode cc pc = .ok (.putfield index, 3)) (kk : ∀ (H1 : Heap) (locs1 : List Loc), pw_H D cl A H0 ad (pw_up C x y (some (.inr (ci, fs.set k v)))) H1 locs1 → W p l e R s m args below meth c H1 locs1 cells slots Q (F0 m (pc + 3) ls rest)) : W p l e R s m args below meth c H locs cells slots Q (F0 m pc ls (v :: .ref a :: rest)) := by
  subst ha
  obtain ⟨ws, hL, hP, hD⟩ := pw_list hw
  obtain ⟨k9, hk9⟩ := hL.2 x y _ he
  exact va_put hexec hb hts hin ty0 hty hnm hown hK hP hD hw.2.2 k9 hk9 hc k hk hlink hsame hfin hd hn hfit hl hdg (fun H1 locs1 hP1 hD1 hS1 => kk H1 locs1 (pw_set hw hL hD he hk9 hP1 hS1))
theorem pw_putF (hexec : p.tables.exec = Jvm.exec) (hb : c.code = cc) {own ref Cn : String} {T : u_T} {N ci index : Nat} {Ts : List Cond} (hts : ∀ w ∈ Ts, w.before args s = true) (hin : ∀ w ∈ u_ws Cn T N, w ∈ Ts) (ty0 : Nat → FieldType) (hty : ∀ k, k < N → parseFieldDescriptor (T k).2.2.1 = some (ty0 k)) (hnm : ∀ a, a < N → ∀ b, b < N → a ≠ b → (T a).2.1 ≠ (T b).2.1) (hown : s.vm.findClass own = some m.cls) (hK : va_K D cl tys s) (hw : pw_H D cl A H0 ad C H locs) (x y : Nat) (ha : ad x y = a) {fs : List Value} (he : C x y = some (.inr (ci, fs))) (hc : cl[ci]? = some (Cn, T, N)) (k : Nat) (hk : k < N) (hlink : (Cond.fieldLink own index ref (T k).2.1 (T k).2.2.1).before args s = true) (hsame : ∀ x, s.fieldFound? (T k).1 (T k).2.1 (T k).2.2.1 = some x → s.fieldFound? ref (T k).2.1 (T k).2.2.1 = some x) (hfin : (T k).2.2.2 = true) (hin2 : meth.name = "<init>") (hdecl : (T k).1 = own) {ty : FieldType} {v : Value} (hd : parseFieldDescriptor (T k).2.2.1 = some ty) (hn : narrow ty v = v) (hfit : fits ty v = true) (hl : k < fs.length)
    (hdg : decode cc pc = .ok (.putfield index, 3)) (kk : ∀ (H1 : Heap) (locs1 : List Loc), pw_H D cl A H0 ad (pw_up C x y (some (.inr (ci, fs.set k v)))) H1 locs1 → W p l e R s m args below meth c H1 locs1 cells slots Q (F0 m (pc + 3) ls rest)) : W p l e R s m args below meth c H locs cells slots Q (F0 m pc ls (v :: .ref a :: rest)) := by
  subst ha
  obtain ⟨ws, hL, hP, hD⟩ := pw_list hw
  obtain ⟨k9, hk9⟩ := hL.2 x y _ he
  exact va_putF hexec hb hts hin ty0 hty hnm hown hK hP hD hw.2.2 k9 hk9 hc k hk hlink hsame hfin hin2 hdecl hd hn hfit hl hdg (fun H1 locs1 hP1 hD1 hS1 => kk H1 locs1 (pw_set hw hL hD he hk9 hP1 hS1))
theorem pw_iald (hexec : p.tables.exec = Jvm.exec) (hb : c.code = cc) (hK : va_K D cl tys s) (hw : pw_H D cl A H0 ad C H locs) (x y : Nat) (ha : ad x y = a) (t0 : Nat) {cA : ClassId} {n : Nat} {f : Nat → Int32} (he : C x y = some (.inl (cA, n, .inl f))) (ht : tys[t0]? = some (cA, .int)) {i : Int32} (j : Nat) (hi : i = nI j) (hj : j < n) (hjb : j < 2 ^ 31) (hdg : decode cc pc = .ok (.iaload, 1))
    (kk : W p l e R s m args below meth c H locs cells slots Q (F0 m (pc + 1) ls (.int (f j) :: rest))) : W p l e R s m args below meth c H locs cells slots Q (F0 m pc ls (.int i :: .ref a :: rest)) := by
  subst ha; subst hi
  refine va_iald hexec hb hK (hw.one he) 0 t0 rfl ht (pw_in hj hjb) hdg ?_
  rw [nI_clamp hjb]
  exact kk
theorem pw_bald (hexec : p.tables.exec = Jvm.exec) (hb : c.code = cc) (hK : va_K D cl tys s) (hw : pw_H D cl A H0 ad C H locs) (x y : Nat) (ha : ad x y = a) (t0 : Nat) {cA : ClassId} {n : Nat} {f : Nat → Int32} (he : C x y = some (.inl (cA, n, .inl f))) (ht : tys[t0]? = some (cA, .byte)) {i : Int32} (j : Nat) (hi : i = nI j) (hj : j < n) (hjb : j < 2 ^ 31) (hdg : decode cc pc = .ok (.baload, 1))
    (kk : W p l e R s m args below meth c H locs cells slots Q (F0 m (pc + 1) ls (.int (f j) :: rest))) : W p l e R s m args below meth c H locs cells slots Q (F0 m pc ls (.int i :: .ref a :: rest)) := by
  subst ha; subst hi
  refine va_bald hexec hb hK (hw.one he) 0 t0 rfl ht (pw_in hj hjb) hdg ?_
  rw [nI_clamp hjb]
  exact kk
theorem pw_cald (hexec : p.tables.exec = Jvm.exec) (hb : c.code = cc) (hK : va_K D cl tys s) (hw : pw_H D cl A H0 ad C H locs) (x y : Nat) (ha : ad x y = a) (t0 : Nat) {cA : ClassId} {n : Nat} {f : Nat → Int32} (he : C x y = some (.inl (cA, n, .inl f))) (ht : tys[t0]? = some (cA, .char)) {i : Int32} (j : Nat) (hi : i = nI j) (hj : j < n) (hjb : j < 2 ^ 31) (hdg : decode cc pc = .ok (.caload, 1))
    (kk : W p l e R s m args below meth c H locs cells slots Q (F0 m (pc + 1) ls (.int (f j) :: rest))) : W p l e R s m args below meth c H locs cells slots Q (F0 m pc ls (.int i :: .ref a :: rest)) := by
  subst ha; subst hi
  refine va_cald hexec hb hK (hw.one he) 0 t0 rfl ht (pw_in hj hjb) hdg ?_
  rw [nI_clamp hjb]
  exact kk
theorem pw_zald (hexec : p.tables.exec = Jvm.exec) (hb : c.code = cc) (hK : va_K D cl tys s) (hw : pw_H D cl A H0 ad C H locs) (x y : Nat) (ha : ad x y = a) (t0 : Nat) {cA : ClassId} {n : Nat} {f : Nat → Int32} (he : C x y = some (.inl (cA, n, .inl f))) (ht : tys[t0]? = some (cA, .boolean)) {i : Int32} (j : Nat) (hi : i = nI j) (hj : j < n) (hjb : j < 2 ^ 31) (hdg : decode cc pc = .ok (.baload, 1))
    (kk : W p l e R s m args below meth c H locs cells slots Q (F0 m (pc + 1) ls (.int (f j) :: rest))) : W p l e R s m args below meth c H locs cells slots Q (F0 m pc ls (.int i :: .ref a :: rest)) := by
  subst ha; subst hi
  refine va_zald hexec hb hK (hw.one he) 0 t0 rfl ht (pw_in hj hjb) hdg ?_
  rw [nI_clamp hjb]
  exact kk
theorem pw_lald (hexec : p.tables.exec = Jvm.exec) (hb : c.code = cc) (hK : va_K D cl tys s) (hw : pw_H D cl A H0 ad C H locs) (x y : Nat) (ha : ad x y = a) (t0 : Nat) {cA : ClassId} {n : Nat} {f : Nat → Int64} (he : C x y = some (.inl (cA, n, .inr (.inl f)))) (ht : tys[t0]? = some (cA, .long)) {i : Int32} (j : Nat) (hi : i = nI j) (hj : j < n) (hjb : j < 2 ^ 31) (hdg : decode cc pc = .ok (.laload, 1))
    (kk : W p l e R s m args below meth c H locs cells slots Q (F0 m (pc + 1) ls (.long (f j) :: rest))) : W p l e R s m args below meth c H locs cells slots Q (F0 m pc ls (.int i :: .ref a :: rest)) := by
  subst ha; subst hi
  refine va_lald hexec hb hK (hw.one he) 0 t0 rfl ht (pw_in hj hjb) hdg ?_
  rw [nI_clamp hjb]
  exact kk
theorem pw_aald (hexec : p.tables.exec = Jvm.exec) (hb : c.code = cc) (hK : va_K D cl tys s) (hw : pw_H D cl A H0 ad C H locs) (x y : Nat) (ha : ad x y = a) (t0 : Nat) {cA : ClassId} {Cn : String} {n : Nat} {f : Nat → Option Nat} (he : C x y = some (.inl (cA, n, .inr (.inr (.inr (.inr f)))))) (ht : tys[t0]? = some (cA, .object Cn)) {i : Int32} (j : Nat) (hi : i = nI j) (hj : j < n) (hjb : j < 2 ^ 31) (hdg : decode cc pc = .ok (.aaload, 1))
    (kk : W p l e R s m args below meth c H locs cells slots Q (F0 m (pc + 1) ls (va_rf (f j) :: rest))) : W p l e R s m args below meth c H locs cells slots Q (F0 m pc ls (.int i :: .ref a :: rest)) := by
  subst ha; subst hi
  refine va_aldq hexec hb hK (hw.one he) 0 t0 rfl ht (pw_in hj hjb) hdg ?_
  rw [nI_clamp hjb]
  exact kk
theorem pw_alen (hexec : p.tables.exec = Jvm.exec) (hb : c.code = cc) (hK : va_K D cl tys s) (hw : pw_H D cl A H0 ad C H locs) (x y : Nat) (ha : ad x y = a) (t0 : Nat) {cA : ClassId} {z : vp_A} (he : C x y = some (.inl (cA, z))) {ty : FieldType} (ht : tys[t0]? = some (cA, ty)) (hdg : decode cc pc = .ok (.arraylength, 1))
    (kk : W p l e R s m args below meth c H locs cells slots Q (F0 m (pc + 1) ls (.int (nI z.1) :: rest))) : W p l e R s m args below meth c H locs cells slots Q (F0 m pc ls (.ref a :: rest)) := by
  subst ha
  exact va_alen (v := nI z.1) hexec hb hK (hw.one he) 0 t0 rfl ht rfl hdg kk
theorem pw_iast (hexec : p.tables.exec = Jvm.exec) (hb : c.code = cc) (hK : va_K D cl tys s) (hw : pw_H D cl A H0 ad C H locs) (x y : Nat) (ha : ad x y = a) (t0 : Nat) {cA : ClassId} {n : Nat} {f : Nat → Int32} (he : C x y = some (.inl (cA, n, .inl f))) (ht : tys[t0]? = some (cA, .int)) {i : Int32} {v : Int32} (j : Nat) (hi : i = nI j) (hj : j < n) (hjb : j < 2 ^ 31) (hdg : decode cc pc = .ok (.iastore, 1))
    (kk : ∀ (H1 : Heap) (locs1 : List Loc), pw_H D cl A H0 ad (pw_up C x y (some (.inl (cA, n, .inl (upd f j v))))) H1 locs1 → W p l e R s m args below meth c H1 locs1 cells slots Q (F0 m (pc + 1) ls rest)) : W p l e R s m args below meth c H locs cells slots Q (F0 m pc ls (.int v :: .int i :: .ref a :: rest)) := by
  subst ha; subst hi
  obtain ⟨ws, hL, hP, hD⟩ := pw_list hw
  obtain ⟨k9, hk9⟩ := hL.2 x y _ he
  refine va_iast hexec hb hK hP hD hw.2.2 k9 t0 hk9 ht (pw_in hj hjb) hdg (fun H1 locs1 hP1 hD1 hS1 => kk H1 locs1 (pw_set hw hL hD he hk9 ?_ hS1))
  rw [nI_clamp hjb] at hP1
  exact hP1
theorem pw_bast (hexec : p.tables.exec = Jvm.exec) (hb : c.code = cc) (hK : va_K D cl tys s) (hw : pw_H D cl A H0 ad C H locs) (x y : Nat) (ha : ad x y = a) (t0 : Nat) {cA : ClassId} {n : Nat} {f : Nat → Int32} (he : C x y = some (.inl (cA, n, .inl f))) (ht : tys[t0]? = some (cA, .byte)) {i : Int32} {v : Int32} (j : Nat) (hi : i = nI j) (hj : j < n) (hjb : j < 2 ^ 31) (hdg : decode cc pc = .ok (.bastore, 1))
    (kk : ∀ (H1 : Heap) (locs1 : List Loc), pw_H D cl A H0 ad (pw_up C x y (some (.inl (cA, n, .inl (upd f j (vp_nar .byte v)))))) H1 locs1 → W p l e R s m args below meth c H1 locs1 cells slots Q (F0 m (pc + 1) ls rest)) : W p l e R s m args below meth c H locs cells slots Q (F0 m pc ls (.int v :: .int i :: .ref a :: rest)) := by
  subst ha; subst hi
  obtain ⟨ws, hL, hP, hD⟩ := pw_list hw
  obtain ⟨k9, hk9⟩ := hL.2 x y _ he
  refine va_bast hexec hb hK hP hD hw.2.2 k9 t0 hk9 ht (pw_in hj hjb) hdg (fun H1 locs1 hP1 hD1 hS1 => kk H1 locs1 (pw_set hw hL hD he hk9 ?_ hS1))
  rw [nI_clamp hjb] at hP1
  exact hP1
theorem pw_cast (hexec : p.tables.exec = Jvm.exec) (hb : c.code = cc) (hK : va_K D cl tys s) (hw : pw_H D cl A H0 ad C H locs) (x y : Nat) (ha : ad x y = a) (t0 : Nat) {cA : ClassId} {n : Nat} {f : Nat → Int32} (he : C x y = some (.inl (cA, n, .inl f))) (ht : tys[t0]? = some (cA, .char)) {i : Int32} {v : Int32} (j : Nat) (hi : i = nI j) (hj : j < n) (hjb : j < 2 ^ 31) (hdg : decode cc pc = .ok (.castore, 1))
    (kk : ∀ (H1 : Heap) (locs1 : List Loc), pw_H D cl A H0 ad (pw_up C x y (some (.inl (cA, n, .inl (upd f j (vp_nar .char v)))))) H1 locs1 → W p l e R s m args below meth c H1 locs1 cells slots Q (F0 m (pc + 1) ls rest)) : W p l e R s m args below meth c H locs cells slots Q (F0 m pc ls (.int v :: .int i :: .ref a :: rest)) := by
  subst ha; subst hi
  obtain ⟨ws, hL, hP, hD⟩ := pw_list hw
  obtain ⟨k9, hk9⟩ := hL.2 x y _ he
  refine va_cast hexec hb hK hP hD hw.2.2 k9 t0 hk9 ht (pw_in hj hjb) hdg (fun H1 locs1 hP1 hD1 hS1 => kk H1 locs1 (pw_set hw hL hD he hk9 ?_ hS1))
  rw [nI_clamp hjb] at hP1
  exact hP1
theorem pw_zast (hexec : p.tables.exec = Jvm.exec) (hb : c.code = cc) (hK : va_K D cl tys s) (hw : pw_H D cl A H0 ad C H locs) (x y : Nat) (ha : ad x y = a) (t0 : Nat) {cA : ClassId} {n : Nat} {f : Nat → Int32} (he : C x y = some (.inl (cA, n, .inl f))) (ht : tys[t0]? = some (cA, .boolean)) {i : Int32} {v : Int32} (j : Nat) (hi : i = nI j) (hj : j < n) (hjb : j < 2 ^ 31) (hdg : decode cc pc = .ok (.bastore, 1))
    (kk : ∀ (H1 : Heap) (locs1 : List Loc), pw_H D cl A H0 ad (pw_up C x y (some (.inl (cA, n, .inl (upd f j (vp_nar .boolean v)))))) H1 locs1 → W p l e R s m args below meth c H1 locs1 cells slots Q (F0 m (pc + 1) ls rest)) : W p l e R s m args below meth c H locs cells slots Q (F0 m pc ls (.int v :: .int i :: .ref a :: rest)) := by
  subst ha; subst hi
  obtain ⟨ws, hL, hP, hD⟩ := pw_list hw
  obtain ⟨k9, hk9⟩ := hL.2 x y _ he
  refine va_zast hexec hb hK hP hD hw.2.2 k9 t0 hk9 ht (pw_in hj hjb) hdg (fun H1 locs1 hP1 hD1 hS1 => kk H1 locs1 (pw_set hw hL hD he hk9 ?_ hS1))
  rw [nI_clamp hjb] at hP1
  exact hP1
theorem pw_last (hexec : p.tables.exec = Jvm.exec) (hb : c.code = cc) (hK : va_K D cl tys s) (hw : pw_H D cl A H0 ad C H locs) (x y : Nat) (ha : ad x y = a) (t0 : Nat) {cA : ClassId} {n : Nat} {f : Nat → Int64} (he : C x y = some (.inl (cA, n, .inr (.inl f)))) (ht : tys[t0]? = some (cA, .long)) {i : Int32} {v : Int64} (j : Nat) (hi : i = nI j) (hj : j < n) (hjb : j < 2 ^ 31) (hdg : decode cc pc = .ok (.lastore, 1))
    (kk : ∀ (H1 : Heap) (locs1 : List Loc), pw_H D cl A H0 ad (pw_up C x y (some (.inl (cA, n, .inr (.inl (vp_updL f j v)))))) H1 locs1 → W p l e R s m args below meth c H1 locs1 cells slots Q (F0 m (pc + 1) ls rest)) : W p l e R s m args below meth c H locs cells slots Q (F0 m pc ls (.long v :: .int i :: .ref a :: rest)) := by
  subst ha; subst hi
  obtain ⟨ws, hL, hP, hD⟩ := pw_list hw
  obtain ⟨k9, hk9⟩ := hL.2 x y _ he
  refine va_last hexec hb hK hP hD hw.2.2 k9 t0 hk9 ht (pw_in hj hjb) hdg (fun H1 locs1 hP1 hD1 hS1 => kk H1 locs1 (pw_set hw hL hD he hk9 ?_ hS1))
  rw [nI_clamp hjb] at hP1
  exact hP1
theorem pw_aast (hexec : p.tables.exec = Jvm.exec) (hb : c.code = cc) (hK : va_K D cl tys s) (hw : pw_H D cl A H0 ad C H locs) (x y : Nat) (ha : ad x y = a) (t0 : Nat) {cA : ClassId} {n b ci : Nat} {r : vw_C} {f : Nat → Option Nat} (he : C x y = some (.inl (cA, n, .inr (.inr (.inr (.inr f)))))) (ht : tys[t0]? = some (cA, .object r.1)) (x2 y2 : Nat) (hb2 : ad x2 y2 = b) {fs : List Value} (he2 : C x2 y2 = some (.inr (ci, fs))) (hc : cl[ci]? = some r) {i : Int32} (j : Nat) (hi : i = nI j) (hj : j < n) (hjb : j < 2 ^ 31) (hdg : decode cc pc = .ok (.aastore, 1))
    (kk : ∀ (H1 : Heap) (locs1 : List Loc), pw_H D cl A H0 ad (pw_up C x y (some (.inl (cA, n, .inr (.inr (.inr (.inr (va_up f j (some b)))))))) ) H1 locs1 → W p l e R s m args below meth c H1 locs1 cells slots Q (F0 m (pc + 1) ls rest)) : W p l e R s m args below meth c H locs cells slots Q (F0 m pc ls (.ref b :: .int i :: .ref a :: rest)) := by
  subst ha; subst hi; subst hb2
  obtain ⟨ws, hL, hP, hD⟩ := pw_list hw
  obtain ⟨k9, hk9⟩ := hL.2 x y _ he
  obtain ⟨k8, hk8⟩ := hL.2 x2 y2 _ he2
  refine va_astq hexec hb hK hP hD hw.2.2 k9 t0 k8 ci hk9 ht hk8 hc (pw_in hj hjb) hdg (fun H1 locs1 hP1 hD1 hS1 => kk H1 locs1 (pw_set hw hL hD he hk9 ?_ hS1))
  rw [nI_clamp hjb] at hP1
  exact hP1
theorem pw_new {c0 : Code} (hexec : p.tables.exec = Jvm.exec) (hb : c0.code = cc) {own Cn : String} {T : u_T} {N ci index : Nat} {Ts : List Cond} (hts : ∀ w ∈ Ts, w.before args s = true) (hin : ∀ w ∈ u_ws Cn T N, w ∈ Ts) (ty : Nat → FieldType) (hty : ∀ k, k < N → parseFieldDescriptor (T k).2.2.1 = some (ty k)) (hown : s.vm.findClass own = some m.cls) (hcl : (Cond.classLink own index Cn).before args s = true) (hinst : (Cond.instantiable Cn N).before args s = true) (hini : (Cond.initialized Cn).before args s = true)
    (hK : va_K D cl tys s) (hw : pw_H D cl A H0 ad C H locs) (hA : ∀ q, H0.size ≤ q → A q) (x y : Nat) (hn : C x y = none) (hc : cl[ci]? = some (Cn, T, N)) {fs : List Value} (hfs : ∀ j, j < N → defaultValue (ty j) = vp_V fs j) (hcells : cells + 1 ≤ R.cells) (hslots : slots + N ≤ R.slots) (hdg : decode cc pc = .ok (.new index, 3))
    (kk : ∀ (q : Nat) (H1 : Heap), pw_H D cl A H0 (pw_up ad x y q) (pw_up C x y (some (.inr (ci, fs)))) H1 locs →
      W p l e R s m args below meth c0 H1 locs (cells + 1) (slots + N) Q (F0 m (pc + 3) ls (.ref q :: rest))) : W p l e R s m args below meth c0 H locs cells slots Q (F0 m pc ls rest) := by
  obtain ⟨ws, hL, hP, hD⟩ := pw_list hw
  exact va_new hexec hb hts hin ty hty hown hcl hinst hini hK hP hD hw.2.2 hA hc hfs hcells hslots hdg (fun q H1 hP1 hD1 hS1 => kk q H1 (pw_push hw hL hn hP1 hD1 hS1))
theorem pw_newa (hexec : p.tables.exec = Jvm.exec) (hb : c.code = cc) {atype : ArrayType} (harr : (Cond.arrayClass (newarray.typeOf atype)).before args s = true) {ty : FieldType} (hty : newarray.typeOf atype = ty) (hnr : ∀ t, ty ≠ .object t) (hK : va_K D cl tys s) (hw : pw_H D cl A H0 ad C H locs) (hA : ∀ q, H0.size ≤ q → A q) (x y : Nat) (hno : C x y = none) (t0 : Nat) {cA : ClassId} (ht : tys[t0]? = some (cA, ty))
    {n : Int32} {N' : Nat} {a0 : vp_A} (ha : ∀ cA : ClassId, vp_cell cA a0 = arrV cA N' (fun _ => defaultValue ty)) (hN : n = nI N') (hNb : N' < 2 ^ 31) (hbytes : N' * componentBytes ty ≤ 536870912) (hcells : cells + 1 ≤ R.cells) (hslots : slots + N' ≤ R.slots) (hdg : decode cc pc = .ok (.newarray atype, 2))
    (kk : ∀ (q : Nat) (H1 : Heap), pw_H D cl A H0 (pw_up ad x y q) (pw_up C x y (some (.inl (cA, a0)))) H1 locs →
      W p l e R s m args below meth c H1 locs (cells + 1) (slots + N') Q (F0 m (pc + 2) ls (.ref q :: rest))) : W p l e R s m args below meth c H locs cells slots Q (F0 m pc ls (.int n :: rest)) := by
  obtain ⟨ws, hL, hP, hD⟩ := pw_list hw
  obtain ⟨hn0, hn1⟩ := pw_clamp0 hN hNb
  refine va_newa hexec hb harr hty hK hP hD hw.2.2 hA ha hn0 hn1 hbytes hcells hslots hdg (fun q cB H1 hK1 hP1 hD1 hS1 => ?_)
  have e1 := (hK1.2 tys.length (cB, ty) (by rw [List.getElem?_append_right (Nat.le_refl _), Nat.sub_self]; rfl)).2
  have e2 := (hK.2 t0 _ ht).2
  have e3 : cB = cA := by
    cases ty with
    | object t => exact absurd rfl (hnr t)
    | _ => exact Option.some.inj (Eq.trans (Eq.symm e1) e2)
  subst e3
  exact kk q H1 (pw_push hw hL hno hP1 hD1 hS1)
theorem pw_newq (hexec : p.tables.exec = Jvm.exec) (hb : c.code = cc) {own Cn : String} {index : Nat} (hown : s.vm.findClass own = some m.cls) (hclink : (Cond.classLink own index Cn).before args s = true) (hover : va_AO Cn s) (hK : va_K D cl tys s) (hw : pw_H D cl A H0 ad C H locs) (hA : ∀ q, H0.size ≤ q → A q) (x y : Nat) (hno : C x y = none) (t0 : Nat) {cA : ClassId} (ht : tys[t0]? = some (cA, .object Cn))
    {n : Int32} {N' : Nat} (hN : n = nI N') (hNb : N' < 2 ^ 31) (hbytes : N' * 4 ≤ 536870912) (hcells : cells + 1 ≤ R.cells) (hslots : slots + N' ≤ R.slots) (hdg : decode cc pc = .ok (.anewarray index, 3))
    (kk : ∀ (q : Nat) (H1 : Heap), pw_H D cl A H0 (pw_up ad x y q) (pw_up C x y (some (.inl (cA, N', .inr (.inr (.inr (.inr (fun _ => none)))))))) H1 locs →
      W p l e R s m args below meth c H1 locs (cells + 1) (slots + N') Q (F0 m (pc + 3) ls (.ref q :: rest))) : W p l e R s m args below meth c H locs cells slots Q (F0 m pc ls (.int n :: rest)) := by
  obtain ⟨ws, hL, hP, hD⟩ := pw_list hw
  obtain ⟨hn0, hn1⟩ := pw_clamp0 hN hNb
  refine va_newq hexec hb hown hclink hover hK hP hD hw.2.2 hA hn0 hn1 hbytes hcells hslots hdg (fun q cB H1 hK1 hP1 hD1 hS1 => ?_)
  obtain ⟨_, _, _, _, _, e1⟩ := (hK1.2 tys.length (cB, .object Cn) (by rw [List.getElem?_append_right (Nat.le_refl _), Nat.sub_self]; rfl)).2
  obtain ⟨_, _, _, _, _, e2⟩ := (hK.2 t0 _ ht).2
  have e3 : cB = cA := Option.some.inj (e1.symm.trans e2)
  subst e3
  exact kk q H1 (pw_push hw hL hno hP1 hD1 hS1)
theorem pw_copyi (hexec : p.tables.exec = Jvm.exec) (hb : c.code = cc) (hml : c.maxLocals = ls.size) {own : String} {index : Nat} (hown : s.vm.findClass own = some m.cls) (hlink : (Cond.methodLink own index arraycopyName).before args s = true) (hnat : (Cond.native arraycopyName).before args s = true) (hstat : (Cond.static arraycopyName).before args s = true) (hini : (Cond.initialized "java/lang/System").before args s = true)
    (hK : va_K D cl tys s) (hw : pw_H D cl A H0 ad C H locs) (x0 y0 x1 y1 : Nat) {a0 : Nat} (hb0 : ad x0 y0 = a0) (hb1 : ad x1 y1 = a) (t0 t1 : Nat) {c0 c1 : ClassId} {n0 n1 : Nat} {f g : Nat → Int32} {ty : FieldType} (he0 : C x0 y0 = some (.inl (c0, n0, .inl f))) (he1 : C x1 y1 = some (.inl (c1, n1, .inl g))) (ht0 : tys[t0]? = some (c0, ty)) (ht1 : tys[t1]? = some (c1, ty)) (hprim : refKind ty = false)
    {sp dp n : Int32} (jsp jdp jn : Nat) (h1 : sp = nI jsp) (h2 : dp = nI jdp) (h3 : n = nI jn) (h4 : jsp + jn ≤ n0) (h5 : jdp + jn ≤ n1) (hb9 : n0 < 2 ^ 31 ∧ n1 < 2 ^ 31) (hfit : ∀ i, i < jn → fits ty (.int (f (jsp + i))) = true)
    (hframes : 1 ≤ R.frames) (hlocals : (rest.map fun v => v.category).sum + (nativeFrameWords "java/lang/System" "arraycopy" 5 + 11) ≤ R.locals) (hdg : decode cc pc = .ok (.invokestatic index, 3))
    (kk : ∀ (H1 : Heap) (locs1 : List Loc), pw_H D cl A H0 ad (pw_up C x1 y1 (some (.inl (c1, n1, .inl (va_cpy f g jsp jdp jn))))) H1 locs1 → W p l e R s m args below meth c H1 locs1 cells slots Q (F0 m (pc + 3) ls rest)) : W p l e R s m args below meth c H locs cells slots Q (F0 m pc ls (.int n :: .int dp :: .ref a :: .int sp :: .ref a0 :: rest)) := by
  subst hb0; subst hb1
  obtain ⟨ws, hL, hP, hD⟩ := pw_list hw
  obtain ⟨k8, hk8⟩ := hL.2 x0 y0 _ he0
  obtain ⟨k9, hk9⟩ := hL.2 x1 y1 _ he1
  obtain ⟨s1, s2⟩ := pw_clamp0 h1 (by omega)
  obtain ⟨d1, d2⟩ := pw_clamp0 h2 (by omega)
  obtain ⟨m1, m2⟩ := pw_clamp0 h3 (by omega)
  refine va_copyi hexec hb hml hown hlink hnat hstat hini hK hP hD hw.2.2 k8 k9 t0 t1 hk8 hk9 ht0 ht1 hprim s1 d1 m1 (by rw [s2, m2]; exact h4) (by rw [d2, m2]; exact h5) (by rw [s2, m2]; exact hfit) hframes hlocals hdg (fun H1 locs1 hP1 hD1 hS1 => kk H1 locs1 (pw_set hw hL hD he1 hk9 ?_ hS1))
  rw [s2, d2, m2] at hP1
  exact hP1
end PW
/-! answers -/
def pw_pi (post : Int32 → pw_A → pw_C → Prop) : Option Value → pw_A → pw_C → Prop := fun v a c => ∃ r : Int32, v = some (.int r) ∧ post r a c
def pw_pl (post : Int64 → pw_A → pw_C → Prop) : Option Value → pw_A → pw_C → Prop := fun v a c => ∃ r : Int64, v = some (.long r) ∧ post r a c
def pw_pv (post : pw_A → pw_C → Prop) : Option Value → pw_A → pw_C → Prop := fun v a c => v = none ∧ post a c
def pw_pr (post : Nat → pw_A → pw_C → Prop) : Option Value → pw_A → pw_C → Prop := fun v a c => ∃ r : Nat, v = some (.ref r) ∧ post r a c
section PWE
variable {p : Program} {l : Launch} {e : Env} {R : Room} {s : State} {m : MethodId} {args : Array Value} {below : List Frame} {meth : Method} {c : Code} {H : Heap} {locs : List Loc} {cells slots : Nat} {Q : State → Prop}
variable {cc : ByteArray} {pc : Nat} {ls : Array Slot} {rest st0 : List Value} {D : va_G} {cl : List vw_C} {A : Nat → Prop} {tys : List (ClassId × FieldType)} {H0 : Heap} {ad : pw_A} {C : pw_C} {a : Nat}
theorem pw_calli {post : Int32 → pw_A → pw_C → Prop} {a9 : Array Value} {mc ms : Nat} (hr : va_Run p l e R s m args below meth c H locs cells slots mc ms (F0 m pc ls st0) rest (pw_Q D cl (pw_pi post) (pw_dom ad C H.size) a9) (pw_dom ad C H.size)) (hw : pw_H D cl A H0 ad C H locs) (hA : ∀ q, H0.size ≤ q → A q)
    (kk : ∀ (r : Int32) (ad' : pw_A) (C' : pw_C) (H1 : Heap) (locs1 : List Loc), post r ad' C' → pw_H D cl A H0 ad' C' H1 locs1 → W p l e R s m args below meth c H1 locs1 (cells + mc) (slots + ms) Q (F0 m (pc + 3) ls (.int r :: rest))) : W p l e R s m args below meth c H locs cells slots Q (F0 m pc ls st0) :=
  pw_call hr hw hA (fun v ad' C' H1 locs1 hp hw1 => by obtain ⟨r, rfl, hp⟩ := hp; exact kk r ad' C' H1 locs1 hp hw1)
theorem pw_calll {post : Int64 → pw_A → pw_C → Prop} {a9 : Array Value} {mc ms : Nat} (hr : va_Run p l e R s m args below meth c H locs cells slots mc ms (F0 m pc ls st0) rest (pw_Q D cl (pw_pl post) (pw_dom ad C H.size) a9) (pw_dom ad C H.size)) (hw : pw_H D cl A H0 ad C H locs) (hA : ∀ q, H0.size ≤ q → A q)
    (kk : ∀ (r : Int64) (ad' : pw_A) (C' : pw_C) (H1 : Heap) (locs1 : List Loc), post r ad' C' → pw_H D cl A H0 ad' C' H1 locs1 → W p l e R s m args below meth c H1 locs1 (cells + mc) (slots + ms) Q (F0 m (pc + 3) ls (.long r :: rest))) : W p l e R s m args below meth c H locs cells slots Q (F0 m pc ls st0) :=
  pw_call hr hw hA (fun v ad' C' H1 locs1 hp hw1 => by obtain ⟨r, rfl, hp⟩ := hp; exact kk r ad' C' H1 locs1 hp hw1)
theorem pw_callv {post : pw_A → pw_C → Prop} {a9 : Array Value} {mc ms : Nat} (hr : va_Run p l e R s m args below meth c H locs cells slots mc ms (F0 m pc ls st0) rest (pw_Q D cl (pw_pv post) (pw_dom ad C H.size) a9) (pw_dom ad C H.size)) (hw : pw_H D cl A H0 ad C H locs) (hA : ∀ q, H0.size ≤ q → A q)
    (kk : ∀ (ad' : pw_A) (C' : pw_C) (H1 : Heap) (locs1 : List Loc), post ad' C' → pw_H D cl A H0 ad' C' H1 locs1 → W p l e R s m args below meth c H1 locs1 (cells + mc) (slots + ms) Q (F0 m (pc + 3) ls rest)) : W p l e R s m args below meth c H locs cells slots Q (F0 m pc ls st0) :=
  pw_call hr hw hA (fun v ad' C' H1 locs1 hp hw1 => by obtain ⟨rfl, hp⟩ := hp; exact kk ad' C' H1 locs1 hp hw1)
theorem pw_callr {post : Nat → pw_A → pw_C → Prop} {a9 : Array Value} {mc ms : Nat} (hr : va_Run p l e R s m args below meth c H locs cells slots mc ms (F0 m pc ls st0) rest (pw_Q D cl (pw_pr post) (pw_dom ad C H.size) a9) (pw_dom ad C H.size)) (hw : pw_H D cl A H0 ad C H locs) (hA : ∀ q, H0.size ≤ q → A q)
    (kk : ∀ (r : Nat) (ad' : pw_A) (C' : pw_C) (H1 : Heap) (locs1 : List Loc), post r ad' C' → pw_H D cl A H0 ad' C' H1 locs1 → W p l e R s m args below meth c H1 locs1 (cells + mc) (slots + ms) Q (F0 m (pc + 3) ls (.ref r :: rest))) : W p l e R s m args below meth c H locs cells slots Q (F0 m pc ls st0) :=
  pw_call hr hw hA (fun v ad' C' H1 locs1 hp hw1 => by obtain ⟨r, rfl, hp⟩ := hp; exact kk r ad' C' H1 locs1 hp hw1)
theorem pw_iret {post : Int32 → pw_A → pw_C → Prop} (hexec : p.tables.exec = Jvm.exec) (hb : c.code = cc) (hr : meth.sig.returnType = some .int) (hlocks : meth.locks = false) (hw : pw_H D cl A s.heap ad C H locs) {r : Int32} (hp : post r ad C) (hdg : decode cc pc = .ok (.ireturn, 1)) : W p l e R s m args below meth c H locs cells slots (MQ below (pw_Q D cl (pw_pi post) A) args s cells slots A) (F0 m pc ls [.int r]) :=
  W.iret (v := r) hexec hb hr (fun t ht hW => ⟨⟨some (.int r), ad, C, rfl, ⟨r, rfl, hp⟩, by rw [ht]; exact hw.1, hw.2.1⟩, hw.2.2.F ht⟩) hw.2.2.2.2 hdg
theorem pw_zret {post : Int32 → pw_A → pw_C → Prop} {ty : FieldType} (hexec : p.tables.exec = Jvm.exec) (hb : c.code = cc) (hr : meth.sig.returnType = some ty) (hlocks : meth.locks = false) (hw : pw_H D cl A s.heap ad C H locs) {r : Int32} (hn : narrow ty (.int r) = .int r) (hp : post r ad C) (hdg : decode cc pc = .ok (.ireturn, 1)) : W p l e R s m args below meth c H locs cells slots (MQ below (pw_Q D cl (pw_pi post) A) args s cells slots A) (F0 m pc ls [.int r]) :=
  W.zret (v := r) hexec hb hr hn (fun t ht hW => ⟨⟨some (.int r), ad, C, rfl, ⟨r, rfl, hp⟩, by rw [ht]; exact hw.1, hw.2.1⟩, hw.2.2.F ht⟩) hw.2.2.2.2 hdg
theorem pw_lret {post : Int64 → pw_A → pw_C → Prop} (hexec : p.tables.exec = Jvm.exec) (hb : c.code = cc) (hr : meth.sig.returnType = some .long) (hlocks : meth.locks = false) (hw : pw_H D cl A s.heap ad C H locs) {r : Int64} (hp : post r ad C) (hdg : decode cc pc = .ok (.lreturn, 1)) : W p l e R s m args below meth c H locs cells slots (MQ below (pw_Q D cl (pw_pl post) A) args s cells slots A) (F0 m pc ls [.long r]) :=
  W.lret (v := r) hexec hb hr (fun t ht hW => ⟨⟨some (.long r), ad, C, rfl, ⟨r, rfl, hp⟩, by rw [ht]; exact hw.1, hw.2.1⟩, hw.2.2.F ht⟩) hw.2.2.2.2 hdg
theorem pw_vret {post : pw_A → pw_C → Prop} (hexec : p.tables.exec = Jvm.exec) (hb : c.code = cc) (hr : meth.sig.returnType = none) (hlocks : meth.locks = false) (hw : pw_H D cl A s.heap ad C H locs) (hp : post ad C) (hdg : decode cc pc = .ok (.return_, 1)) : W p l e R s m args below meth c H locs cells slots (MQ below (pw_Q D cl (pw_pv post) A) args s cells slots A) (F0 m pc ls []) :=
  W.vret hexec hb hr (fun t ht hW => ⟨⟨none, ad, C, rfl, ⟨rfl, hp⟩, by rw [ht]; exact hw.1, hw.2.1⟩, hw.2.2.F ht⟩) hw.2.2.2.2 hdg
theorem pw_aret {post : Nat → pw_A → pw_C → Prop} {rt : FieldType} (hexec : p.tables.exec = Jvm.exec) (hb : c.code = cc) (hr : meth.sig.returnType = some rt) (hrt : (∃ n, rt = .object n) ∨ ∃ t, rt = .array t) (hlocks : meth.locks = false) (hw : pw_H D cl A s.heap ad C H locs) {r : Nat} (hp : post r ad C) (hdg : decode cc pc = .ok (.areturn, 1)) : W p l e R s m args below meth c H locs cells slots (MQ below (pw_Q D cl (pw_pr post) A) args s cells slots A) (F0 m pc ls [.ref r]) :=
  W.aret (v := .ref r) hexec hb hr hrt (Or.inr ⟨r, rfl⟩) (fun t ht hW => ⟨⟨some (.ref r), ad, C, rfl, ⟨r, rfl, hp⟩, by rw [ht]; exact hw.1, hw.2.1⟩, hw.2.2.F ht⟩) hw.2.2.2.2 hdg
end PWE
/-- what a body has at its entry -/
def pw_B (p : Program) (s : State) (m : MethodId) (args : Array Value) (meth : Method) (c : Code) (y : MethodName) (cc : ByteArray) (maxL : Nat) (ret : Option FieldType) (ws : List Cond) : Prop :=
  p.tables.exec = Jvm.exec ∧ c.code = cc ∧ meth.sig.returnType = ret ∧ c.maxLocals = maxL ∧ (∀ w ∈ ws, w.before args s = true) ∧ meth.locks = false ∧ s.vm.findClass y.cls = some m.cls ∧ meth.name = y.name
theorem pw_ofW {l : Launch} {y : MethodName} {ws ws' : List Cond} {rm : Room} {D : va_G} {cl : List vw_C} {tys : List (ClassId × FieldType)} {Z : (Nat → Prop) → State → Prop} {av : List Value} {ad : pw_A} {C : pw_C} {post : Option Value → pw_A → pw_C → Prop} {mc ms : Nat} {cc : ByteArray} {maxL : Nat} {ret : Option FieldType}
    (hy : plainName y.cls = true) (hws : ws = Cond.code y cc maxL ret :: ws') (hav : (lg_sl av).length ≤ maxL)
    (body : ∀ (p : Program) (e : Env) (s : State) (m : MethodId) (args : Array Value) (below : List Frame) (meth : Method) (c : Code) (A : Nat → Prop) (ls : Array Slot), pw_B p s m args meth c y cc maxL ret ws → (∀ q, s.heap.size ≤ q → A q) → pw_H D cl A s.heap ad C s.heap [] → va_K D cl tys s → Z A s → lv_has ls maxL (lv_args 0 av) →
      W p l e rm s m args below meth c s.heap [] 0 0 (MQ below (pw_Q D cl post A) args s mc ms A) (F0 m 0 ls [])) : pw_Con l y ws rm D cl tys Z av ad C post mc ms := by
  intro sz
  refine Met.ofW (cc := cc) (maxL := maxL) (ret := ret) hy hws ?_
  intro p e s m args below meth c s₁ B hml hv
  obtain ⟨rfl, hsz, hP, hK, hz⟩ := hv
  subst hsz
  have hl := lv_entry av (n := maxL) hav
  rw [lg_entry_eq]
  exact body p e s m _ below meth c (pw_dom ad C s.heap.size) _ ⟨B.exec, B.bytes, B.returns, hml, atoms_spec (ws := ws) B.pre, B.notSynchronized, findClass_of_methodNamed B.named, (name_of_methodNamed B.named B.method).1⟩ pw_dom_new (pw_start hP) hK hz hl
/-- a contract's answer may be said otherwise -/
theorem pw_Con.post {l : Launch} {y : MethodName} {ws : List Cond} {rm : Room} {D : va_G} {cl : List vw_C} {tys : List (ClassId × FieldType)} {Z : (Nat → Prop) → State → Prop} {av : List Value} {ad : pw_A} {C : pw_C} {post post' : Option Value → pw_A → pw_C → Prop} {mc ms : Nat} (h : pw_Con l y ws rm D cl tys Z av ad C post mc ms) (hp : ∀ v a c, post v a c → post' v a c) : pw_Con l y ws rm D cl tys Z av ad C post' mc ms := by
  intro sz p e h1 h2 h3 s m args below h4 h5 h6 h7
  obtain ⟨n, o, g1, g2, g3, ⟨⟨⟨v, a', c', k1, k2, k3⟩, k4⟩, g5⟩⟩ := h sz p e h1 h2 h3 s m args below h4 h5 h6 h7
  exact ⟨n, o, g1, g2, g3, ⟨⟨⟨v, a', c', k1, hp v a' c' k2, k3⟩, k4⟩, g5⟩⟩
end
