section
-- ===== PART A: goes FIRST, ahead of the names: the tables' words, and 'selects' of the private methods out of them =====
/-- a private method of a class that the tables say can be made, by its rows of tables_1 -/
def lw_okq (q : MethodName × Nat) : Prop := (q.1.cls ≠ "java/lang/invoke/MethodHandle" ∧ q.1.cls ≠ "java/lang/invoke/VarHandle") ∧ Cond.instantiable q.1.cls q.2 ∈ tables_1 ∧ Cond.privateMethod q.1 ∈ tables_1 ∧ Cond.instanceMethod q.1 ∈ tables_1
theorem lw_p0 : lw_okq (⟨"VoiceForm$Form", "addSlot", "(IZ)I"⟩, 2) := ⟨⟨by decide +kernel, by decide +kernel⟩, List.mem_of_getElem? (i := 22) (by decide +kernel), List.mem_of_getElem? (i := 306) (by decide +kernel), List.mem_of_getElem? (i := 307) (by decide +kernel)⟩
theorem lw_p1 : lw_okq (⟨"VoiceForm$Form", "reckonNeeds", "()I"⟩, 2) := ⟨⟨by decide +kernel, by decide +kernel⟩, List.mem_of_getElem? (i := 22) (by decide +kernel), List.mem_of_getElem? (i := 315) (by decide +kernel), List.mem_of_getElem? (i := 316) (by decide +kernel)⟩
theorem lw_p2 : lw_okq (⟨"VoiceForm", "countOffered", "()I"⟩, 8) := ⟨⟨by decide +kernel, by decide +kernel⟩, List.mem_of_getElem? (i := 14) (by decide +kernel), List.mem_of_getElem? (i := 327) (by decide +kernel), List.mem_of_getElem? (i := 328) (by decide +kernel)⟩
theorem lw_p3 : lw_okq (⟨"VoiceForm$Reader", "offerAnswers", "(LVoiceForm$Slot;I)V"⟩, 7) := ⟨⟨by decide +kernel, by decide +kernel⟩, List.mem_of_getElem? (i := 127) (by decide +kernel), List.mem_of_getElem? (i := 396) (by decide +kernel), List.mem_of_getElem? (i := 397) (by decide +kernel)⟩
theorem lw_p4 : lw_okq (⟨"VoiceForm$Reader", "offerDigits", "(LVoiceForm$Slot;I)V"⟩, 7) := ⟨⟨by decide +kernel, by decide +kernel⟩, List.mem_of_getElem? (i := 127) (by decide +kernel), List.mem_of_getElem? (i := 400) (by decide +kernel), List.mem_of_getElem? (i := 401) (by decide +kernel)⟩
theorem lw_p5 : lw_okq (⟨"VoiceForm$DigitRows", "standBehind", "(II)I"⟩, 3) := ⟨⟨by decide +kernel, by decide +kernel⟩, List.mem_of_getElem? (i := 146) (by decide +kernel), List.mem_of_getElem? (i := 430) (by decide +kernel), List.mem_of_getElem? (i := 431) (by decide +kernel)⟩
theorem lw_p6 : lw_okq (⟨"VoiceForm$DigitRows", "grow", "(IIII)V"⟩, 3) := ⟨⟨by decide +kernel, by decide +kernel⟩, List.mem_of_getElem? (i := 146) (by decide +kernel), List.mem_of_getElem? (i := 436) (by decide +kernel), List.mem_of_getElem? (i := 437) (by decide +kernel)⟩
theorem lw_p7 : lw_okq (⟨"VoiceForm$DigitRows", "weight", "(II)I"⟩, 3) := ⟨⟨by decide +kernel, by decide +kernel⟩, List.mem_of_getElem? (i := 146) (by decide +kernel), List.mem_of_getElem? (i := 440) (by decide +kernel), List.mem_of_getElem? (i := 441) (by decide +kernel)⟩
theorem lw_p8 : lw_okq (⟨"VoiceForm$Reader", "leadIn", "(II)I"⟩, 7) := ⟨⟨by decide +kernel, by decide +kernel⟩, List.mem_of_getElem? (i := 127) (by decide +kernel), List.mem_of_getElem? (i := 453) (by decide +kernel), List.mem_of_getElem? (i := 454) (by decide +kernel)⟩
theorem lw_p9 : lw_okq (⟨"VoiceForm$Reader", "offer", "(III)V"⟩, 7) := ⟨⟨by decide +kernel, by decide +kernel⟩, List.mem_of_getElem? (i := 127) (by decide +kernel), List.mem_of_getElem? (i := 466) (by decide +kernel), List.mem_of_getElem? (i := 467) (by decide +kernel)⟩
theorem lw_p10 : lw_okq (⟨"VoiceForm$Reader", "offerListed", "(LVoiceForm$WordList;I)V"⟩, 7) := ⟨⟨by decide +kernel, by decide +kernel⟩, List.mem_of_getElem? (i := 127) (by decide +kernel), List.mem_of_getElem? (i := 472) (by decide +kernel), List.mem_of_getElem? (i := 473) (by decide +kernel)⟩
theorem lw_p11 : lw_okq (⟨"VoiceForm$Reader", "offerOrders", "()V"⟩, 7) := ⟨⟨by decide +kernel, by decide +kernel⟩, List.mem_of_getElem? (i := 127) (by decide +kernel), List.mem_of_getElem? (i := 494) (by decide +kernel), List.mem_of_getElem? (i := 495) (by decide +kernel)⟩
theorem lw_p12 : lw_okq (⟨"VoiceForm$Talk", "take", "(I)I"⟩, 13) := ⟨⟨by decide +kernel, by decide +kernel⟩, List.mem_of_getElem? (i := 197) (by decide +kernel), List.mem_of_getElem? (i := 529) (by decide +kernel), List.mem_of_getElem? (i := 530) (by decide +kernel)⟩
theorem lw_p13 : lw_okq (⟨"VoiceForm$Talk", "takeAnswer", "(II)I"⟩, 13) := ⟨⟨by decide +kernel, by decide +kernel⟩, List.mem_of_getElem? (i := 197) (by decide +kernel), List.mem_of_getElem? (i := 537) (by decide +kernel), List.mem_of_getElem? (i := 538) (by decide +kernel)⟩
theorem lw_p14 : lw_okq (⟨"VoiceForm$Talk", "keep", "(IIZ)I"⟩, 13) := ⟨⟨by decide +kernel, by decide +kernel⟩, List.mem_of_getElem? (i := 197) (by decide +kernel), List.mem_of_getElem? (i := 546) (by decide +kernel), List.mem_of_getElem? (i := 547) (by decide +kernel)⟩
theorem lw_p15 : lw_okq (⟨"VoiceForm$Form", "firstToCome", "(I)I"⟩, 2) := ⟨⟨by decide +kernel, by decide +kernel⟩, List.mem_of_getElem? (i := 22) (by decide +kernel), List.mem_of_getElem? (i := 558) (by decide +kernel), List.mem_of_getElem? (i := 559) (by decide +kernel)⟩
def lw_privs_1 : List (MethodName × Nat) := [(⟨"VoiceForm$Form", "addSlot", "(IZ)I"⟩, 2), (⟨"VoiceForm$Form", "reckonNeeds", "()I"⟩, 2), (⟨"VoiceForm", "countOffered", "()I"⟩, 8), (⟨"VoiceForm$Reader", "offerAnswers", "(LVoiceForm$Slot;I)V"⟩, 7), (⟨"VoiceForm$Reader", "offerDigits", "(LVoiceForm$Slot;I)V"⟩, 7), (⟨"VoiceForm$DigitRows", "standBehind", "(II)I"⟩, 3), (⟨"VoiceForm$DigitRows", "grow", "(IIII)V"⟩, 3), (⟨"VoiceForm$DigitRows", "weight", "(II)I"⟩, 3), (⟨"VoiceForm$Reader", "leadIn", "(II)I"⟩, 7), (⟨"VoiceForm$Reader", "offer", "(III)V"⟩, 7), (⟨"VoiceForm$Reader", "offerListed", "(LVoiceForm$WordList;I)V"⟩, 7), (⟨"VoiceForm$Reader", "offerOrders", "()V"⟩, 7), (⟨"VoiceForm$Talk", "take", "(I)I"⟩, 13), (⟨"VoiceForm$Talk", "takeAnswer", "(II)I"⟩, 13), (⟨"VoiceForm$Talk", "keep", "(IIZ)I"⟩, 13), (⟨"VoiceForm$Form", "firstToCome", "(I)I"⟩, 2)]
theorem lw_r1 : ∀ q ∈ lw_privs_1, lw_okq q := List.forall_mem_cons.mpr ⟨lw_p0, List.forall_mem_cons.mpr ⟨lw_p1, List.forall_mem_cons.mpr ⟨lw_p2, List.forall_mem_cons.mpr ⟨lw_p3, List.forall_mem_cons.mpr ⟨lw_p4, List.forall_mem_cons.mpr ⟨lw_p5, List.forall_mem_cons.mpr ⟨lw_p6, List.forall_mem_cons.mpr ⟨lw_p7, List.forall_mem_cons.mpr ⟨lw_p8, List.forall_mem_cons.mpr ⟨lw_p9, List.forall_mem_cons.mpr ⟨lw_p10, List.forall_mem_cons.mpr ⟨lw_p11, List.forall_mem_cons.mpr ⟨lw_p12, List.forall_mem_cons.mpr ⟨lw_p13, List.forall_mem_cons.mpr ⟨lw_p14, List.forall_mem_cons.mpr ⟨lw_p15, fun _ h => absurd h List.not_mem_nil⟩⟩⟩⟩⟩⟩⟩⟩⟩⟩⟩⟩⟩⟩⟩⟩
theorem lw_p16 : lw_okq (⟨"VoiceForm$Talk", "come", "(I)V"⟩, 13) := ⟨⟨by decide +kernel, by decide +kernel⟩, List.mem_of_getElem? (i := 197) (by decide +kernel), List.mem_of_getElem? (i := 569) (by decide +kernel), List.mem_of_getElem? (i := 570) (by decide +kernel)⟩
theorem lw_p17 : lw_okq (⟨"VoiceForm$Talk", "goBack", "()I"⟩, 13) := ⟨⟨by decide +kernel, by decide +kernel⟩, List.mem_of_getElem? (i := 197) (by decide +kernel), List.mem_of_getElem? (i := 577) (by decide +kernel), List.mem_of_getElem? (i := 578) (by decide +kernel)⟩
theorem lw_p18 : lw_okq (⟨"VoiceForm$Talk", "skip", "()I"⟩, 13) := ⟨⟨by decide +kernel, by decide +kernel⟩, List.mem_of_getElem? (i := 197) (by decide +kernel), List.mem_of_getElem? (i := 585) (by decide +kernel), List.mem_of_getElem? (i := 586) (by decide +kernel)⟩
theorem lw_p19 : lw_okq (⟨"VoiceForm$Talk", "goTo", "(I)I"⟩, 13) := ⟨⟨by decide +kernel, by decide +kernel⟩, List.mem_of_getElem? (i := 197) (by decide +kernel), List.mem_of_getElem? (i := 589) (by decide +kernel), List.mem_of_getElem? (i := 590) (by decide +kernel)⟩
theorem lw_p20 : lw_okq (⟨"VoiceForm", "differingDigits", "()I"⟩, 8) := ⟨⟨by decide +kernel, by decide +kernel⟩, List.mem_of_getElem? (i := 14) (by decide +kernel), List.mem_of_getElem? (i := 598) (by decide +kernel), List.mem_of_getElem? (i := 599) (by decide +kernel)⟩
theorem lw_p21 : lw_okq (⟨"VoiceFormModel", "isNew", "(I)Z"⟩, 41) := ⟨⟨by decide +kernel, by decide +kernel⟩, List.mem_of_getElem? (i := 655) (by decide +kernel), List.mem_of_getElem? (i := 790) (by decide +kernel), List.mem_of_getElem? (i := 791) (by decide +kernel)⟩
theorem lw_p22 : lw_okq (⟨"VoiceFormModel", "comes", "(IZ)I"⟩, 41) := ⟨⟨by decide +kernel, by decide +kernel⟩, List.mem_of_getElem? (i := 655) (by decide +kernel), List.mem_of_getElem? (i := 797) (by decide +kernel), List.mem_of_getElem? (i := 798) (by decide +kernel)⟩
theorem lw_p23 : lw_okq (⟨"VoiceFormModel", "isField", "(I)Z"⟩, 41) := ⟨⟨by decide +kernel, by decide +kernel⟩, List.mem_of_getElem? (i := 655) (by decide +kernel), List.mem_of_getElem? (i := 809) (by decide +kernel), List.mem_of_getElem? (i := 810) (by decide +kernel)⟩
theorem lw_p24 : lw_okq (⟨"VoiceFormModel", "readAll", "()V"⟩, 41) := ⟨⟨by decide +kernel, by decide +kernel⟩, List.mem_of_getElem? (i := 655) (by decide +kernel), List.mem_of_getElem? (i := 829) (by decide +kernel), List.mem_of_getElem? (i := 830) (by decide +kernel)⟩
theorem lw_p25 : lw_okq (⟨"VoiceFormModel", "set", "(IIII)V"⟩, 41) := ⟨⟨by decide +kernel, by decide +kernel⟩, List.mem_of_getElem? (i := 655) (by decide +kernel), List.mem_of_getElem? (i := 834) (by decide +kernel), List.mem_of_getElem? (i := 835) (by decide +kernel)⟩
theorem lw_p26 : lw_okq (⟨"VoiceFormModel", "read", "(I)V"⟩, 41) := ⟨⟨by decide +kernel, by decide +kernel⟩, List.mem_of_getElem? (i := 655) (by decide +kernel), List.mem_of_getElem? (i := 838) (by decide +kernel), List.mem_of_getElem? (i := 839) (by decide +kernel)⟩
theorem lw_p27 : lw_okq (⟨"VoiceFormModel", "answer", "(II)I"⟩, 41) := ⟨⟨by decide +kernel, by decide +kernel⟩, List.mem_of_getElem? (i := 655) (by decide +kernel), List.mem_of_getElem? (i := 842) (by decide +kernel), List.mem_of_getElem? (i := 843) (by decide +kernel)⟩
theorem lw_p28 : lw_okq (⟨"VoiceFormModel", "holds", "(II)Z"⟩, 41) := ⟨⟨by decide +kernel, by decide +kernel⟩, List.mem_of_getElem? (i := 655) (by decide +kernel), List.mem_of_getElem? (i := 846) (by decide +kernel), List.mem_of_getElem? (i := 847) (by decide +kernel)⟩
theorem lw_p29 : lw_okq (⟨"VoiceFormModel", "found", "(III)V"⟩, 41) := ⟨⟨by decide +kernel, by decide +kernel⟩, List.mem_of_getElem? (i := 655) (by decide +kernel), List.mem_of_getElem? (i := 850) (by decide +kernel), List.mem_of_getElem? (i := 851) (by decide +kernel)⟩
theorem lw_p30 : lw_okq (⟨"VoiceFormModel", "fieldNamed", "(I)I"⟩, 41) := ⟨⟨by decide +kernel, by decide +kernel⟩, List.mem_of_getElem? (i := 655) (by decide +kernel), List.mem_of_getElem? (i := 857) (by decide +kernel), List.mem_of_getElem? (i := 858) (by decide +kernel)⟩
theorem lw_p31 : lw_okq (⟨"VoiceFormModel", "unlike", "()I"⟩, 41) := ⟨⟨by decide +kernel, by decide +kernel⟩, List.mem_of_getElem? (i := 655) (by decide +kernel), List.mem_of_getElem? (i := 861) (by decide +kernel), List.mem_of_getElem? (i := 862) (by decide +kernel)⟩
def lw_privs_2 : List (MethodName × Nat) := [(⟨"VoiceForm$Talk", "come", "(I)V"⟩, 13), (⟨"VoiceForm$Talk", "goBack", "()I"⟩, 13), (⟨"VoiceForm$Talk", "skip", "()I"⟩, 13), (⟨"VoiceForm$Talk", "goTo", "(I)I"⟩, 13), (⟨"VoiceForm", "differingDigits", "()I"⟩, 8), (⟨"VoiceFormModel", "isNew", "(I)Z"⟩, 41), (⟨"VoiceFormModel", "comes", "(IZ)I"⟩, 41), (⟨"VoiceFormModel", "isField", "(I)Z"⟩, 41), (⟨"VoiceFormModel", "readAll", "()V"⟩, 41), (⟨"VoiceFormModel", "set", "(IIII)V"⟩, 41), (⟨"VoiceFormModel", "read", "(I)V"⟩, 41), (⟨"VoiceFormModel", "answer", "(II)I"⟩, 41), (⟨"VoiceFormModel", "holds", "(II)Z"⟩, 41), (⟨"VoiceFormModel", "found", "(III)V"⟩, 41), (⟨"VoiceFormModel", "fieldNamed", "(I)I"⟩, 41), (⟨"VoiceFormModel", "unlike", "()I"⟩, 41)]
theorem lw_r2 : ∀ q ∈ lw_privs_2, lw_okq q := List.forall_mem_cons.mpr ⟨lw_p16, List.forall_mem_cons.mpr ⟨lw_p17, List.forall_mem_cons.mpr ⟨lw_p18, List.forall_mem_cons.mpr ⟨lw_p19, List.forall_mem_cons.mpr ⟨lw_p20, List.forall_mem_cons.mpr ⟨lw_p21, List.forall_mem_cons.mpr ⟨lw_p22, List.forall_mem_cons.mpr ⟨lw_p23, List.forall_mem_cons.mpr ⟨lw_p24, List.forall_mem_cons.mpr ⟨lw_p25, List.forall_mem_cons.mpr ⟨lw_p26, List.forall_mem_cons.mpr ⟨lw_p27, List.forall_mem_cons.mpr ⟨lw_p28, List.forall_mem_cons.mpr ⟨lw_p29, List.forall_mem_cons.mpr ⟨lw_p30, List.forall_mem_cons.mpr ⟨lw_p31, fun _ h => absurd h List.not_mem_nil⟩⟩⟩⟩⟩⟩⟩⟩⟩⟩⟩⟩⟩⟩⟩⟩
theorem lw_p32 : lw_okq (⟨"VoiceFormModel", "act", "()I"⟩, 41) := ⟨⟨by decide +kernel, by decide +kernel⟩, List.mem_of_getElem? (i := 655) (by decide +kernel), List.mem_of_getElem? (i := 865) (by decide +kernel), List.mem_of_getElem? (i := 866) (by decide +kernel)⟩
theorem lw_p33 : lw_okq (⟨"VoiceFormModel", "take", "(II)I"⟩, 41) := ⟨⟨by decide +kernel, by decide +kernel⟩, List.mem_of_getElem? (i := 655) (by decide +kernel), List.mem_of_getElem? (i := 869) (by decide +kernel), List.mem_of_getElem? (i := 870) (by decide +kernel)⟩
theorem lw_p34 : lw_okq (⟨"VoiceFormModel", "answered", "(II)I"⟩, 41) := ⟨⟨by decide +kernel, by decide +kernel⟩, List.mem_of_getElem? (i := 655) (by decide +kernel), List.mem_of_getElem? (i := 873) (by decide +kernel), List.mem_of_getElem? (i := 874) (by decide +kernel)⟩
theorem lw_p35 : lw_okq (⟨"VoiceFormModel", "keep", "(IIZ)I"⟩, 41) := ⟨⟨by decide +kernel, by decide +kernel⟩, List.mem_of_getElem? (i := 655) (by decide +kernel), List.mem_of_getElem? (i := 877) (by decide +kernel), List.mem_of_getElem? (i := 878) (by decide +kernel)⟩
theorem lw_p36 : lw_okq (⟨"VoiceFormModel", "isAsked", "(I)Z"⟩, 41) := ⟨⟨by decide +kernel, by decide +kernel⟩, List.mem_of_getElem? (i := 655) (by decide +kernel), List.mem_of_getElem? (i := 881) (by decide +kernel), List.mem_of_getElem? (i := 882) (by decide +kernel)⟩
theorem lw_p37 : lw_okq (⟨"VoiceFormModel", "nextBehind", "(I)I"⟩, 41) := ⟨⟨by decide +kernel, by decide +kernel⟩, List.mem_of_getElem? (i := 655) (by decide +kernel), List.mem_of_getElem? (i := 885) (by decide +kernel), List.mem_of_getElem? (i := 886) (by decide +kernel)⟩
theorem lw_p38 : lw_okq (⟨"VoiceFormModel", "isOpen", "(I)Z"⟩, 41) := ⟨⟨by decide +kernel, by decide +kernel⟩, List.mem_of_getElem? (i := 655) (by decide +kernel), List.mem_of_getElem? (i := 889) (by decide +kernel), List.mem_of_getElem? (i := 890) (by decide +kernel)⟩
theorem lw_p39 : lw_okq (⟨"VoiceFormModel", "comesNow", "(I)V"⟩, 41) := ⟨⟨by decide +kernel, by decide +kernel⟩, List.mem_of_getElem? (i := 655) (by decide +kernel), List.mem_of_getElem? (i := 893) (by decide +kernel), List.mem_of_getElem? (i := 894) (by decide +kernel)⟩
theorem lw_p40 : lw_okq (⟨"VoiceFormModel", "goBack", "()I"⟩, 41) := ⟨⟨by decide +kernel, by decide +kernel⟩, List.mem_of_getElem? (i := 655) (by decide +kernel), List.mem_of_getElem? (i := 897) (by decide +kernel), List.mem_of_getElem? (i := 898) (by decide +kernel)⟩
theorem lw_p41 : lw_okq (⟨"VoiceFormModel", "skip", "()I"⟩, 41) := ⟨⟨by decide +kernel, by decide +kernel⟩, List.mem_of_getElem? (i := 655) (by decide +kernel), List.mem_of_getElem? (i := 901) (by decide +kernel), List.mem_of_getElem? (i := 902) (by decide +kernel)⟩
theorem lw_p42 : lw_okq (⟨"VoiceFormModel", "go", "(I)I"⟩, 41) := ⟨⟨by decide +kernel, by decide +kernel⟩, List.mem_of_getElem? (i := 655) (by decide +kernel), List.mem_of_getElem? (i := 905) (by decide +kernel), List.mem_of_getElem? (i := 906) (by decide +kernel)⟩
def lw_privs_3 : List (MethodName × Nat) := [(⟨"VoiceFormModel", "act", "()I"⟩, 41), (⟨"VoiceFormModel", "take", "(II)I"⟩, 41), (⟨"VoiceFormModel", "answered", "(II)I"⟩, 41), (⟨"VoiceFormModel", "keep", "(IIZ)I"⟩, 41), (⟨"VoiceFormModel", "isAsked", "(I)Z"⟩, 41), (⟨"VoiceFormModel", "nextBehind", "(I)I"⟩, 41), (⟨"VoiceFormModel", "isOpen", "(I)Z"⟩, 41), (⟨"VoiceFormModel", "comesNow", "(I)V"⟩, 41), (⟨"VoiceFormModel", "goBack", "()I"⟩, 41), (⟨"VoiceFormModel", "skip", "()I"⟩, 41), (⟨"VoiceFormModel", "go", "(I)I"⟩, 41)]
theorem lw_r3 : ∀ q ∈ lw_privs_3, lw_okq q := List.forall_mem_cons.mpr ⟨lw_p32, List.forall_mem_cons.mpr ⟨lw_p33, List.forall_mem_cons.mpr ⟨lw_p34, List.forall_mem_cons.mpr ⟨lw_p35, List.forall_mem_cons.mpr ⟨lw_p36, List.forall_mem_cons.mpr ⟨lw_p37, List.forall_mem_cons.mpr ⟨lw_p38, List.forall_mem_cons.mpr ⟨lw_p39, List.forall_mem_cons.mpr ⟨lw_p40, List.forall_mem_cons.mpr ⟨lw_p41, List.forall_mem_cons.mpr ⟨lw_p42, fun _ h => absurd h List.not_mem_nil⟩⟩⟩⟩⟩⟩⟩⟩⟩⟩⟩
def lw_privs : List (MethodName × Nat) := lw_privs_1 ++ (lw_privs_2 ++ (lw_privs_3))
def lw_tbl : List Cond := k2_sels lw_privs ++ tables_1
theorem lw_privs_ok : ∀ q ∈ lw_privs, lw_okq q := by
  show ∀ q ∈ lw_privs_1 ++ (lw_privs_2 ++ (lw_privs_3)), lw_okq q
  exact List.forall_mem_append.mpr ⟨lw_r1, List.forall_mem_append.mpr ⟨lw_r2, lw_r3⟩⟩
end
section
/-! ===== BEGIN printed: names, fields, word lists, decode rows ===== -/
def RX0 : String := "VoiceForm$DigitRows"
def TX0 : u_T := fun k => match k with
  | 0 => ("VoiceForm$DigitRows", "rows", "LVoiceForm$Twos;", true)
  | 1 => ("VoiceForm$DigitRows", "length", "I", false)
  | _ => ("VoiceForm$DigitRows", "check", "Z", false)
def tyX0 : Nat → FieldType := fun k => match k with
  | 0 => .object "VoiceForm$Twos"
  | 1 => .int
  | _ => .boolean
abbrev wsX00 : List Cond := u_ws RX0 TX0 3
theorem nmX0 : ∀ a, a < 3 → ∀ b, b < 3 → a ≠ b → (TX0 a).2.1 ≠ (TX0 b).2.1 := by decide +kernel
theorem tyX0_ok : ∀ k, k < 3 → parseFieldDescriptor (TX0 k).2.2.1 = some (tyX0 k) := by decide +kernel
abbrev cX0_init : ByteArray := prog_2_method_1_code
def yX0_init : MethodName := ⟨RX0, "<init>", "()V"⟩
abbrev cX0_clear : ByteArray := prog_2_method_2_code
def yX0_clear : MethodName := ⟨RX0, "clear", "(IZ)V"⟩
abbrev cX0_begin : ByteArray := prog_2_method_3_code
def yX0_begin : MethodName := ⟨RX0, "begin", "(I)V"⟩
abbrev cX0_hearPlace : ByteArray := prog_2_method_4_code
def yX0_hearPlace : MethodName := ⟨RX0, "hearPlace", "(LVoiceForm$Heard;II)V"⟩
abbrev cX0_cost : ByteArray := prog_2_method_5_code
def yX0_cost : MethodName := ⟨RX0, "cost", "(I)I"⟩
abbrev cX0_value : ByteArray := prog_2_method_6_code
def yX0_value : MethodName := ⟨RX0, "value", "(I)I"⟩
abbrev cX0_standBehind : ByteArray := prog_2_method_7_code
def yX0_standBehind : MethodName := ⟨RX0, "standBehind", "(II)I"⟩
abbrev cX0_grow : ByteArray := prog_2_method_8_code
def yX0_grow : MethodName := ⟨RX0, "grow", "(IIII)V"⟩
abbrev cX0_weight : ByteArray := prog_2_method_9_code
def yX0_weight : MethodName := ⟨RX0, "weight", "(II)I"⟩
def RX1 : String := "VoiceForm$Form"
def TX1 : u_T := fun k => match k with
  | 0 => ("VoiceForm$Form", "slots", "[LVoiceForm$Slot;", true)
  | _ => ("VoiceForm$Form", "count", "I", false)
def tyX1 : Nat → FieldType := fun k => match k with
  | 0 => .array (.object "VoiceForm$Slot")
  | _ => .int
abbrev wsX10 : List Cond := u_ws RX1 TX1 2
theorem nmX1 : ∀ a, a < 2 → ∀ b, b < 2 → a ≠ b → (TX1 a).2.1 ≠ (TX1 b).2.1 := by decide +kernel
theorem tyX1_ok : ∀ k, k < 2 → parseFieldDescriptor (TX1 k).2.2.1 = some (tyX1 k) := by decide +kernel
abbrev cX1_init : ByteArray := prog_3_method_1_code
def yX1_init : MethodName := ⟨RX1, "<init>", "()V"⟩
abbrev cX1_slotAt : ByteArray := prog_3_method_2_code
def yX1_slotAt : MethodName := ⟨RX1, "slotAt", "(I)LVoiceForm$Slot;"⟩
abbrev cX1_numberOf : ByteArray := prog_3_method_3_code
def yX1_numberOf : MethodName := ⟨RX1, "numberOf", "(I)I"⟩
abbrev cX1_canName : ByteArray := prog_3_method_4_code
def yX1_canName : MethodName := ⟨RX1, "canName", "(I)Z"⟩
abbrev cX1_addDigits : ByteArray := prog_3_method_5_code
def yX1_addDigits : MethodName := ⟨RX1, "addDigits", "(IIZZ)I"⟩
abbrev cX1_addChoice : ByteArray := prog_3_method_6_code
def yX1_addChoice : MethodName := ⟨RX1, "addChoice", "(IZ[II)I"⟩
abbrev cX1_addSlot : ByteArray := prog_3_method_7_code
def yX1_addSlot : MethodName := ⟨RX1, "addSlot", "(IZ)I"⟩
abbrev cX1_addNeed : ByteArray := prog_3_method_8_code
def yX1_addNeed : MethodName := ⟨RX1, "addNeed", "(III)Z"⟩
abbrev cX1_countOpen : ByteArray := prog_3_method_9_code
def yX1_countOpen : MethodName := ⟨RX1, "countOpen", "()I"⟩
abbrev cX1_countUnheard : ByteArray := prog_3_method_10_code
def yX1_countUnheard : MethodName := ⟨RX1, "countUnheard", "()I"⟩
abbrev cX1_hearAllBack : ByteArray := prog_3_method_11_code
def yX1_hearAllBack : MethodName := ⟨RX1, "hearAllBack", "()I"⟩
abbrev cX1_nextBehind : ByteArray := prog_3_method_12_code
def yX1_nextBehind : MethodName := ⟨RX1, "nextBehind", "(I)I"⟩
abbrev cX1_firstToCome : ByteArray := prog_3_method_13_code
def yX1_firstToCome : MethodName := ⟨RX1, "firstToCome", "(I)I"⟩
abbrev cX1_keepValue : ByteArray := prog_3_method_14_code
def yX1_keepValue : MethodName := ⟨RX1, "keepValue", "(IIZ)I"⟩
abbrev cX1_reckonNeeds : ByteArray := prog_3_method_15_code
def yX1_reckonNeeds : MethodName := ⟨RX1, "reckonNeeds", "()I"⟩
def RX2 : String := "VoiceForm$Heard"
def TX2 : u_T := fun k => match k with
  | 0 => ("VoiceForm$Heard", "words", "[I", true)
  | 1 => ("VoiceForm$Heard", "costs", "[I", true)
  | 2 => ("VoiceForm$Heard", "counts", "[I", true)
  | _ => ("VoiceForm$Heard", "places", "I", false)
def tyX2 : Nat → FieldType := fun k => match k with
  | 0 => .array .int
  | 1 => .array .int
  | 2 => .array .int
  | _ => .int
abbrev wsX20 : List Cond := u_ws RX2 TX2 4
theorem nmX2 : ∀ a, a < 4 → ∀ b, b < 4 → a ≠ b → (TX2 a).2.1 ≠ (TX2 b).2.1 := by decide +kernel
theorem tyX2_ok : ∀ k, k < 4 → parseFieldDescriptor (TX2 k).2.2.1 = some (tyX2 k) := by decide +kernel
abbrev cX2_init : ByteArray := prog_4_method_1_code
def yX2_init : MethodName := ⟨RX2, "<init>", "()V"⟩
abbrev cX2_clear : ByteArray := prog_4_method_2_code
def yX2_clear : MethodName := ⟨RX2, "clear", "()V"⟩
abbrev cX2_addPlace : ByteArray := prog_4_method_3_code
def yX2_addPlace : MethodName := ⟨RX2, "addPlace", "()I"⟩
abbrev cX2_addWord : ByteArray := prog_4_method_4_code
def yX2_addWord : MethodName := ⟨RX2, "addWord", "(II)I"⟩
abbrev cX2_wordsIn : ByteArray := prog_4_method_5_code
def yX2_wordsIn : MethodName := ⟨RX2, "wordsIn", "(I)I"⟩
abbrev cX2_wordAt : ByteArray := prog_4_method_6_code
def yX2_wordAt : MethodName := ⟨RX2, "wordAt", "(II)I"⟩
abbrev cX2_costAt : ByteArray := prog_4_method_7_code
def yX2_costAt : MethodName := ⟨RX2, "costAt", "(II)I"⟩
abbrev cX2_costOf : ByteArray := prog_4_method_8_code
def yX2_costOf : MethodName := ⟨RX2, "costOf", "(II)I"⟩
def RX3 : String := "VoiceForm$Pile"
def TX3 : u_T := fun k => match k with
  | 0 => ("VoiceForm$Pile", "fields", "[I", true)
  | _ => ("VoiceForm$Pile", "size", "I", false)
def tyX3 : Nat → FieldType := fun k => match k with
  | 0 => .array .int
  | _ => .int
abbrev wsX30 : List Cond := u_ws RX3 TX3 2
theorem nmX3 : ∀ a, a < 2 → ∀ b, b < 2 → a ≠ b → (TX3 a).2.1 ≠ (TX3 b).2.1 := by decide +kernel
theorem tyX3_ok : ∀ k, k < 2 → parseFieldDescriptor (TX3 k).2.2.1 = some (tyX3 k) := by decide +kernel
abbrev cX3_init : ByteArray := prog_5_method_1_code
def yX3_init : MethodName := ⟨RX3, "<init>", "()V"⟩
abbrev cX3_push : ByteArray := prog_5_method_2_code
def yX3_push : MethodName := ⟨RX3, "push", "(I)V"⟩
abbrev cX3_pop : ByteArray := prog_5_method_3_code
def yX3_pop : MethodName := ⟨RX3, "pop", "()I"⟩
def RX4 : String := "VoiceForm$Reader"
def TX4 : u_T := fun k => match k with
  | 0 => ("VoiceForm$Reader", "form", "LVoiceForm$Form;", true)
  | 1 => ("VoiceForm$Reader", "heard", "LVoiceForm$Heard;", true)
  | 2 => ("VoiceForm$Reader", "meanings", "LVoiceForm$Twos;", true)
  | 3 => ("VoiceForm$Reader", "digitRows", "LVoiceForm$DigitRows;", true)
  | 4 => ("VoiceForm$Reader", "noise", "I", false)
  | 5 => ("VoiceForm$Reader", "order", "I", false)
  | _ => ("VoiceForm$Reader", "near", "I", false)
def tyX4 : Nat → FieldType := fun k => match k with
  | 0 => .object "VoiceForm$Form"
  | 1 => .object "VoiceForm$Heard"
  | 2 => .object "VoiceForm$Twos"
  | 3 => .object "VoiceForm$DigitRows"
  | 4 => .int
  | 5 => .int
  | _ => .int
abbrev wsX40 : List Cond := u_ws RX4 TX4 7
theorem nmX4 : ∀ a, a < 7 → ∀ b, b < 7 → a ≠ b → (TX4 a).2.1 ≠ (TX4 b).2.1 := by decide +kernel
theorem tyX4_ok : ∀ k, k < 7 → parseFieldDescriptor (TX4 k).2.2.1 = some (tyX4 k) := by decide +kernel
abbrev cX4_init : ByteArray := prog_6_method_1_code
def yX4_init : MethodName := ⟨RX4, "<init>", "(LVoiceForm$Form;LVoiceForm$Heard;)V"⟩
abbrev cX4_forget : ByteArray := prog_6_method_2_code
def yX4_forget : MethodName := ⟨RX4, "forget", "()V"⟩
abbrev cX4_read : ByteArray := prog_6_method_3_code
def yX4_read : MethodName := ⟨RX4, "read", "(II)V"⟩
abbrev cX4_found : ByteArray := prog_6_method_4_code
def yX4_found : MethodName := ⟨RX4, "found", "(I)Z"⟩
abbrev cX4_key : ByteArray := prog_6_method_5_code
def yX4_key : MethodName := ⟨RX4, "key", "(I)I"⟩
abbrev cX4_sort : ByteArray := prog_6_method_6_code
def yX4_sort : MethodName := ⟨RX4, "sort", "(I)I"⟩
abbrev cX4_value : ByteArray := prog_6_method_7_code
def yX4_value : MethodName := ⟨RX4, "value", "(I)I"⟩
abbrev cX4_cost : ByteArray := prog_6_method_8_code
def yX4_cost : MethodName := ⟨RX4, "cost", "(I)I"⟩
abbrev cX4_isOtherNear : ByteArray := prog_6_method_9_code
def yX4_isOtherNear : MethodName := ⟨RX4, "isOtherNear", "()Z"⟩
abbrev cX4_sortOf : ByteArray := prog_6_method_10_code
def yX4_sortOf : MethodName := ⟨RX4, "sortOf", "(I)I"⟩
abbrev cX4_valueOf : ByteArray := prog_6_method_11_code
def yX4_valueOf : MethodName := ⟨RX4, "valueOf", "(I)I"⟩
abbrev cX4_offerAnswers : ByteArray := prog_6_method_12_code
def yX4_offerAnswers : MethodName := ⟨RX4, "offerAnswers", "(LVoiceForm$Slot;I)V"⟩
abbrev cX4_offerOrders : ByteArray := prog_6_method_13_code
def yX4_offerOrders : MethodName := ⟨RX4, "offerOrders", "()V"⟩
abbrev cX4_offerListed : ByteArray := prog_6_method_14_code
def yX4_offerListed : MethodName := ⟨RX4, "offerListed", "(LVoiceForm$WordList;I)V"⟩
abbrev cX4_offerDigits : ByteArray := prog_6_method_15_code
def yX4_offerDigits : MethodName := ⟨RX4, "offerDigits", "(LVoiceForm$Slot;I)V"⟩
abbrev cX4_leadAtFirst : ByteArray := prog_6_method_16_code
def yX4_leadAtFirst : MethodName := ⟨RX4, "leadAtFirst", "(I)I"⟩
abbrev cX4_leadIn : ByteArray := prog_6_method_17_code
def yX4_leadIn : MethodName := ⟨RX4, "leadIn", "(II)I"⟩
abbrev cX4_offer : ByteArray := prog_6_method_18_code
def yX4_offer : MethodName := ⟨RX4, "offer", "(III)V"⟩
def RX5 : String := "VoiceForm$Slot"
def TX5 : u_T := fun k => match k with
  | 0 => ("VoiceForm$Slot", "name", "I", false)
  | 1 => ("VoiceForm$Slot", "length", "I", false)
  | 2 => ("VoiceForm$Slot", "check", "Z", false)
  | 3 => ("VoiceForm$Slot", "careful", "Z", false)
  | 4 => ("VoiceForm$Slot", "words", "[I", true)
  | 5 => ("VoiceForm$Slot", "wordCount", "I", false)
  | 6 => ("VoiceForm$Slot", "need", "I", false)
  | 7 => ("VoiceForm$Slot", "neededValue", "I", false)
  | 8 => ("VoiceForm$Slot", "asked", "Z", false)
  | 9 => ("VoiceForm$Slot", "hasValue", "Z", false)
  | 10 => ("VoiceForm$Slot", "value", "I", false)
  | 11 => ("VoiceForm$Slot", "heardBack", "Z", false)
  | _ => ("VoiceForm$Slot", "skipped", "Z", false)
def tyX5 : Nat → FieldType := fun k => match k with
  | 0 => .int
  | 1 => .int
  | 2 => .boolean
  | 3 => .boolean
  | 4 => .array .int
  | 5 => .int
  | 6 => .int
  | 7 => .int
  | 8 => .boolean
  | 9 => .boolean
  | 10 => .int
  | 11 => .boolean
  | _ => .boolean
abbrev wsX50 : List Cond := u_ws RX5 TX5 13
theorem nmX5 : ∀ a, a < 13 → ∀ b, b < 13 → a ≠ b → (TX5 a).2.1 ≠ (TX5 b).2.1 := by decide +kernel
theorem tyX5_ok : ∀ k, k < 13 → parseFieldDescriptor (TX5 k).2.2.1 = some (tyX5 k) := by decide +kernel
abbrev cX5_init : ByteArray := prog_7_method_1_code
def yX5_init : MethodName := ⟨RX5, "<init>", "()V"⟩
abbrev cX5_numberOf : ByteArray := prog_7_method_2_code
def yX5_numberOf : MethodName := ⟨RX5, "numberOf", "(I)I"⟩
abbrev cX5_isReadBack : ByteArray := prog_7_method_3_code
def yX5_isReadBack : MethodName := ⟨RX5, "isReadBack", "()Z"⟩
abbrev cX5_isMetBy : ByteArray := prog_7_method_4_code
def yX5_isMetBy : MethodName := ⟨RX5, "isMetBy", "(LVoiceForm$Slot;)Z"⟩
abbrev cX5_isOpen : ByteArray := prog_7_method_5_code
def yX5_isOpen : MethodName := ⟨RX5, "isOpen", "()Z"⟩
abbrev cX5_isUnheard : ByteArray := prog_7_method_6_code
def yX5_isUnheard : MethodName := ⟨RX5, "isUnheard", "()Z"⟩
def RX6 : String := "VoiceForm$Talk"
def TX6 : u_T := fun k => match k with
  | 0 => ("VoiceForm$Talk", "form", "LVoiceForm$Form;", true)
  | 1 => ("VoiceForm$Talk", "reader", "LVoiceForm$Reader;", true)
  | 2 => ("VoiceForm$Talk", "pile", "LVoiceForm$Pile;", true)
  | 3 => ("VoiceForm$Talk", "atHand", "I", false)
  | 4 => ("VoiceForm$Talk", "last", "I", false)
  | 5 => ("VoiceForm$Talk", "stopped", "Z", false)
  | 6 => ("VoiceForm$Talk", "sent", "Z", false)
  | 7 => ("VoiceForm$Talk", "fallen", "I", false)
  | 8 => ("VoiceForm$Talk", "waits", "I", false)
  | 9 => ("VoiceForm$Talk", "readField", "I", false)
  | 10 => ("VoiceForm$Talk", "readValue", "I", false)
  | 11 => ("VoiceForm$Talk", "firstKey", "I", false)
  | _ => ("VoiceForm$Talk", "secondKey", "I", false)
def tyX6 : Nat → FieldType := fun k => match k with
  | 0 => .object "VoiceForm$Form"
  | 1 => .object "VoiceForm$Reader"
  | 2 => .object "VoiceForm$Pile"
  | 3 => .int
  | 4 => .int
  | 5 => .boolean
  | 6 => .boolean
  | 7 => .int
  | 8 => .int
  | 9 => .int
  | 10 => .int
  | 11 => .int
  | _ => .int
abbrev wsX60 : List Cond := u_ws RX6 TX6 13
theorem nmX6 : ∀ a, a < 13 → ∀ b, b < 13 → a ≠ b → (TX6 a).2.1 ≠ (TX6 b).2.1 := by decide +kernel
theorem tyX6_ok : ∀ k, k < 13 → parseFieldDescriptor (TX6 k).2.2.1 = some (tyX6 k) := by decide +kernel
abbrev cX6_init : ByteArray := prog_8_method_1_code
def yX6_init : MethodName := ⟨RX6, "<init>", "(LVoiceForm$Form;LVoiceForm$Reader;)V"⟩
abbrev cX6_hear : ByteArray := prog_8_method_2_code
def yX6_hear : MethodName := ⟨RX6, "hear", "()I"⟩
abbrev cX6_take : ByteArray := prog_8_method_3_code
def yX6_take : MethodName := ⟨RX6, "take", "(I)I"⟩
abbrev cX6_takeAnswer : ByteArray := prog_8_method_4_code
def yX6_takeAnswer : MethodName := ⟨RX6, "takeAnswer", "(II)I"⟩
abbrev cX6_keep : ByteArray := prog_8_method_5_code
def yX6_keep : MethodName := ⟨RX6, "keep", "(IIZ)I"⟩
abbrev cX6_come : ByteArray := prog_8_method_6_code
def yX6_come : MethodName := ⟨RX6, "come", "(I)V"⟩
abbrev cX6_goBack : ByteArray := prog_8_method_7_code
def yX6_goBack : MethodName := ⟨RX6, "goBack", "()I"⟩
abbrev cX6_skip : ByteArray := prog_8_method_8_code
def yX6_skip : MethodName := ⟨RX6, "skip", "()I"⟩
abbrev cX6_goTo : ByteArray := prog_8_method_9_code
def yX6_goTo : MethodName := ⟨RX6, "goTo", "(I)I"⟩
def RX7 : String := "VoiceForm$Twos"
def TX7 : u_T := fun k => match k with
  | 0 => ("VoiceForm$Twos", "costs", "[I", true)
  | _ => ("VoiceForm$Twos", "keys", "[I", true)
def tyX7 : Nat → FieldType := fun k => match k with
  | 0 => .array .int
  | _ => .array .int
abbrev wsX70 : List Cond := u_ws RX7 TX7 2
theorem nmX7 : ∀ a, a < 2 → ∀ b, b < 2 → a ≠ b → (TX7 a).2.1 ≠ (TX7 b).2.1 := by decide +kernel
theorem tyX7_ok : ∀ k, k < 2 → parseFieldDescriptor (TX7 k).2.2.1 = some (tyX7 k) := by decide +kernel
abbrev cX7_init : ByteArray := prog_9_method_1_code
def yX7_init : MethodName := ⟨RX7, "<init>", "(I)V"⟩
abbrev cX7_clear : ByteArray := prog_9_method_2_code
def yX7_clear : MethodName := ⟨RX7, "clear", "()V"⟩
abbrev cX7_cost : ByteArray := prog_9_method_3_code
def yX7_cost : MethodName := ⟨RX7, "cost", "(II)I"⟩
abbrev cX7_key : ByteArray := prog_9_method_4_code
def yX7_key : MethodName := ⟨RX7, "key", "(II)I"⟩
abbrev cX7_offer : ByteArray := prog_9_method_5_code
def yX7_offer : MethodName := ⟨RX7, "offer", "(III)V"⟩
def RX8 : String := "VoiceForm$WordList"
def TX8 : u_T := fun k => match k with
  | _ => ("", "", "", false)
def tyX8 : Nat → FieldType := fun k => match k with
  | _ => .int
abbrev wsX80 : List Cond := u_ws RX8 TX8 0
theorem nmX8 : ∀ a, a < 0 → ∀ b, b < 0 → a ≠ b → (TX8 a).2.1 ≠ (TX8 b).2.1 := by decide +kernel
theorem tyX8_ok : ∀ k, k < 0 → parseFieldDescriptor (TX8 k).2.2.1 = some (tyX8 k) := by decide +kernel
def RX9 : String := "VoiceForm"
def TX9 : u_T := fun k => match k with
  | 0 => ("VoiceForm", "form", "LVoiceForm$Form;", true)
  | 1 => ("VoiceForm", "heard", "LVoiceForm$Heard;", true)
  | 2 => ("VoiceForm", "reader", "LVoiceForm$Reader;", true)
  | 3 => ("VoiceForm", "talk", "LVoiceForm$Talk;", true)
  | 4 => ("VoiceForm", "offered", "[I", true)
  | 5 => ("VoiceForm", "latest", "I", false)
  | 6 => ("VoiceForm", "misses", "I", false)
  | _ => ("VoiceForm", "differing", "I", false)
def tyX9 : Nat → FieldType := fun k => match k with
  | 0 => .object "VoiceForm$Form"
  | 1 => .object "VoiceForm$Heard"
  | 2 => .object "VoiceForm$Reader"
  | 3 => .object "VoiceForm$Talk"
  | 4 => .array .int
  | 5 => .int
  | 6 => .int
  | _ => .int
abbrev wsX90 : List Cond := u_ws RX9 TX9 8
theorem nmX9 : ∀ a, a < 8 → ∀ b, b < 8 → a ≠ b → (TX9 a).2.1 ≠ (TX9 b).2.1 := by decide +kernel
theorem tyX9_ok : ∀ k, k < 8 → parseFieldDescriptor (TX9 k).2.2.1 = some (tyX9 k) := by decide +kernel
abbrev cX9_init : ByteArray := prog_1_method_1_code
def yX9_init : MethodName := ⟨RX9, "<init>", "()V"⟩
abbrev cX9_digits : ByteArray := prog_1_method_2_code
def yX9_digits : MethodName := ⟨RX9, "digits", "(IIZZ)I"⟩
abbrev cX9_choice : ByteArray := prog_1_method_3_code
def yX9_choice : MethodName := ⟨RX9, "choice", "(IZIIIIII)I"⟩
abbrev cX9_needs : ByteArray := prog_1_method_4_code
def yX9_needs : MethodName := ⟨RX9, "needs", "(III)Z"⟩
abbrev cX9_costs : ByteArray := prog_1_method_5_code
def yX9_costs : MethodName := ⟨RX9, "costs", "(III)Z"⟩
abbrev cX9_place : ByteArray := prog_1_method_6_code
def yX9_place : MethodName := ⟨RX9, "place", "()I"⟩
abbrev cX9_word : ByteArray := prog_1_method_7_code
def yX9_word : MethodName := ⟨RX9, "word", "(II)I"⟩
abbrev cX9_say : ByteArray := prog_1_method_8_code
def yX9_say : MethodName := ⟨RX9, "say", "()I"⟩
abbrev cX9_goOn : ByteArray := prog_1_method_9_code
def yX9_goOn : MethodName := ⟨RX9, "goOn", "()Z"⟩
abbrev cX9_told : ByteArray := prog_1_method_10_code
def yX9_told : MethodName := ⟨RX9, "told", "(I)I"⟩
abbrev cX9_about : ByteArray := prog_1_method_11_code
def yX9_about : MethodName := ⟨RX9, "about", "(I)I"⟩
abbrev cX9_field : ByteArray := prog_1_method_12_code
def yX9_field : MethodName := ⟨RX9, "field", "(II)I"⟩
abbrev cX9_hearBack : ByteArray := prog_1_method_13_code
def yX9_hearBack : MethodName := ⟨RX9, "hearBack", "()I"⟩
abbrev cX9_send : ByteArray := prog_1_method_14_code
def yX9_send : MethodName := ⟨RX9, "send", "()Z"⟩
abbrev cX9_differingDigits : ByteArray := prog_1_method_15_code
def yX9_differingDigits : MethodName := ⟨RX9, "differingDigits", "()I"⟩
abbrev cX9_countOffered : ByteArray := prog_1_method_16_code
def yX9_countOffered : MethodName := ⟨RX9, "countOffered", "()I"⟩
abbrev cX9_isWithin : ByteArray := prog_1_method_17_code
def yX9_isWithin : MethodName := ⟨RX9, "isWithin", "(II)Z"⟩
abbrev cX9_isName : ByteArray := prog_1_method_18_code
def yX9_isName : MethodName := ⟨RX9, "isName", "(I)Z"⟩
abbrev cX9_oneIf : ByteArray := prog_1_method_19_code
def yX9_oneIf : MethodName := ⟨RX9, "oneIf", "(Z)I"⟩
def RX10 : String := "VoiceFormModel"
def TX10 : u_T := fun k => match k with
  | 0 => ("VoiceFormModel", "fields", "I", false)
  | 1 => ("VoiceFormModel", "name", "[I", true)
  | 2 => ("VoiceFormModel", "length", "[I", true)
  | 3 => ("VoiceFormModel", "many", "[I", true)
  | 4 => ("VoiceFormModel", "hasCheck", "[Z", true)
  | 5 => ("VoiceFormModel", "careful", "[Z", true)
  | 6 => ("VoiceFormModel", "words", "[I", true)
  | 7 => ("VoiceFormModel", "needs", "[I", true)
  | 8 => ("VoiceFormModel", "needValue", "[I", true)
  | 9 => ("VoiceFormModel", "value", "[I", true)
  | 10 => ("VoiceFormModel", "isBack", "[Z", true)
  | 11 => ("VoiceFormModel", "isSkipped", "[Z", true)
  | 12 => ("VoiceFormModel", "noise", "I", false)
  | 13 => ("VoiceFormModel", "order", "I", false)
  | 14 => ("VoiceFormModel", "near", "I", false)
  | 15 => ("VoiceFormModel", "given", "[I", true)
  | 16 => ("VoiceFormModel", "places", "I", false)
  | 17 => ("VoiceFormModel", "heardMany", "[I", true)
  | 18 => ("VoiceFormModel", "heardWord", "[I", true)
  | 19 => ("VoiceFormModel", "heardCost", "[I", true)
  | 20 => ("VoiceFormModel", "sort", "[I", true)
  | 21 => ("VoiceFormModel", "means", "[I", true)
  | 22 => ("VoiceFormModel", "cost", "[I", true)
  | 23 => ("VoiceFormModel", "row", "[I", true)
  | 24 => ("VoiceFormModel", "rows", "I", false)
  | 25 => ("VoiceFormModel", "wheel", "[I", true)
  | 26 => ("VoiceFormModel", "said", "Z", false)
  | 27 => ("VoiceFormModel", "isStopped", "Z", false)
  | 28 => ("VoiceFormModel", "wasSent", "Z", false)
  | 29 => ("VoiceFormModel", "hand", "I", false)
  | 30 => ("VoiceFormModel", "last", "I", false)
  | 31 => ("VoiceFormModel", "piled", "I", false)
  | 32 => ("VoiceFormModel", "waits", "I", false)
  | 33 => ("VoiceFormModel", "silent", "I", false)
  | 34 => ("VoiceFormModel", "fell", "I", false)
  | 35 => ("VoiceFormModel", "pile", "[I", true)
  | 36 => ("VoiceFormModel", "waitField", "I", false)
  | 37 => ("VoiceFormModel", "waitValue", "I", false)
  | 38 => ("VoiceFormModel", "waitSort", "[I", true)
  | 39 => ("VoiceFormModel", "waitMeans", "[I", true)
  | _ => ("VoiceFormModel", "latest", "[I", true)
def tyX10 : Nat → FieldType := fun k => match k with
  | 0 => .int
  | 1 => .array .int
  | 2 => .array .int
  | 3 => .array .int
  | 4 => .array .boolean
  | 5 => .array .boolean
  | 6 => .array .int
  | 7 => .array .int
  | 8 => .array .int
  | 9 => .array .int
  | 10 => .array .boolean
  | 11 => .array .boolean
  | 12 => .int
  | 13 => .int
  | 14 => .int
  | 15 => .array .int
  | 16 => .int
  | 17 => .array .int
  | 18 => .array .int
  | 19 => .array .int
  | 20 => .array .int
  | 21 => .array .int
  | 22 => .array .int
  | 23 => .array .int
  | 24 => .int
  | 25 => .array .int
  | 26 => .boolean
  | 27 => .boolean
  | 28 => .boolean
  | 29 => .int
  | 30 => .int
  | 31 => .int
  | 32 => .int
  | 33 => .int
  | 34 => .int
  | 35 => .array .int
  | 36 => .int
  | 37 => .int
  | 38 => .array .int
  | 39 => .array .int
  | _ => .array .int
abbrev wsX100 : List Cond := u_ws RX10 TX10 41
theorem nmX10 : ∀ a, a < 41 → ∀ b, b < 41 → a ≠ b → (TX10 a).2.1 ≠ (TX10 b).2.1 := by decide +kernel
theorem tyX10_ok : ∀ k, k < 41 → parseFieldDescriptor (TX10 k).2.2.1 = some (tyX10 k) := by decide +kernel
abbrev cX10_init : ByteArray := prog_12_method_1_code
def yX10_init : MethodName := ⟨RX10, "<init>", "()V"⟩
abbrev cX10_isIn : ByteArray := prog_12_method_2_code
def yX10_isIn : MethodName := ⟨RX10, "isIn", "(III)Z"⟩
abbrev cX10_isField : ByteArray := prog_12_method_3_code
def yX10_isField : MethodName := ⟨RX10, "isField", "(I)Z"⟩
abbrev cX10_isNew : ByteArray := prog_12_method_4_code
def yX10_isNew : MethodName := ⟨RX10, "isNew", "(I)Z"⟩
abbrev cX10_comes : ByteArray := prog_12_method_5_code
def yX10_comes : MethodName := ⟨RX10, "comes", "(IZ)I"⟩
abbrev cX10_digits : ByteArray := prog_12_method_6_code
def yX10_digits : MethodName := ⟨RX10, "digits", "(IIZZ)I"⟩
abbrev cX10_choice : ByteArray := prog_12_method_7_code
def yX10_choice : MethodName := ⟨RX10, "choice", "(IZIIIIII)I"⟩
abbrev cX10_needs : ByteArray := prog_12_method_8_code
def yX10_needs : MethodName := ⟨RX10, "needs", "(III)Z"⟩
abbrev cX10_costs : ByteArray := prog_12_method_9_code
def yX10_costs : MethodName := ⟨RX10, "costs", "(III)Z"⟩
abbrev cX10_isAsked : ByteArray := prog_12_method_10_code
def yX10_isAsked : MethodName := ⟨RX10, "isAsked", "(I)Z"⟩
abbrev cX10_place : ByteArray := prog_12_method_11_code
def yX10_place : MethodName := ⟨RX10, "place", "()I"⟩
abbrev cX10_word : ByteArray := prog_12_method_12_code
def yX10_word : MethodName := ⟨RX10, "word", "(II)I"⟩
abbrev cX10_isAhead : ByteArray := prog_12_method_13_code
def yX10_isAhead : MethodName := ⟨RX10, "isAhead", "(IIIIII)Z"⟩
abbrev cX10_set : ByteArray := prog_12_method_14_code
def yX10_set : MethodName := ⟨RX10, "set", "(IIII)V"⟩
abbrev cX10_found : ByteArray := prog_12_method_15_code
def yX10_found : MethodName := ⟨RX10, "found", "(III)V"⟩
abbrev cX10_holds : ByteArray := prog_12_method_16_code
def yX10_holds : MethodName := ⟨RX10, "holds", "(II)Z"⟩
abbrev cX10_answer : ByteArray := prog_12_method_17_code
def yX10_answer : MethodName := ⟨RX10, "answer", "(II)I"⟩
abbrev cX10_fieldNamed : ByteArray := prog_12_method_18_code
def yX10_fieldNamed : MethodName := ⟨RX10, "fieldNamed", "(I)I"⟩
abbrev cX10_read : ByteArray := prog_12_method_19_code
def yX10_read : MethodName := ⟨RX10, "read", "(I)V"⟩
abbrev cX10_readAll : ByteArray := prog_12_method_20_code
def yX10_readAll : MethodName := ⟨RX10, "readAll", "()V"⟩
abbrev cX10_comesNow : ByteArray := prog_12_method_21_code
def yX10_comesNow : MethodName := ⟨RX10, "comesNow", "(I)V"⟩
abbrev cX10_isOpen : ByteArray := prog_12_method_22_code
def yX10_isOpen : MethodName := ⟨RX10, "isOpen", "(I)Z"⟩
abbrev cX10_nextBehind : ByteArray := prog_12_method_23_code
def yX10_nextBehind : MethodName := ⟨RX10, "nextBehind", "(I)I"⟩
abbrev cX10_keep : ByteArray := prog_12_method_24_code
def yX10_keep : MethodName := ⟨RX10, "keep", "(IIZ)I"⟩
abbrev cX10_answered : ByteArray := prog_12_method_25_code
def yX10_answered : MethodName := ⟨RX10, "answered", "(II)I"⟩
abbrev cX10_goBack : ByteArray := prog_12_method_26_code
def yX10_goBack : MethodName := ⟨RX10, "goBack", "()I"⟩
abbrev cX10_skip : ByteArray := prog_12_method_27_code
def yX10_skip : MethodName := ⟨RX10, "skip", "()I"⟩
abbrev cX10_go : ByteArray := prog_12_method_28_code
def yX10_go : MethodName := ⟨RX10, "go", "(I)I"⟩
abbrev cX10_take : ByteArray := prog_12_method_29_code
def yX10_take : MethodName := ⟨RX10, "take", "(II)I"⟩
abbrev cX10_act : ByteArray := prog_12_method_30_code
def yX10_act : MethodName := ⟨RX10, "act", "()I"⟩
abbrev cX10_unlike : ByteArray := prog_12_method_31_code
def yX10_unlike : MethodName := ⟨RX10, "unlike", "()I"⟩
abbrev cX10_say : ByteArray := prog_12_method_32_code
def yX10_say : MethodName := ⟨RX10, "say", "()I"⟩
abbrev cX10_goOn : ByteArray := prog_12_method_33_code
def yX10_goOn : MethodName := ⟨RX10, "goOn", "()Z"⟩
abbrev cX10_told : ByteArray := prog_12_method_34_code
def yX10_told : MethodName := ⟨RX10, "told", "(I)I"⟩
abbrev cX10_about : ByteArray := prog_12_method_35_code
def yX10_about : MethodName := ⟨RX10, "about", "(I)I"⟩
abbrev cX10_field : ByteArray := prog_12_method_36_code
def yX10_field : MethodName := ⟨RX10, "field", "(II)I"⟩
abbrev cX10_hearBack : ByteArray := prog_12_method_37_code
def yX10_hearBack : MethodName := ⟨RX10, "hearBack", "()I"⟩
abbrev cX10_send : ByteArray := prog_12_method_38_code
def yX10_send : MethodName := ⟨RX10, "send", "()Z"⟩
def RJ9 : String := "java/lang/Math"
def TJ9 : u_T := fun k => match k with
  | _ => ("", "", "", false)
def tyJ9 : Nat → FieldType := fun k => match k with
  | _ => .int
abbrev wsJ90 : List Cond := u_ws RJ9 TJ9 0
theorem nmJ9 : ∀ a, a < 0 → ∀ b, b < 0 → a ≠ b → (TJ9 a).2.1 ≠ (TJ9 b).2.1 := by decide +kernel
theorem tyJ9_ok : ∀ k, k < 0 → parseFieldDescriptor (TJ9 k).2.2.1 = some (tyJ9 k) := by decide +kernel
abbrev cJ9_max_7cf53 : ByteArray := prog_13_method_65_code
def yJ9_max_7cf53 : MethodName := ⟨RJ9, "max", "(II)I"⟩
abbrev cJ9_min_7cf53 : ByteArray := prog_13_method_69_code
def yJ9_min_7cf53 : MethodName := ⟨RJ9, "min", "(II)I"⟩
def RJ7 : String := "java/util/Arrays"
def TJ7 : u_T := fun k => match k with
  | _ => ("", "", "", false)
def tyJ7 : Nat → FieldType := fun k => match k with
  | _ => .int
abbrev wsJ70 : List Cond := u_ws RJ7 TJ7 0
theorem nmJ7 : ∀ a, a < 0 → ∀ b, b < 0 → a ≠ b → (TJ7 a).2.1 ≠ (TJ7 b).2.1 := by decide +kernel
theorem tyJ7_ok : ∀ k, k < 0 → parseFieldDescriptor (TJ7 k).2.2.1 = some (tyJ7 k) := by decide +kernel
abbrev cJ7_fill_53178 : ByteArray := prog_14_method_103_code
def yJ7_fill_53178 : MethodName := ⟨RJ7, "fill", "([II)V"⟩
def RL : String := "VoiceFormLaw"
abbrev cL_law : ByteArray := code
def yL_law : MethodName := ⟨RL, "law", "([I)Z"⟩
abbrev vwCl : List vw_C := [(RX0, TX0, 3), (RX1, TX1, 2), (RX2, TX2, 4), (RX3, TX3, 2), (RX4, TX4, 7), (RX5, TX5, 13), (RX6, TX6, 13), (RX7, TX7, 2), (RX9, TX9, 8), (RX10, TX10, 41)]
/-! ===== END printed: names ===== -/
end
section
/-! printed: decode rows -/
theorem dX0_init_0 : decode cX0_init 0 = .ok (.aload_n 0, 1) := by decide +kernel
theorem dX0_init_1 : decode cX0_init 1 = .ok (.invokespecial 3, 3) := by decide +kernel
theorem dX0_init_4 : decode cX0_init 4 = .ok (.aload_n 0, 1) := by decide +kernel
theorem dX0_init_5 : decode cX0_init 5 = .ok (.new 9, 3) := by decide +kernel
theorem dX0_init_8 : decode cX0_init 8 = .ok (.dup, 1) := by decide +kernel
theorem dX0_init_9 : decode cX0_init 9 = .ok (.sipush 180, 3) := by decide +kernel
theorem dX0_init_12 : decode cX0_init 12 = .ok (.invokespecial 13, 3) := by decide +kernel
theorem dX0_init_15 : decode cX0_init 15 = .ok (.putfield 16, 3) := by decide +kernel
theorem dX0_init_18 : decode cX0_init 18 = .ok (.return_, 1) := by decide +kernel
theorem dX0_clear_0 : decode cX0_clear 0 = .ok (.aload_n 0, 1) := by decide +kernel
theorem dX0_clear_1 : decode cX0_clear 1 = .ok (.getfield 16, 3) := by decide +kernel
theorem dX0_clear_4 : decode cX0_clear 4 = .ok (.invokevirtual 20, 3) := by decide +kernel
theorem dX0_clear_7 : decode cX0_clear 7 = .ok (.aload_n 0, 1) := by decide +kernel
theorem dX0_clear_8 : decode cX0_clear 8 = .ok (.iload_n 1, 1) := by decide +kernel
theorem dX0_clear_9 : decode cX0_clear 9 = .ok (.putfield 23, 3) := by decide +kernel
theorem dX0_clear_12 : decode cX0_clear 12 = .ok (.aload_n 0, 1) := by decide +kernel
theorem dX0_clear_13 : decode cX0_clear 13 = .ok (.iload_n 2, 1) := by decide +kernel
theorem dX0_clear_14 : decode cX0_clear 14 = .ok (.putfield 27, 3) := by decide +kernel
theorem dX0_clear_17 : decode cX0_clear 17 = .ok (.return_, 1) := by decide +kernel
theorem dX0_begin_0 : decode cX0_begin 0 = .ok (.aload_n 0, 1) := by decide +kernel
theorem dX0_begin_1 : decode cX0_begin 1 = .ok (.getfield 16, 3) := by decide +kernel
theorem dX0_begin_4 : decode cX0_begin 4 = .ok (.iconst 0, 1) := by decide +kernel
theorem dX0_begin_5 : decode cX0_begin 5 = .ok (.iload_n 1, 1) := by decide +kernel
theorem dX0_begin_6 : decode cX0_begin 6 = .ok (.iconst 0, 1) := by decide +kernel
theorem dX0_begin_7 : decode cX0_begin 7 = .ok (.invokevirtual 31, 3) := by decide +kernel
theorem dX0_begin_10 : decode cX0_begin 10 = .ok (.return_, 1) := by decide +kernel
theorem dX0_hearPlace_0 : decode cX0_hearPlace 0 = .ok (.iconst 2, 1) := by decide +kernel
theorem dX0_hearPlace_1 : decode cX0_hearPlace 1 = .ok (.aload_n 0, 1) := by decide +kernel
theorem dX0_hearPlace_2 : decode cX0_hearPlace 2 = .ok (.getfield 23, 3) := by decide +kernel
theorem dX0_hearPlace_5 : decode cX0_hearPlace 5 = .ok (.imul, 1) := by decide +kernel
theorem dX0_hearPlace_6 : decode cX0_hearPlace 6 = .ok (.iconst 1, 1) := by decide +kernel
theorem dX0_hearPlace_7 : decode cX0_hearPlace 7 = .ok (.isub, 1) := by decide +kernel
theorem dX0_hearPlace_8 : decode cX0_hearPlace 8 = .ok (.istore 4, 2) := by decide +kernel
theorem dX0_hearPlace_10 : decode cX0_hearPlace 10 = .ok (.iload 4, 2) := by decide +kernel
theorem dX0_hearPlace_12 : decode cX0_hearPlace 12 = .ok (.ifCond .lt 72, 3) := by decide +kernel
theorem dX0_hearPlace_15 : decode cX0_hearPlace 15 = .ok (.iconst 0, 1) := by decide +kernel
theorem dX0_hearPlace_16 : decode cX0_hearPlace 16 = .ok (.istore 5, 2) := by decide +kernel
theorem dX0_hearPlace_18 : decode cX0_hearPlace 18 = .ok (.iload 5, 2) := by decide +kernel
theorem dX0_hearPlace_20 : decode cX0_hearPlace 20 = .ok (.aload_n 1, 1) := by decide +kernel
theorem dX0_hearPlace_21 : decode cX0_hearPlace 21 = .ok (.iload_n 2, 1) := by decide +kernel
theorem dX0_hearPlace_22 : decode cX0_hearPlace 22 = .ok (.invokevirtual 35, 3) := by decide +kernel
theorem dX0_hearPlace_25 : decode cX0_hearPlace 25 = .ok (.if_icmp .ge 53, 3) := by decide +kernel
theorem dX0_hearPlace_28 : decode cX0_hearPlace 28 = .ok (.aload_n 1, 1) := by decide +kernel
theorem dX0_hearPlace_29 : decode cX0_hearPlace 29 = .ok (.iload_n 2, 1) := by decide +kernel
theorem dX0_hearPlace_30 : decode cX0_hearPlace 30 = .ok (.iload 5, 2) := by decide +kernel
theorem dX0_hearPlace_32 : decode cX0_hearPlace 32 = .ok (.invokevirtual 41, 3) := by decide +kernel
theorem dX0_hearPlace_35 : decode cX0_hearPlace 35 = .ok (.istore 6, 2) := by decide +kernel
theorem dX0_hearPlace_37 : decode cX0_hearPlace 37 = .ok (.aload_n 0, 1) := by decide +kernel
theorem dX0_hearPlace_38 : decode cX0_hearPlace 38 = .ok (.iload 4, 2) := by decide +kernel
theorem dX0_hearPlace_40 : decode cX0_hearPlace 40 = .ok (.iload 6, 2) := by decide +kernel
theorem dX0_hearPlace_42 : decode cX0_hearPlace 42 = .ok (.invokevirtual 45, 3) := by decide +kernel
theorem dX0_hearPlace_45 : decode cX0_hearPlace 45 = .ok (.istore 7, 2) := by decide +kernel
theorem dX0_hearPlace_47 : decode cX0_hearPlace 47 = .ok (.iload 7, 2) := by decide +kernel
theorem dX0_hearPlace_49 : decode cX0_hearPlace 49 = .ok (.iconst (-1), 1) := by decide +kernel
theorem dX0_hearPlace_50 : decode cX0_hearPlace 50 = .ok (.if_icmp .eq 22, 3) := by decide +kernel
theorem dX0_hearPlace_53 : decode cX0_hearPlace 53 = .ok (.aload_n 0, 1) := by decide +kernel
theorem dX0_hearPlace_54 : decode cX0_hearPlace 54 = .ok (.iload 4, 2) := by decide +kernel
theorem dX0_hearPlace_56 : decode cX0_hearPlace 56 = .ok (.iload 7, 2) := by decide +kernel
theorem dX0_hearPlace_58 : decode cX0_hearPlace 58 = .ok (.iload 6, 2) := by decide +kernel
theorem dX0_hearPlace_60 : decode cX0_hearPlace 60 = .ok (.aload_n 1, 1) := by decide +kernel
theorem dX0_hearPlace_61 : decode cX0_hearPlace 61 = .ok (.iload_n 2, 1) := by decide +kernel
theorem dX0_hearPlace_62 : decode cX0_hearPlace 62 = .ok (.iload 5, 2) := by decide +kernel
theorem dX0_hearPlace_64 : decode cX0_hearPlace 64 = .ok (.invokevirtual 48, 3) := by decide +kernel
theorem dX0_hearPlace_67 : decode cX0_hearPlace 67 = .ok (.iload_n 3, 1) := by decide +kernel
theorem dX0_hearPlace_68 : decode cX0_hearPlace 68 = .ok (.isub, 1) := by decide +kernel
theorem dX0_hearPlace_69 : decode cX0_hearPlace 69 = .ok (.invokevirtual 51, 3) := by decide +kernel
theorem dX0_hearPlace_72 : decode cX0_hearPlace 72 = .ok (.iinc 5 1, 3) := by decide +kernel
theorem dX0_hearPlace_75 : decode cX0_hearPlace 75 = .ok (.goto (-57), 3) := by decide +kernel
theorem dX0_hearPlace_78 : decode cX0_hearPlace 78 = .ok (.iinc 4 (-1), 3) := by decide +kernel
theorem dX0_hearPlace_81 : decode cX0_hearPlace 81 = .ok (.goto (-71), 3) := by decide +kernel
theorem dX0_hearPlace_84 : decode cX0_hearPlace 84 = .ok (.return_, 1) := by decide +kernel
theorem dX0_cost_0 : decode cX0_cost 0 = .ok (.aload_n 0, 1) := by decide +kernel
theorem dX0_cost_1 : decode cX0_cost 1 = .ok (.getfield 16, 3) := by decide +kernel
theorem dX0_cost_4 : decode cX0_cost 4 = .ok (.iconst 2, 1) := by decide +kernel
theorem dX0_cost_5 : decode cX0_cost 5 = .ok (.aload_n 0, 1) := by decide +kernel
theorem dX0_cost_6 : decode cX0_cost 6 = .ok (.getfield 23, 3) := by decide +kernel
theorem dX0_cost_9 : decode cX0_cost 9 = .ok (.imul, 1) := by decide +kernel
theorem dX0_cost_10 : decode cX0_cost 10 = .ok (.bipush 10, 2) := by decide +kernel
theorem dX0_cost_12 : decode cX0_cost 12 = .ok (.imul, 1) := by decide +kernel
theorem dX0_cost_13 : decode cX0_cost 13 = .ok (.iload_n 1, 1) := by decide +kernel
theorem dX0_cost_14 : decode cX0_cost 14 = .ok (.invokevirtual 55, 3) := by decide +kernel
theorem dX0_cost_17 : decode cX0_cost 17 = .ok (.ireturn, 1) := by decide +kernel
theorem dX0_value_0 : decode cX0_value 0 = .ok (.aload_n 0, 1) := by decide +kernel
theorem dX0_value_1 : decode cX0_value 1 = .ok (.getfield 16, 3) := by decide +kernel
theorem dX0_value_4 : decode cX0_value 4 = .ok (.iconst 2, 1) := by decide +kernel
theorem dX0_value_5 : decode cX0_value 5 = .ok (.aload_n 0, 1) := by decide +kernel
theorem dX0_value_6 : decode cX0_value 6 = .ok (.getfield 23, 3) := by decide +kernel
theorem dX0_value_9 : decode cX0_value 9 = .ok (.imul, 1) := by decide +kernel
theorem dX0_value_10 : decode cX0_value 10 = .ok (.bipush 10, 2) := by decide +kernel
theorem dX0_value_12 : decode cX0_value 12 = .ok (.imul, 1) := by decide +kernel
theorem dX0_value_13 : decode cX0_value 13 = .ok (.iload_n 1, 1) := by decide +kernel
theorem dX0_value_14 : decode cX0_value 14 = .ok (.invokevirtual 58, 3) := by decide +kernel
theorem dX0_value_17 : decode cX0_value 17 = .ok (.ireturn, 1) := by decide +kernel
theorem dX0_standBehind_0 : decode cX0_standBehind 0 = .ok (.iload_n 1, 1) := by decide +kernel
theorem dX0_standBehind_1 : decode cX0_standBehind 1 = .ok (.iconst 2, 1) := by decide +kernel
theorem dX0_standBehind_2 : decode cX0_standBehind 2 = .ok (.irem, 1) := by decide +kernel
theorem dX0_standBehind_3 : decode cX0_standBehind 3 = .ok (.iconst 1, 1) := by decide +kernel
theorem dX0_standBehind_4 : decode cX0_standBehind 4 = .ok (.if_icmp .ne 7, 3) := by decide +kernel
theorem dX0_standBehind_7 : decode cX0_standBehind 7 = .ok (.iconst 1, 1) := by decide +kernel
theorem dX0_standBehind_8 : decode cX0_standBehind 8 = .ok (.goto 4, 3) := by decide +kernel
theorem dX0_standBehind_11 : decode cX0_standBehind 11 = .ok (.iconst 0, 1) := by decide +kernel
theorem dX0_standBehind_12 : decode cX0_standBehind 12 = .ok (.istore_n 3, 1) := by decide +kernel
theorem dX0_standBehind_13 : decode cX0_standBehind 13 = .ok (.iload_n 2, 1) := by decide +kernel
theorem dX0_standBehind_14 : decode cX0_standBehind 14 = .ok (.bipush 10, 2) := by decide +kernel
theorem dX0_standBehind_16 : decode cX0_standBehind 16 = .ok (.if_icmp .ne 23, 3) := by decide +kernel
theorem dX0_standBehind_19 : decode cX0_standBehind 19 = .ok (.iload_n 3, 1) := by decide +kernel
theorem dX0_standBehind_20 : decode cX0_standBehind 20 = .ok (.ifCond .ne 19, 3) := by decide +kernel
theorem dX0_standBehind_23 : decode cX0_standBehind 23 = .ok (.iload_n 1, 1) := by decide +kernel
theorem dX0_standBehind_24 : decode cX0_standBehind 24 = .ok (.iconst 4, 1) := by decide +kernel
theorem dX0_standBehind_25 : decode cX0_standBehind 25 = .ok (.iadd, 1) := by decide +kernel
theorem dX0_standBehind_26 : decode cX0_standBehind 26 = .ok (.iconst 2, 1) := by decide +kernel
theorem dX0_standBehind_27 : decode cX0_standBehind 27 = .ok (.aload_n 0, 1) := by decide +kernel
theorem dX0_standBehind_28 : decode cX0_standBehind 28 = .ok (.getfield 23, 3) := by decide +kernel
theorem dX0_standBehind_31 : decode cX0_standBehind 31 = .ok (.imul, 1) := by decide +kernel
theorem dX0_standBehind_32 : decode cX0_standBehind 32 = .ok (.if_icmp .gt 7, 3) := by decide +kernel
theorem dX0_standBehind_35 : decode cX0_standBehind 35 = .ok (.iload_n 1, 1) := by decide +kernel
theorem dX0_standBehind_36 : decode cX0_standBehind 36 = .ok (.iconst 1, 1) := by decide +kernel
theorem dX0_standBehind_37 : decode cX0_standBehind 37 = .ok (.iadd, 1) := by decide +kernel
theorem dX0_standBehind_38 : decode cX0_standBehind 38 = .ok (.ireturn, 1) := by decide +kernel
theorem dX0_standBehind_39 : decode cX0_standBehind 39 = .ok (.iload_n 3, 1) := by decide +kernel
theorem dX0_standBehind_40 : decode cX0_standBehind 40 = .ok (.ifCond .eq 9, 3) := by decide +kernel
theorem dX0_standBehind_43 : decode cX0_standBehind 43 = .ok (.iload_n 1, 1) := by decide +kernel
theorem dX0_standBehind_44 : decode cX0_standBehind 44 = .ok (.iconst 3, 1) := by decide +kernel
theorem dX0_standBehind_45 : decode cX0_standBehind 45 = .ok (.iadd, 1) := by decide +kernel
theorem dX0_standBehind_46 : decode cX0_standBehind 46 = .ok (.goto 6, 3) := by decide +kernel
theorem dX0_standBehind_49 : decode cX0_standBehind 49 = .ok (.iload_n 1, 1) := by decide +kernel
theorem dX0_standBehind_50 : decode cX0_standBehind 50 = .ok (.iconst 2, 1) := by decide +kernel
theorem dX0_standBehind_51 : decode cX0_standBehind 51 = .ok (.iadd, 1) := by decide +kernel
theorem dX0_standBehind_52 : decode cX0_standBehind 52 = .ok (.istore 4, 2) := by decide +kernel
theorem dX0_standBehind_54 : decode cX0_standBehind 54 = .ok (.iload_n 2, 1) := by decide +kernel
theorem dX0_standBehind_55 : decode cX0_standBehind 55 = .ok (.bipush 9, 2) := by decide +kernel
theorem dX0_standBehind_57 : decode cX0_standBehind 57 = .ok (.invokestatic 61, 3) := by decide +kernel
theorem dX0_standBehind_60 : decode cX0_standBehind 60 = .ok (.ifCond .eq 19, 3) := by decide +kernel
theorem dX0_standBehind_63 : decode cX0_standBehind 63 = .ok (.iload 4, 2) := by decide +kernel
theorem dX0_standBehind_65 : decode cX0_standBehind 65 = .ok (.iconst 2, 1) := by decide +kernel
theorem dX0_standBehind_66 : decode cX0_standBehind 66 = .ok (.aload_n 0, 1) := by decide +kernel
theorem dX0_standBehind_67 : decode cX0_standBehind 67 = .ok (.getfield 23, 3) := by decide +kernel
theorem dX0_standBehind_70 : decode cX0_standBehind 70 = .ok (.imul, 1) := by decide +kernel
theorem dX0_standBehind_71 : decode cX0_standBehind 71 = .ok (.if_icmp .gt 8, 3) := by decide +kernel
theorem dX0_standBehind_74 : decode cX0_standBehind 74 = .ok (.iload 4, 2) := by decide +kernel
theorem dX0_standBehind_76 : decode cX0_standBehind 76 = .ok (.goto 4, 3) := by decide +kernel
theorem dX0_standBehind_79 : decode cX0_standBehind 79 = .ok (.iconst (-1), 1) := by decide +kernel
theorem dX0_standBehind_80 : decode cX0_standBehind 80 = .ok (.ireturn, 1) := by decide +kernel
theorem dX0_grow_0 : decode cX0_grow 0 = .ok (.iconst 0, 1) := by decide +kernel
theorem dX0_grow_1 : decode cX0_grow 1 = .ok (.istore 5, 2) := by decide +kernel
theorem dX0_grow_3 : decode cX0_grow 3 = .ok (.iconst 1, 1) := by decide +kernel
theorem dX0_grow_4 : decode cX0_grow 4 = .ok (.istore 6, 2) := by decide +kernel
theorem dX0_grow_6 : decode cX0_grow 6 = .ok (.iconst 0, 1) := by decide +kernel
theorem dX0_grow_7 : decode cX0_grow 7 = .ok (.istore 7, 2) := by decide +kernel
theorem dX0_grow_9 : decode cX0_grow 9 = .ok (.iload_n 1, 1) := by decide +kernel
theorem dX0_grow_10 : decode cX0_grow 10 = .ok (.iconst 2, 1) := by decide +kernel
theorem dX0_grow_11 : decode cX0_grow 11 = .ok (.idiv, 1) := by decide +kernel
theorem dX0_grow_12 : decode cX0_grow 12 = .ok (.istore 8, 2) := by decide +kernel
theorem dX0_grow_14 : decode cX0_grow 14 = .ok (.iload 8, 2) := by decide +kernel
theorem dX0_grow_16 : decode cX0_grow 16 = .ok (.iload_n 2, 1) := by decide +kernel
theorem dX0_grow_17 : decode cX0_grow 17 = .ok (.iconst 2, 1) := by decide +kernel
theorem dX0_grow_18 : decode cX0_grow 18 = .ok (.idiv, 1) := by decide +kernel
theorem dX0_grow_19 : decode cX0_grow 19 = .ok (.if_icmp .ge 37, 3) := by decide +kernel
theorem dX0_grow_22 : decode cX0_grow 22 = .ok (.iload 5, 2) := by decide +kernel
theorem dX0_grow_24 : decode cX0_grow 24 = .ok (.aload_n 0, 1) := by decide +kernel
theorem dX0_grow_25 : decode cX0_grow 25 = .ok (.iload 8, 2) := by decide +kernel
theorem dX0_grow_27 : decode cX0_grow 27 = .ok (.iload_n 3, 1) := by decide +kernel
theorem dX0_grow_28 : decode cX0_grow 28 = .ok (.invokevirtual 65, 3) := by decide +kernel
theorem dX0_grow_31 : decode cX0_grow 31 = .ok (.iadd, 1) := by decide +kernel
theorem dX0_grow_32 : decode cX0_grow 32 = .ok (.istore 5, 2) := by decide +kernel
theorem dX0_grow_34 : decode cX0_grow 34 = .ok (.iload 6, 2) := by decide +kernel
theorem dX0_grow_36 : decode cX0_grow 36 = .ok (.bipush 10, 2) := by decide +kernel
theorem dX0_grow_38 : decode cX0_grow 38 = .ok (.imul, 1) := by decide +kernel
theorem dX0_grow_39 : decode cX0_grow 39 = .ok (.istore 6, 2) := by decide +kernel
theorem dX0_grow_41 : decode cX0_grow 41 = .ok (.bipush 10, 2) := by decide +kernel
theorem dX0_grow_43 : decode cX0_grow 43 = .ok (.iload 7, 2) := by decide +kernel
theorem dX0_grow_45 : decode cX0_grow 45 = .ok (.imul, 1) := by decide +kernel
theorem dX0_grow_46 : decode cX0_grow 46 = .ok (.iload_n 3, 1) := by decide +kernel
theorem dX0_grow_47 : decode cX0_grow 47 = .ok (.iadd, 1) := by decide +kernel
theorem dX0_grow_48 : decode cX0_grow 48 = .ok (.istore 7, 2) := by decide +kernel
theorem dX0_grow_50 : decode cX0_grow 50 = .ok (.iinc 8 1, 3) := by decide +kernel
theorem dX0_grow_53 : decode cX0_grow 53 = .ok (.goto (-39), 3) := by decide +kernel
theorem dX0_grow_56 : decode cX0_grow 56 = .ok (.aload_n 0, 1) := by decide +kernel
theorem dX0_grow_57 : decode cX0_grow 57 = .ok (.getfield 27, 3) := by decide +kernel
theorem dX0_grow_60 : decode cX0_grow 60 = .ok (.ifCond .eq 8, 3) := by decide +kernel
theorem dX0_grow_63 : decode cX0_grow 63 = .ok (.bipush 10, 2) := by decide +kernel
theorem dX0_grow_65 : decode cX0_grow 65 = .ok (.goto 4, 3) := by decide +kernel
theorem dX0_grow_68 : decode cX0_grow 68 = .ok (.iconst 1, 1) := by decide +kernel
theorem dX0_grow_69 : decode cX0_grow 69 = .ok (.istore 8, 2) := by decide +kernel
theorem dX0_grow_71 : decode cX0_grow 71 = .ok (.iconst 0, 1) := by decide +kernel
theorem dX0_grow_72 : decode cX0_grow 72 = .ok (.istore 9, 2) := by decide +kernel
theorem dX0_grow_74 : decode cX0_grow 74 = .ok (.iload 9, 2) := by decide +kernel
theorem dX0_grow_76 : decode cX0_grow 76 = .ok (.iload 8, 2) := by decide +kernel
theorem dX0_grow_78 : decode cX0_grow 78 = .ok (.if_icmp .ge 100, 3) := by decide +kernel
theorem dX0_grow_81 : decode cX0_grow 81 = .ok (.iconst 0, 1) := by decide +kernel
theorem dX0_grow_82 : decode cX0_grow 82 = .ok (.istore 10, 2) := by decide +kernel
theorem dX0_grow_84 : decode cX0_grow 84 = .ok (.iload 10, 2) := by decide +kernel
theorem dX0_grow_86 : decode cX0_grow 86 = .ok (.iconst 2, 1) := by decide +kernel
theorem dX0_grow_87 : decode cX0_grow 87 = .ok (.if_icmp .ge 85, 3) := by decide +kernel
theorem dX0_grow_90 : decode cX0_grow 90 = .ok (.aload_n 0, 1) := by decide +kernel
theorem dX0_grow_91 : decode cX0_grow 91 = .ok (.getfield 16, 3) := by decide +kernel
theorem dX0_grow_94 : decode cX0_grow 94 = .ok (.iload_n 1, 1) := by decide +kernel
theorem dX0_grow_95 : decode cX0_grow 95 = .ok (.bipush 10, 2) := by decide +kernel
theorem dX0_grow_97 : decode cX0_grow 97 = .ok (.imul, 1) := by decide +kernel
theorem dX0_grow_98 : decode cX0_grow 98 = .ok (.iload 9, 2) := by decide +kernel
theorem dX0_grow_100 : decode cX0_grow 100 = .ok (.iadd, 1) := by decide +kernel
theorem dX0_grow_101 : decode cX0_grow 101 = .ok (.iload 10, 2) := by decide +kernel
theorem dX0_grow_103 : decode cX0_grow 103 = .ok (.invokevirtual 55, 3) := by decide +kernel
theorem dX0_grow_106 : decode cX0_grow 106 = .ok (.istore 11, 2) := by decide +kernel
theorem dX0_grow_108 : decode cX0_grow 108 = .ok (.iload 11, 2) := by decide +kernel
theorem dX0_grow_110 : decode cX0_grow 110 = .ok (.ldc 68, 2) := by decide +kernel
theorem dX0_grow_112 : decode cX0_grow 112 = .ok (.if_icmp .ge 54, 3) := by decide +kernel
theorem dX0_grow_115 : decode cX0_grow 115 = .ok (.aload_n 0, 1) := by decide +kernel
theorem dX0_grow_116 : decode cX0_grow 116 = .ok (.getfield 16, 3) := by decide +kernel
theorem dX0_grow_119 : decode cX0_grow 119 = .ok (.iload_n 1, 1) := by decide +kernel
theorem dX0_grow_120 : decode cX0_grow 120 = .ok (.bipush 10, 2) := by decide +kernel
theorem dX0_grow_122 : decode cX0_grow 122 = .ok (.imul, 1) := by decide +kernel
theorem dX0_grow_123 : decode cX0_grow 123 = .ok (.iload 9, 2) := by decide +kernel
theorem dX0_grow_125 : decode cX0_grow 125 = .ok (.iadd, 1) := by decide +kernel
theorem dX0_grow_126 : decode cX0_grow 126 = .ok (.iload 10, 2) := by decide +kernel
theorem dX0_grow_128 : decode cX0_grow 128 = .ok (.invokevirtual 58, 3) := by decide +kernel
theorem dX0_grow_131 : decode cX0_grow 131 = .ok (.iload 6, 2) := by decide +kernel
theorem dX0_grow_133 : decode cX0_grow 133 = .ok (.imul, 1) := by decide +kernel
theorem dX0_grow_134 : decode cX0_grow 134 = .ok (.iload 7, 2) := by decide +kernel
theorem dX0_grow_136 : decode cX0_grow 136 = .ok (.iadd, 1) := by decide +kernel
theorem dX0_grow_137 : decode cX0_grow 137 = .ok (.istore 12, 2) := by decide +kernel
theorem dX0_grow_139 : decode cX0_grow 139 = .ok (.aload_n 0, 1) := by decide +kernel
theorem dX0_grow_140 : decode cX0_grow 140 = .ok (.getfield 16, 3) := by decide +kernel
theorem dX0_grow_143 : decode cX0_grow 143 = .ok (.iload_n 2, 1) := by decide +kernel
theorem dX0_grow_144 : decode cX0_grow 144 = .ok (.bipush 10, 2) := by decide +kernel
theorem dX0_grow_146 : decode cX0_grow 146 = .ok (.imul, 1) := by decide +kernel
theorem dX0_grow_147 : decode cX0_grow 147 = .ok (.iload 9, 2) := by decide +kernel
theorem dX0_grow_149 : decode cX0_grow 149 = .ok (.iload 5, 2) := by decide +kernel
theorem dX0_grow_151 : decode cX0_grow 151 = .ok (.iadd, 1) := by decide +kernel
theorem dX0_grow_152 : decode cX0_grow 152 = .ok (.bipush 10, 2) := by decide +kernel
theorem dX0_grow_154 : decode cX0_grow 154 = .ok (.irem, 1) := by decide +kernel
theorem dX0_grow_155 : decode cX0_grow 155 = .ok (.iadd, 1) := by decide +kernel
theorem dX0_grow_156 : decode cX0_grow 156 = .ok (.iload 11, 2) := by decide +kernel
theorem dX0_grow_158 : decode cX0_grow 158 = .ok (.iload 4, 2) := by decide +kernel
theorem dX0_grow_160 : decode cX0_grow 160 = .ok (.iadd, 1) := by decide +kernel
theorem dX0_grow_161 : decode cX0_grow 161 = .ok (.iload 12, 2) := by decide +kernel
theorem dX0_grow_163 : decode cX0_grow 163 = .ok (.invokevirtual 31, 3) := by decide +kernel
theorem dX0_grow_166 : decode cX0_grow 166 = .ok (.iinc 10 1, 3) := by decide +kernel
theorem dX0_grow_169 : decode cX0_grow 169 = .ok (.goto (-85), 3) := by decide +kernel
theorem dX0_grow_172 : decode cX0_grow 172 = .ok (.iinc 9 1, 3) := by decide +kernel
theorem dX0_grow_175 : decode cX0_grow 175 = .ok (.goto (-101), 3) := by decide +kernel
theorem dX0_grow_178 : decode cX0_grow 178 = .ok (.return_, 1) := by decide +kernel
theorem dX0_weight_0 : decode cX0_weight 0 = .ok (.aload_n 0, 1) := by decide +kernel
theorem dX0_weight_1 : decode cX0_weight 1 = .ok (.getfield 27, 3) := by decide +kernel
theorem dX0_weight_4 : decode cX0_weight 4 = .ok (.ifCond .ne 5, 3) := by decide +kernel
theorem dX0_weight_7 : decode cX0_weight 7 = .ok (.iconst 0, 1) := by decide +kernel
theorem dX0_weight_8 : decode cX0_weight 8 = .ok (.ireturn, 1) := by decide +kernel
theorem dX0_weight_9 : decode cX0_weight 9 = .ok (.aload_n 0, 1) := by decide +kernel
theorem dX0_weight_10 : decode cX0_weight 10 = .ok (.getfield 23, 3) := by decide +kernel
theorem dX0_weight_13 : decode cX0_weight 13 = .ok (.iconst 1, 1) := by decide +kernel
theorem dX0_weight_14 : decode cX0_weight 14 = .ok (.isub, 1) := by decide +kernel
theorem dX0_weight_15 : decode cX0_weight 15 = .ok (.iload_n 1, 1) := by decide +kernel
theorem dX0_weight_16 : decode cX0_weight 16 = .ok (.isub, 1) := by decide +kernel
theorem dX0_weight_17 : decode cX0_weight 17 = .ok (.iconst 2, 1) := by decide +kernel
theorem dX0_weight_18 : decode cX0_weight 18 = .ok (.irem, 1) := by decide +kernel
theorem dX0_weight_19 : decode cX0_weight 19 = .ok (.ifCond .ne 5, 3) := by decide +kernel
theorem dX0_weight_22 : decode cX0_weight 22 = .ok (.iload_n 2, 1) := by decide +kernel
theorem dX0_weight_23 : decode cX0_weight 23 = .ok (.ireturn, 1) := by decide +kernel
theorem dX0_weight_24 : decode cX0_weight 24 = .ok (.iload_n 2, 1) := by decide +kernel
theorem dX0_weight_25 : decode cX0_weight 25 = .ok (.iconst 4, 1) := by decide +kernel
theorem dX0_weight_26 : decode cX0_weight 26 = .ok (.if_icmp .le 12, 3) := by decide +kernel
theorem dX0_weight_29 : decode cX0_weight 29 = .ok (.iconst 2, 1) := by decide +kernel
theorem dX0_weight_30 : decode cX0_weight 30 = .ok (.iload_n 2, 1) := by decide +kernel
theorem dX0_weight_31 : decode cX0_weight 31 = .ok (.imul, 1) := by decide +kernel
theorem dX0_weight_32 : decode cX0_weight 32 = .ok (.bipush 9, 2) := by decide +kernel
theorem dX0_weight_34 : decode cX0_weight 34 = .ok (.isub, 1) := by decide +kernel
theorem dX0_weight_35 : decode cX0_weight 35 = .ok (.goto 6, 3) := by decide +kernel
theorem dX0_weight_38 : decode cX0_weight 38 = .ok (.iconst 2, 1) := by decide +kernel
theorem dX0_weight_39 : decode cX0_weight 39 = .ok (.iload_n 2, 1) := by decide +kernel
theorem dX0_weight_40 : decode cX0_weight 40 = .ok (.imul, 1) := by decide +kernel
theorem dX0_weight_41 : decode cX0_weight 41 = .ok (.ireturn, 1) := by decide +kernel
theorem dX1_init_0 : decode cX1_init 0 = .ok (.aload_n 0, 1) := by decide +kernel
theorem dX1_init_1 : decode cX1_init 1 = .ok (.invokespecial 3, 3) := by decide +kernel
theorem dX1_init_4 : decode cX1_init 4 = .ok (.aload_n 0, 1) := by decide +kernel
theorem dX1_init_5 : decode cX1_init 5 = .ok (.bipush 12, 2) := by decide +kernel
theorem dX1_init_7 : decode cX1_init 7 = .ok (.anewarray 9, 3) := by decide +kernel
theorem dX1_init_10 : decode cX1_init 10 = .ok (.putfield 11, 3) := by decide +kernel
theorem dX1_init_13 : decode cX1_init 13 = .ok (.iconst 0, 1) := by decide +kernel
theorem dX1_init_14 : decode cX1_init 14 = .ok (.istore_n 1, 1) := by decide +kernel
theorem dX1_init_15 : decode cX1_init 15 = .ok (.iload_n 1, 1) := by decide +kernel
theorem dX1_init_16 : decode cX1_init 16 = .ok (.bipush 12, 2) := by decide +kernel
theorem dX1_init_18 : decode cX1_init 18 = .ok (.if_icmp .ge 22, 3) := by decide +kernel
theorem dX1_init_21 : decode cX1_init 21 = .ok (.aload_n 0, 1) := by decide +kernel
theorem dX1_init_22 : decode cX1_init 22 = .ok (.getfield 11, 3) := by decide +kernel
theorem dX1_init_25 : decode cX1_init 25 = .ok (.iload_n 1, 1) := by decide +kernel
theorem dX1_init_26 : decode cX1_init 26 = .ok (.new 9, 3) := by decide +kernel
theorem dX1_init_29 : decode cX1_init 29 = .ok (.dup, 1) := by decide +kernel
theorem dX1_init_30 : decode cX1_init 30 = .ok (.invokespecial 17, 3) := by decide +kernel
theorem dX1_init_33 : decode cX1_init 33 = .ok (.aastore, 1) := by decide +kernel
theorem dX1_init_34 : decode cX1_init 34 = .ok (.iinc 1 1, 3) := by decide +kernel
theorem dX1_init_37 : decode cX1_init 37 = .ok (.goto (-22), 3) := by decide +kernel
theorem dX1_init_40 : decode cX1_init 40 = .ok (.return_, 1) := by decide +kernel
theorem dX1_slotAt_0 : decode cX1_slotAt 0 = .ok (.iload_n 1, 1) := by decide +kernel
theorem dX1_slotAt_1 : decode cX1_slotAt 1 = .ok (.ifCond .lt 29, 3) := by decide +kernel
theorem dX1_slotAt_4 : decode cX1_slotAt 4 = .ok (.iload_n 1, 1) := by decide +kernel
theorem dX1_slotAt_5 : decode cX1_slotAt 5 = .ok (.aload_n 0, 1) := by decide +kernel
theorem dX1_slotAt_6 : decode cX1_slotAt 6 = .ok (.getfield 18, 3) := by decide +kernel
theorem dX1_slotAt_9 : decode cX1_slotAt 9 = .ok (.if_icmp .ge 21, 3) := by decide +kernel
theorem dX1_slotAt_12 : decode cX1_slotAt 12 = .ok (.iload_n 1, 1) := by decide +kernel
theorem dX1_slotAt_13 : decode cX1_slotAt 13 = .ok (.aload_n 0, 1) := by decide +kernel
theorem dX1_slotAt_14 : decode cX1_slotAt 14 = .ok (.getfield 11, 3) := by decide +kernel
theorem dX1_slotAt_17 : decode cX1_slotAt 17 = .ok (.arraylength, 1) := by decide +kernel
theorem dX1_slotAt_18 : decode cX1_slotAt 18 = .ok (.if_icmp .ge 12, 3) := by decide +kernel
theorem dX1_slotAt_21 : decode cX1_slotAt 21 = .ok (.aload_n 0, 1) := by decide +kernel
theorem dX1_slotAt_22 : decode cX1_slotAt 22 = .ok (.getfield 11, 3) := by decide +kernel
theorem dX1_slotAt_25 : decode cX1_slotAt 25 = .ok (.iload_n 1, 1) := by decide +kernel
theorem dX1_slotAt_26 : decode cX1_slotAt 26 = .ok (.aaload, 1) := by decide +kernel
theorem dX1_slotAt_27 : decode cX1_slotAt 27 = .ok (.goto 4, 3) := by decide +kernel
theorem dX1_slotAt_30 : decode cX1_slotAt 30 = .ok (.aconst_null, 1) := by decide +kernel
theorem dX1_slotAt_31 : decode cX1_slotAt 31 = .ok (.areturn, 1) := by decide +kernel
theorem dX1_numberOf_0 : decode cX1_numberOf 0 = .ok (.iconst 0, 1) := by decide +kernel
theorem dX1_numberOf_1 : decode cX1_numberOf 1 = .ok (.istore_n 2, 1) := by decide +kernel
theorem dX1_numberOf_2 : decode cX1_numberOf 2 = .ok (.iload_n 2, 1) := by decide +kernel
theorem dX1_numberOf_3 : decode cX1_numberOf 3 = .ok (.aload_n 0, 1) := by decide +kernel
theorem dX1_numberOf_4 : decode cX1_numberOf 4 = .ok (.getfield 18, 3) := by decide +kernel
theorem dX1_numberOf_7 : decode cX1_numberOf 7 = .ok (.if_icmp .ge 33, 3) := by decide +kernel
theorem dX1_numberOf_10 : decode cX1_numberOf 10 = .ok (.iload_n 2, 1) := by decide +kernel
theorem dX1_numberOf_11 : decode cX1_numberOf 11 = .ok (.aload_n 0, 1) := by decide +kernel
theorem dX1_numberOf_12 : decode cX1_numberOf 12 = .ok (.getfield 11, 3) := by decide +kernel
theorem dX1_numberOf_15 : decode cX1_numberOf 15 = .ok (.arraylength, 1) := by decide +kernel
theorem dX1_numberOf_16 : decode cX1_numberOf 16 = .ok (.if_icmp .ge 24, 3) := by decide +kernel
theorem dX1_numberOf_19 : decode cX1_numberOf 19 = .ok (.aload_n 0, 1) := by decide +kernel
theorem dX1_numberOf_20 : decode cX1_numberOf 20 = .ok (.getfield 11, 3) := by decide +kernel
theorem dX1_numberOf_23 : decode cX1_numberOf 23 = .ok (.iload_n 2, 1) := by decide +kernel
theorem dX1_numberOf_24 : decode cX1_numberOf 24 = .ok (.aaload, 1) := by decide +kernel
theorem dX1_numberOf_25 : decode cX1_numberOf 25 = .ok (.getfield 22, 3) := by decide +kernel
theorem dX1_numberOf_28 : decode cX1_numberOf 28 = .ok (.iload_n 1, 1) := by decide +kernel
theorem dX1_numberOf_29 : decode cX1_numberOf 29 = .ok (.if_icmp .ne 5, 3) := by decide +kernel
theorem dX1_numberOf_32 : decode cX1_numberOf 32 = .ok (.iload_n 2, 1) := by decide +kernel
theorem dX1_numberOf_33 : decode cX1_numberOf 33 = .ok (.ireturn, 1) := by decide +kernel
theorem dX1_numberOf_34 : decode cX1_numberOf 34 = .ok (.iinc 2 1, 3) := by decide +kernel
theorem dX1_numberOf_37 : decode cX1_numberOf 37 = .ok (.goto (-35), 3) := by decide +kernel
theorem dX1_numberOf_40 : decode cX1_numberOf 40 = .ok (.iconst (-1), 1) := by decide +kernel
theorem dX1_numberOf_41 : decode cX1_numberOf 41 = .ok (.ireturn, 1) := by decide +kernel
theorem dX1_canName_0 : decode cX1_canName 0 = .ok (.aload_n 0, 1) := by decide +kernel
theorem dX1_canName_1 : decode cX1_canName 1 = .ok (.getfield 18, 3) := by decide +kernel
theorem dX1_canName_4 : decode cX1_canName 4 = .ok (.aload_n 0, 1) := by decide +kernel
theorem dX1_canName_5 : decode cX1_canName 5 = .ok (.getfield 11, 3) := by decide +kernel
theorem dX1_canName_8 : decode cX1_canName 8 = .ok (.arraylength, 1) := by decide +kernel
theorem dX1_canName_9 : decode cX1_canName 9 = .ok (.if_icmp .ge 23, 3) := by decide +kernel
theorem dX1_canName_12 : decode cX1_canName 12 = .ok (.iload_n 1, 1) := by decide +kernel
theorem dX1_canName_13 : decode cX1_canName 13 = .ok (.invokestatic 25, 3) := by decide +kernel
theorem dX1_canName_16 : decode cX1_canName 16 = .ok (.ifCond .eq 16, 3) := by decide +kernel
theorem dX1_canName_19 : decode cX1_canName 19 = .ok (.aload_n 0, 1) := by decide +kernel
theorem dX1_canName_20 : decode cX1_canName 20 = .ok (.iload_n 1, 1) := by decide +kernel
theorem dX1_canName_21 : decode cX1_canName 21 = .ok (.invokevirtual 29, 3) := by decide +kernel
theorem dX1_canName_24 : decode cX1_canName 24 = .ok (.iconst (-1), 1) := by decide +kernel
theorem dX1_canName_25 : decode cX1_canName 25 = .ok (.if_icmp .ne 7, 3) := by decide +kernel
theorem dX1_canName_28 : decode cX1_canName 28 = .ok (.iconst 1, 1) := by decide +kernel
theorem dX1_canName_29 : decode cX1_canName 29 = .ok (.goto 4, 3) := by decide +kernel
theorem dX1_canName_32 : decode cX1_canName 32 = .ok (.iconst 0, 1) := by decide +kernel
theorem dX1_canName_33 : decode cX1_canName 33 = .ok (.ireturn, 1) := by decide +kernel
theorem dX1_addDigits_0 : decode cX1_addDigits 0 = .ok (.aload_n 0, 1) := by decide +kernel
theorem dX1_addDigits_1 : decode cX1_addDigits 1 = .ok (.iload_n 1, 1) := by decide +kernel
theorem dX1_addDigits_2 : decode cX1_addDigits 2 = .ok (.iload 4, 2) := by decide +kernel
theorem dX1_addDigits_4 : decode cX1_addDigits 4 = .ok (.invokevirtual 33, 3) := by decide +kernel
theorem dX1_addDigits_7 : decode cX1_addDigits 7 = .ok (.istore 5, 2) := by decide +kernel
theorem dX1_addDigits_9 : decode cX1_addDigits 9 = .ok (.aload_n 0, 1) := by decide +kernel
theorem dX1_addDigits_10 : decode cX1_addDigits 10 = .ok (.iload 5, 2) := by decide +kernel
theorem dX1_addDigits_12 : decode cX1_addDigits 12 = .ok (.invokevirtual 37, 3) := by decide +kernel
theorem dX1_addDigits_15 : decode cX1_addDigits 15 = .ok (.astore 6, 2) := by decide +kernel
theorem dX1_addDigits_17 : decode cX1_addDigits 17 = .ok (.aload 6, 2) := by decide +kernel
theorem dX1_addDigits_19 : decode cX1_addDigits 19 = .ok (.ifnull 15, 3) := by decide +kernel
theorem dX1_addDigits_22 : decode cX1_addDigits 22 = .ok (.aload 6, 2) := by decide +kernel
theorem dX1_addDigits_24 : decode cX1_addDigits 24 = .ok (.iload_n 2, 1) := by decide +kernel
theorem dX1_addDigits_25 : decode cX1_addDigits 25 = .ok (.putfield 41, 3) := by decide +kernel
theorem dX1_addDigits_28 : decode cX1_addDigits 28 = .ok (.aload 6, 2) := by decide +kernel
theorem dX1_addDigits_30 : decode cX1_addDigits 30 = .ok (.iload_n 3, 1) := by decide +kernel
theorem dX1_addDigits_31 : decode cX1_addDigits 31 = .ok (.putfield 44, 3) := by decide +kernel
theorem dX1_addDigits_34 : decode cX1_addDigits 34 = .ok (.iload 5, 2) := by decide +kernel
theorem dX1_addDigits_36 : decode cX1_addDigits 36 = .ok (.ireturn, 1) := by decide +kernel
theorem dX1_addChoice_0 : decode cX1_addChoice 0 = .ok (.aload_n 0, 1) := by decide +kernel
theorem dX1_addChoice_1 : decode cX1_addChoice 1 = .ok (.iload_n 1, 1) := by decide +kernel
theorem dX1_addChoice_2 : decode cX1_addChoice 2 = .ok (.iload_n 2, 1) := by decide +kernel
theorem dX1_addChoice_3 : decode cX1_addChoice 3 = .ok (.invokevirtual 33, 3) := by decide +kernel
theorem dX1_addChoice_6 : decode cX1_addChoice 6 = .ok (.istore 5, 2) := by decide +kernel
theorem dX1_addChoice_8 : decode cX1_addChoice 8 = .ok (.aload_n 0, 1) := by decide +kernel
theorem dX1_addChoice_9 : decode cX1_addChoice 9 = .ok (.iload 5, 2) := by decide +kernel
theorem dX1_addChoice_11 : decode cX1_addChoice 11 = .ok (.invokevirtual 37, 3) := by decide +kernel
theorem dX1_addChoice_14 : decode cX1_addChoice 14 = .ok (.astore 6, 2) := by decide +kernel
theorem dX1_addChoice_16 : decode cX1_addChoice 16 = .ok (.aload 6, 2) := by decide +kernel
theorem dX1_addChoice_18 : decode cX1_addChoice 18 = .ok (.ifnull 56, 3) := by decide +kernel
theorem dX1_addChoice_21 : decode cX1_addChoice 21 = .ok (.iconst 0, 1) := by decide +kernel
theorem dX1_addChoice_22 : decode cX1_addChoice 22 = .ok (.istore 7, 2) := by decide +kernel
theorem dX1_addChoice_24 : decode cX1_addChoice 24 = .ok (.iload 7, 2) := by decide +kernel
theorem dX1_addChoice_26 : decode cX1_addChoice 26 = .ok (.iload 4, 2) := by decide +kernel
theorem dX1_addChoice_28 : decode cX1_addChoice 28 = .ok (.if_icmp .ge 39, 3) := by decide +kernel
theorem dX1_addChoice_31 : decode cX1_addChoice 31 = .ok (.iload 7, 2) := by decide +kernel
theorem dX1_addChoice_33 : decode cX1_addChoice 33 = .ok (.aload_n 3, 1) := by decide +kernel
theorem dX1_addChoice_34 : decode cX1_addChoice 34 = .ok (.arraylength, 1) := by decide +kernel
theorem dX1_addChoice_35 : decode cX1_addChoice 35 = .ok (.if_icmp .ge 32, 3) := by decide +kernel
theorem dX1_addChoice_38 : decode cX1_addChoice 38 = .ok (.iload 7, 2) := by decide +kernel
theorem dX1_addChoice_40 : decode cX1_addChoice 40 = .ok (.aload 6, 2) := by decide +kernel
theorem dX1_addChoice_42 : decode cX1_addChoice 42 = .ok (.getfield 48, 3) := by decide +kernel
theorem dX1_addChoice_45 : decode cX1_addChoice 45 = .ok (.arraylength, 1) := by decide +kernel
theorem dX1_addChoice_46 : decode cX1_addChoice 46 = .ok (.if_icmp .ge 21, 3) := by decide +kernel
theorem dX1_addChoice_49 : decode cX1_addChoice 49 = .ok (.aload 6, 2) := by decide +kernel
theorem dX1_addChoice_51 : decode cX1_addChoice 51 = .ok (.getfield 48, 3) := by decide +kernel
theorem dX1_addChoice_54 : decode cX1_addChoice 54 = .ok (.iload 7, 2) := by decide +kernel
theorem dX1_addChoice_56 : decode cX1_addChoice 56 = .ok (.aload_n 3, 1) := by decide +kernel
theorem dX1_addChoice_57 : decode cX1_addChoice 57 = .ok (.iload 7, 2) := by decide +kernel
theorem dX1_addChoice_59 : decode cX1_addChoice 59 = .ok (.iaload, 1) := by decide +kernel
theorem dX1_addChoice_60 : decode cX1_addChoice 60 = .ok (.iastore, 1) := by decide +kernel
theorem dX1_addChoice_61 : decode cX1_addChoice 61 = .ok (.iinc 7 1, 3) := by decide +kernel
theorem dX1_addChoice_64 : decode cX1_addChoice 64 = .ok (.goto (-40), 3) := by decide +kernel
theorem dX1_addChoice_67 : decode cX1_addChoice 67 = .ok (.aload 6, 2) := by decide +kernel
theorem dX1_addChoice_69 : decode cX1_addChoice 69 = .ok (.iload 4, 2) := by decide +kernel
theorem dX1_addChoice_71 : decode cX1_addChoice 71 = .ok (.putfield 52, 3) := by decide +kernel
theorem dX1_addChoice_74 : decode cX1_addChoice 74 = .ok (.iload 5, 2) := by decide +kernel
theorem dX1_addChoice_76 : decode cX1_addChoice 76 = .ok (.ireturn, 1) := by decide +kernel
theorem dX1_addSlot_0 : decode cX1_addSlot 0 = .ok (.aload_n 0, 1) := by decide +kernel
theorem dX1_addSlot_1 : decode cX1_addSlot 1 = .ok (.iload_n 1, 1) := by decide +kernel
theorem dX1_addSlot_2 : decode cX1_addSlot 2 = .ok (.invokevirtual 55, 3) := by decide +kernel
theorem dX1_addSlot_5 : decode cX1_addSlot 5 = .ok (.ifCond .ne 5, 3) := by decide +kernel
theorem dX1_addSlot_8 : decode cX1_addSlot 8 = .ok (.iconst (-1), 1) := by decide +kernel
theorem dX1_addSlot_9 : decode cX1_addSlot 9 = .ok (.ireturn, 1) := by decide +kernel
theorem dX1_addSlot_10 : decode cX1_addSlot 10 = .ok (.aload_n 0, 1) := by decide +kernel
theorem dX1_addSlot_11 : decode cX1_addSlot 11 = .ok (.dup, 1) := by decide +kernel
theorem dX1_addSlot_12 : decode cX1_addSlot 12 = .ok (.getfield 18, 3) := by decide +kernel
theorem dX1_addSlot_15 : decode cX1_addSlot 15 = .ok (.iconst 1, 1) := by decide +kernel
theorem dX1_addSlot_16 : decode cX1_addSlot 16 = .ok (.iadd, 1) := by decide +kernel
theorem dX1_addSlot_17 : decode cX1_addSlot 17 = .ok (.putfield 18, 3) := by decide +kernel
theorem dX1_addSlot_20 : decode cX1_addSlot 20 = .ok (.aload_n 0, 1) := by decide +kernel
theorem dX1_addSlot_21 : decode cX1_addSlot 21 = .ok (.aload_n 0, 1) := by decide +kernel
theorem dX1_addSlot_22 : decode cX1_addSlot 22 = .ok (.getfield 18, 3) := by decide +kernel
theorem dX1_addSlot_25 : decode cX1_addSlot 25 = .ok (.iconst 1, 1) := by decide +kernel
theorem dX1_addSlot_26 : decode cX1_addSlot 26 = .ok (.isub, 1) := by decide +kernel
theorem dX1_addSlot_27 : decode cX1_addSlot 27 = .ok (.invokevirtual 37, 3) := by decide +kernel
theorem dX1_addSlot_30 : decode cX1_addSlot 30 = .ok (.astore_n 3, 1) := by decide +kernel
theorem dX1_addSlot_31 : decode cX1_addSlot 31 = .ok (.aload_n 3, 1) := by decide +kernel
theorem dX1_addSlot_32 : decode cX1_addSlot 32 = .ok (.ifnull 13, 3) := by decide +kernel
theorem dX1_addSlot_35 : decode cX1_addSlot 35 = .ok (.aload_n 3, 1) := by decide +kernel
theorem dX1_addSlot_36 : decode cX1_addSlot 36 = .ok (.iload_n 1, 1) := by decide +kernel
theorem dX1_addSlot_37 : decode cX1_addSlot 37 = .ok (.putfield 22, 3) := by decide +kernel
theorem dX1_addSlot_40 : decode cX1_addSlot 40 = .ok (.aload_n 3, 1) := by decide +kernel
theorem dX1_addSlot_41 : decode cX1_addSlot 41 = .ok (.iload_n 2, 1) := by decide +kernel
theorem dX1_addSlot_42 : decode cX1_addSlot 42 = .ok (.putfield 58, 3) := by decide +kernel
theorem dX1_addSlot_45 : decode cX1_addSlot 45 = .ok (.aload_n 0, 1) := by decide +kernel
theorem dX1_addSlot_46 : decode cX1_addSlot 46 = .ok (.invokevirtual 61, 3) := by decide +kernel
theorem dX1_addSlot_49 : decode cX1_addSlot 49 = .ok (.pop, 1) := by decide +kernel
theorem dX1_addSlot_50 : decode cX1_addSlot 50 = .ok (.aload_n 0, 1) := by decide +kernel
theorem dX1_addSlot_51 : decode cX1_addSlot 51 = .ok (.getfield 18, 3) := by decide +kernel
theorem dX1_addSlot_54 : decode cX1_addSlot 54 = .ok (.iconst 1, 1) := by decide +kernel
theorem dX1_addSlot_55 : decode cX1_addSlot 55 = .ok (.isub, 1) := by decide +kernel
theorem dX1_addSlot_56 : decode cX1_addSlot 56 = .ok (.ireturn, 1) := by decide +kernel
theorem dX1_addNeed_0 : decode cX1_addNeed 0 = .ok (.aload_n 0, 1) := by decide +kernel
theorem dX1_addNeed_1 : decode cX1_addNeed 1 = .ok (.iload_n 1, 1) := by decide +kernel
theorem dX1_addNeed_2 : decode cX1_addNeed 2 = .ok (.invokevirtual 37, 3) := by decide +kernel
theorem dX1_addNeed_5 : decode cX1_addNeed 5 = .ok (.astore 4, 2) := by decide +kernel
theorem dX1_addNeed_7 : decode cX1_addNeed 7 = .ok (.aload_n 0, 1) := by decide +kernel
theorem dX1_addNeed_8 : decode cX1_addNeed 8 = .ok (.iload_n 2, 1) := by decide +kernel
theorem dX1_addNeed_9 : decode cX1_addNeed 9 = .ok (.invokevirtual 37, 3) := by decide +kernel
theorem dX1_addNeed_12 : decode cX1_addNeed 12 = .ok (.astore 5, 2) := by decide +kernel
theorem dX1_addNeed_14 : decode cX1_addNeed 14 = .ok (.aload 4, 2) := by decide +kernel
theorem dX1_addNeed_16 : decode cX1_addNeed 16 = .ok (.ifnull 26, 3) := by decide +kernel
theorem dX1_addNeed_19 : decode cX1_addNeed 19 = .ok (.aload 5, 2) := by decide +kernel
theorem dX1_addNeed_21 : decode cX1_addNeed 21 = .ok (.ifnull 21, 3) := by decide +kernel
theorem dX1_addNeed_24 : decode cX1_addNeed 24 = .ok (.iload_n 2, 1) := by decide +kernel
theorem dX1_addNeed_25 : decode cX1_addNeed 25 = .ok (.iload_n 1, 1) := by decide +kernel
theorem dX1_addNeed_26 : decode cX1_addNeed 26 = .ok (.if_icmp .ge 16, 3) := by decide +kernel
theorem dX1_addNeed_29 : decode cX1_addNeed 29 = .ok (.iload_n 3, 1) := by decide +kernel
theorem dX1_addNeed_30 : decode cX1_addNeed 30 = .ok (.ifCond .lt 12, 3) := by decide +kernel
theorem dX1_addNeed_33 : decode cX1_addNeed 33 = .ok (.iload_n 3, 1) := by decide +kernel
theorem dX1_addNeed_34 : decode cX1_addNeed 34 = .ok (.aload 5, 2) := by decide +kernel
theorem dX1_addNeed_36 : decode cX1_addNeed 36 = .ok (.getfield 52, 3) := by decide +kernel
theorem dX1_addNeed_39 : decode cX1_addNeed 39 = .ok (.if_icmp .lt 5, 3) := by decide +kernel
theorem dX1_addNeed_42 : decode cX1_addNeed 42 = .ok (.iconst 0, 1) := by decide +kernel
theorem dX1_addNeed_43 : decode cX1_addNeed 43 = .ok (.ireturn, 1) := by decide +kernel
theorem dX1_addNeed_44 : decode cX1_addNeed 44 = .ok (.aload 4, 2) := by decide +kernel
theorem dX1_addNeed_46 : decode cX1_addNeed 46 = .ok (.iload_n 2, 1) := by decide +kernel
theorem dX1_addNeed_47 : decode cX1_addNeed 47 = .ok (.putfield 65, 3) := by decide +kernel
theorem dX1_addNeed_50 : decode cX1_addNeed 50 = .ok (.aload 4, 2) := by decide +kernel
theorem dX1_addNeed_52 : decode cX1_addNeed 52 = .ok (.iload_n 3, 1) := by decide +kernel
theorem dX1_addNeed_53 : decode cX1_addNeed 53 = .ok (.putfield 68, 3) := by decide +kernel
theorem dX1_addNeed_56 : decode cX1_addNeed 56 = .ok (.aload_n 0, 1) := by decide +kernel
theorem dX1_addNeed_57 : decode cX1_addNeed 57 = .ok (.invokevirtual 61, 3) := by decide +kernel
theorem dX1_addNeed_60 : decode cX1_addNeed 60 = .ok (.pop, 1) := by decide +kernel
theorem dX1_addNeed_61 : decode cX1_addNeed 61 = .ok (.iconst 1, 1) := by decide +kernel
theorem dX1_addNeed_62 : decode cX1_addNeed 62 = .ok (.ireturn, 1) := by decide +kernel
theorem dX1_countOpen_0 : decode cX1_countOpen 0 = .ok (.iconst 0, 1) := by decide +kernel
theorem dX1_countOpen_1 : decode cX1_countOpen 1 = .ok (.istore_n 1, 1) := by decide +kernel
theorem dX1_countOpen_2 : decode cX1_countOpen 2 = .ok (.iconst 0, 1) := by decide +kernel
theorem dX1_countOpen_3 : decode cX1_countOpen 3 = .ok (.istore_n 2, 1) := by decide +kernel
theorem dX1_countOpen_4 : decode cX1_countOpen 4 = .ok (.iload_n 2, 1) := by decide +kernel
theorem dX1_countOpen_5 : decode cX1_countOpen 5 = .ok (.aload_n 0, 1) := by decide +kernel
theorem dX1_countOpen_6 : decode cX1_countOpen 6 = .ok (.getfield 18, 3) := by decide +kernel
theorem dX1_countOpen_9 : decode cX1_countOpen 9 = .ok (.if_icmp .ge 33, 3) := by decide +kernel
theorem dX1_countOpen_12 : decode cX1_countOpen 12 = .ok (.iload_n 2, 1) := by decide +kernel
theorem dX1_countOpen_13 : decode cX1_countOpen 13 = .ok (.aload_n 0, 1) := by decide +kernel
theorem dX1_countOpen_14 : decode cX1_countOpen 14 = .ok (.getfield 11, 3) := by decide +kernel
theorem dX1_countOpen_17 : decode cX1_countOpen 17 = .ok (.arraylength, 1) := by decide +kernel
theorem dX1_countOpen_18 : decode cX1_countOpen 18 = .ok (.if_icmp .ge 24, 3) := by decide +kernel
theorem dX1_countOpen_21 : decode cX1_countOpen 21 = .ok (.iload_n 1, 1) := by decide +kernel
theorem dX1_countOpen_22 : decode cX1_countOpen 22 = .ok (.aload_n 0, 1) := by decide +kernel
theorem dX1_countOpen_23 : decode cX1_countOpen 23 = .ok (.getfield 11, 3) := by decide +kernel
theorem dX1_countOpen_26 : decode cX1_countOpen 26 = .ok (.iload_n 2, 1) := by decide +kernel
theorem dX1_countOpen_27 : decode cX1_countOpen 27 = .ok (.aaload, 1) := by decide +kernel
theorem dX1_countOpen_28 : decode cX1_countOpen 28 = .ok (.invokevirtual 71, 3) := by decide +kernel
theorem dX1_countOpen_31 : decode cX1_countOpen 31 = .ok (.invokestatic 75, 3) := by decide +kernel
theorem dX1_countOpen_34 : decode cX1_countOpen 34 = .ok (.iadd, 1) := by decide +kernel
theorem dX1_countOpen_35 : decode cX1_countOpen 35 = .ok (.istore_n 1, 1) := by decide +kernel
theorem dX1_countOpen_36 : decode cX1_countOpen 36 = .ok (.iinc 2 1, 3) := by decide +kernel
theorem dX1_countOpen_39 : decode cX1_countOpen 39 = .ok (.goto (-35), 3) := by decide +kernel
theorem dX1_countOpen_42 : decode cX1_countOpen 42 = .ok (.iload_n 1, 1) := by decide +kernel
theorem dX1_countOpen_43 : decode cX1_countOpen 43 = .ok (.ireturn, 1) := by decide +kernel
theorem dX1_countUnheard_0 : decode cX1_countUnheard 0 = .ok (.iconst 0, 1) := by decide +kernel
theorem dX1_countUnheard_1 : decode cX1_countUnheard 1 = .ok (.istore_n 1, 1) := by decide +kernel
theorem dX1_countUnheard_2 : decode cX1_countUnheard 2 = .ok (.iconst 0, 1) := by decide +kernel
theorem dX1_countUnheard_3 : decode cX1_countUnheard 3 = .ok (.istore_n 2, 1) := by decide +kernel
theorem dX1_countUnheard_4 : decode cX1_countUnheard 4 = .ok (.iload_n 2, 1) := by decide +kernel
theorem dX1_countUnheard_5 : decode cX1_countUnheard 5 = .ok (.aload_n 0, 1) := by decide +kernel
theorem dX1_countUnheard_6 : decode cX1_countUnheard 6 = .ok (.getfield 18, 3) := by decide +kernel
theorem dX1_countUnheard_9 : decode cX1_countUnheard 9 = .ok (.if_icmp .ge 33, 3) := by decide +kernel
theorem dX1_countUnheard_12 : decode cX1_countUnheard 12 = .ok (.iload_n 2, 1) := by decide +kernel
theorem dX1_countUnheard_13 : decode cX1_countUnheard 13 = .ok (.aload_n 0, 1) := by decide +kernel
theorem dX1_countUnheard_14 : decode cX1_countUnheard 14 = .ok (.getfield 11, 3) := by decide +kernel
theorem dX1_countUnheard_17 : decode cX1_countUnheard 17 = .ok (.arraylength, 1) := by decide +kernel
theorem dX1_countUnheard_18 : decode cX1_countUnheard 18 = .ok (.if_icmp .ge 24, 3) := by decide +kernel
theorem dX1_countUnheard_21 : decode cX1_countUnheard 21 = .ok (.iload_n 1, 1) := by decide +kernel
theorem dX1_countUnheard_22 : decode cX1_countUnheard 22 = .ok (.aload_n 0, 1) := by decide +kernel
theorem dX1_countUnheard_23 : decode cX1_countUnheard 23 = .ok (.getfield 11, 3) := by decide +kernel
theorem dX1_countUnheard_26 : decode cX1_countUnheard 26 = .ok (.iload_n 2, 1) := by decide +kernel
theorem dX1_countUnheard_27 : decode cX1_countUnheard 27 = .ok (.aaload, 1) := by decide +kernel
theorem dX1_countUnheard_28 : decode cX1_countUnheard 28 = .ok (.invokevirtual 79, 3) := by decide +kernel
theorem dX1_countUnheard_31 : decode cX1_countUnheard 31 = .ok (.invokestatic 75, 3) := by decide +kernel
theorem dX1_countUnheard_34 : decode cX1_countUnheard 34 = .ok (.iadd, 1) := by decide +kernel
theorem dX1_countUnheard_35 : decode cX1_countUnheard 35 = .ok (.istore_n 1, 1) := by decide +kernel
theorem dX1_countUnheard_36 : decode cX1_countUnheard 36 = .ok (.iinc 2 1, 3) := by decide +kernel
theorem dX1_countUnheard_39 : decode cX1_countUnheard 39 = .ok (.goto (-35), 3) := by decide +kernel
theorem dX1_countUnheard_42 : decode cX1_countUnheard 42 = .ok (.iload_n 1, 1) := by decide +kernel
theorem dX1_countUnheard_43 : decode cX1_countUnheard 43 = .ok (.ireturn, 1) := by decide +kernel
theorem dX1_hearAllBack_0 : decode cX1_hearAllBack 0 = .ok (.aload_n 0, 1) := by decide +kernel
theorem dX1_hearAllBack_1 : decode cX1_hearAllBack 1 = .ok (.invokevirtual 82, 3) := by decide +kernel
theorem dX1_hearAllBack_4 : decode cX1_hearAllBack 4 = .ok (.istore_n 1, 1) := by decide +kernel
theorem dX1_hearAllBack_5 : decode cX1_hearAllBack 5 = .ok (.iconst 0, 1) := by decide +kernel
theorem dX1_hearAllBack_6 : decode cX1_hearAllBack 6 = .ok (.istore_n 2, 1) := by decide +kernel
theorem dX1_hearAllBack_7 : decode cX1_hearAllBack 7 = .ok (.iload_n 2, 1) := by decide +kernel
theorem dX1_hearAllBack_8 : decode cX1_hearAllBack 8 = .ok (.aload_n 0, 1) := by decide +kernel
theorem dX1_hearAllBack_9 : decode cX1_hearAllBack 9 = .ok (.getfield 18, 3) := by decide +kernel
theorem dX1_hearAllBack_12 : decode cX1_hearAllBack 12 = .ok (.if_icmp .ge 36, 3) := by decide +kernel
theorem dX1_hearAllBack_15 : decode cX1_hearAllBack 15 = .ok (.iload_n 2, 1) := by decide +kernel
theorem dX1_hearAllBack_16 : decode cX1_hearAllBack 16 = .ok (.aload_n 0, 1) := by decide +kernel
theorem dX1_hearAllBack_17 : decode cX1_hearAllBack 17 = .ok (.getfield 11, 3) := by decide +kernel
theorem dX1_hearAllBack_20 : decode cX1_hearAllBack 20 = .ok (.arraylength, 1) := by decide +kernel
theorem dX1_hearAllBack_21 : decode cX1_hearAllBack 21 = .ok (.if_icmp .ge 27, 3) := by decide +kernel
theorem dX1_hearAllBack_24 : decode cX1_hearAllBack 24 = .ok (.aload_n 0, 1) := by decide +kernel
theorem dX1_hearAllBack_25 : decode cX1_hearAllBack 25 = .ok (.getfield 11, 3) := by decide +kernel
theorem dX1_hearAllBack_28 : decode cX1_hearAllBack 28 = .ok (.iload_n 2, 1) := by decide +kernel
theorem dX1_hearAllBack_29 : decode cX1_hearAllBack 29 = .ok (.aaload, 1) := by decide +kernel
theorem dX1_hearAllBack_30 : decode cX1_hearAllBack 30 = .ok (.aload_n 0, 1) := by decide +kernel
theorem dX1_hearAllBack_31 : decode cX1_hearAllBack 31 = .ok (.getfield 11, 3) := by decide +kernel
theorem dX1_hearAllBack_34 : decode cX1_hearAllBack 34 = .ok (.iload_n 2, 1) := by decide +kernel
theorem dX1_hearAllBack_35 : decode cX1_hearAllBack 35 = .ok (.aaload, 1) := by decide +kernel
theorem dX1_hearAllBack_36 : decode cX1_hearAllBack 36 = .ok (.getfield 85, 3) := by decide +kernel
theorem dX1_hearAllBack_39 : decode cX1_hearAllBack 39 = .ok (.putfield 88, 3) := by decide +kernel
theorem dX1_hearAllBack_42 : decode cX1_hearAllBack 42 = .ok (.iinc 2 1, 3) := by decide +kernel
theorem dX1_hearAllBack_45 : decode cX1_hearAllBack 45 = .ok (.goto (-38), 3) := by decide +kernel
theorem dX1_hearAllBack_48 : decode cX1_hearAllBack 48 = .ok (.iload_n 1, 1) := by decide +kernel
theorem dX1_hearAllBack_49 : decode cX1_hearAllBack 49 = .ok (.ireturn, 1) := by decide +kernel
theorem dX1_nextBehind_0 : decode cX1_nextBehind 0 = .ok (.aload_n 0, 1) := by decide +kernel
theorem dX1_nextBehind_1 : decode cX1_nextBehind 1 = .ok (.iload_n 1, 1) := by decide +kernel
theorem dX1_nextBehind_2 : decode cX1_nextBehind 2 = .ok (.iconst 1, 1) := by decide +kernel
theorem dX1_nextBehind_3 : decode cX1_nextBehind 3 = .ok (.iadd, 1) := by decide +kernel
theorem dX1_nextBehind_4 : decode cX1_nextBehind 4 = .ok (.invokevirtual 91, 3) := by decide +kernel
theorem dX1_nextBehind_7 : decode cX1_nextBehind 7 = .ok (.istore_n 2, 1) := by decide +kernel
theorem dX1_nextBehind_8 : decode cX1_nextBehind 8 = .ok (.iload_n 2, 1) := by decide +kernel
theorem dX1_nextBehind_9 : decode cX1_nextBehind 9 = .ok (.iconst (-1), 1) := by decide +kernel
theorem dX1_nextBehind_10 : decode cX1_nextBehind 10 = .ok (.if_icmp .ne 11, 3) := by decide +kernel
theorem dX1_nextBehind_13 : decode cX1_nextBehind 13 = .ok (.aload_n 0, 1) := by decide +kernel
theorem dX1_nextBehind_14 : decode cX1_nextBehind 14 = .ok (.iconst 0, 1) := by decide +kernel
theorem dX1_nextBehind_15 : decode cX1_nextBehind 15 = .ok (.invokevirtual 91, 3) := by decide +kernel
theorem dX1_nextBehind_18 : decode cX1_nextBehind 18 = .ok (.goto 4, 3) := by decide +kernel
theorem dX1_nextBehind_21 : decode cX1_nextBehind 21 = .ok (.iload_n 2, 1) := by decide +kernel
theorem dX1_nextBehind_22 : decode cX1_nextBehind 22 = .ok (.ireturn, 1) := by decide +kernel
theorem dX1_firstToCome_0 : decode cX1_firstToCome 0 = .ok (.iload_n 1, 1) := by decide +kernel
theorem dX1_firstToCome_1 : decode cX1_firstToCome 1 = .ok (.iconst 0, 1) := by decide +kernel
theorem dX1_firstToCome_2 : decode cX1_firstToCome 2 = .ok (.invokestatic 94, 3) := by decide +kernel
theorem dX1_firstToCome_5 : decode cX1_firstToCome 5 = .ok (.istore_n 2, 1) := by decide +kernel
theorem dX1_firstToCome_6 : decode cX1_firstToCome 6 = .ok (.iload_n 2, 1) := by decide +kernel
theorem dX1_firstToCome_7 : decode cX1_firstToCome 7 = .ok (.aload_n 0, 1) := by decide +kernel
theorem dX1_firstToCome_8 : decode cX1_firstToCome 8 = .ok (.getfield 18, 3) := by decide +kernel
theorem dX1_firstToCome_11 : decode cX1_firstToCome 11 = .ok (.if_icmp .ge 44, 3) := by decide +kernel
theorem dX1_firstToCome_14 : decode cX1_firstToCome 14 = .ok (.iload_n 2, 1) := by decide +kernel
theorem dX1_firstToCome_15 : decode cX1_firstToCome 15 = .ok (.aload_n 0, 1) := by decide +kernel
theorem dX1_firstToCome_16 : decode cX1_firstToCome 16 = .ok (.getfield 11, 3) := by decide +kernel
theorem dX1_firstToCome_19 : decode cX1_firstToCome 19 = .ok (.arraylength, 1) := by decide +kernel
theorem dX1_firstToCome_20 : decode cX1_firstToCome 20 = .ok (.if_icmp .ge 35, 3) := by decide +kernel
theorem dX1_firstToCome_23 : decode cX1_firstToCome 23 = .ok (.aload_n 0, 1) := by decide +kernel
theorem dX1_firstToCome_24 : decode cX1_firstToCome 24 = .ok (.getfield 11, 3) := by decide +kernel
theorem dX1_firstToCome_27 : decode cX1_firstToCome 27 = .ok (.iload_n 2, 1) := by decide +kernel
theorem dX1_firstToCome_28 : decode cX1_firstToCome 28 = .ok (.aaload, 1) := by decide +kernel
theorem dX1_firstToCome_29 : decode cX1_firstToCome 29 = .ok (.invokevirtual 71, 3) := by decide +kernel
theorem dX1_firstToCome_32 : decode cX1_firstToCome 32 = .ok (.ifCond .eq 17, 3) := by decide +kernel
theorem dX1_firstToCome_35 : decode cX1_firstToCome 35 = .ok (.aload_n 0, 1) := by decide +kernel
theorem dX1_firstToCome_36 : decode cX1_firstToCome 36 = .ok (.getfield 11, 3) := by decide +kernel
theorem dX1_firstToCome_39 : decode cX1_firstToCome 39 = .ok (.iload_n 2, 1) := by decide +kernel
theorem dX1_firstToCome_40 : decode cX1_firstToCome 40 = .ok (.aaload, 1) := by decide +kernel
theorem dX1_firstToCome_41 : decode cX1_firstToCome 41 = .ok (.getfield 100, 3) := by decide +kernel
theorem dX1_firstToCome_44 : decode cX1_firstToCome 44 = .ok (.ifCond .ne 5, 3) := by decide +kernel
theorem dX1_firstToCome_47 : decode cX1_firstToCome 47 = .ok (.iload_n 2, 1) := by decide +kernel
theorem dX1_firstToCome_48 : decode cX1_firstToCome 48 = .ok (.ireturn, 1) := by decide +kernel
theorem dX1_firstToCome_49 : decode cX1_firstToCome 49 = .ok (.iinc 2 1, 3) := by decide +kernel
theorem dX1_firstToCome_52 : decode cX1_firstToCome 52 = .ok (.goto (-46), 3) := by decide +kernel
theorem dX1_firstToCome_55 : decode cX1_firstToCome 55 = .ok (.iconst (-1), 1) := by decide +kernel
theorem dX1_firstToCome_56 : decode cX1_firstToCome 56 = .ok (.ireturn, 1) := by decide +kernel
theorem dX1_keepValue_0 : decode cX1_keepValue 0 = .ok (.aload_n 0, 1) := by decide +kernel
theorem dX1_keepValue_1 : decode cX1_keepValue 1 = .ok (.iload_n 1, 1) := by decide +kernel
theorem dX1_keepValue_2 : decode cX1_keepValue 2 = .ok (.invokevirtual 37, 3) := by decide +kernel
theorem dX1_keepValue_5 : decode cX1_keepValue 5 = .ok (.astore 4, 2) := by decide +kernel
theorem dX1_keepValue_7 : decode cX1_keepValue 7 = .ok (.aload 4, 2) := by decide +kernel
theorem dX1_keepValue_9 : decode cX1_keepValue 9 = .ok (.ifnonnull 5, 3) := by decide +kernel
theorem dX1_keepValue_12 : decode cX1_keepValue 12 = .ok (.iconst 0, 1) := by decide +kernel
theorem dX1_keepValue_13 : decode cX1_keepValue 13 = .ok (.ireturn, 1) := by decide +kernel
theorem dX1_keepValue_14 : decode cX1_keepValue 14 = .ok (.aload 4, 2) := by decide +kernel
theorem dX1_keepValue_16 : decode cX1_keepValue 16 = .ok (.iconst 1, 1) := by decide +kernel
theorem dX1_keepValue_17 : decode cX1_keepValue 17 = .ok (.putfield 85, 3) := by decide +kernel
theorem dX1_keepValue_20 : decode cX1_keepValue 20 = .ok (.aload 4, 2) := by decide +kernel
theorem dX1_keepValue_22 : decode cX1_keepValue 22 = .ok (.iload_n 2, 1) := by decide +kernel
theorem dX1_keepValue_23 : decode cX1_keepValue 23 = .ok (.putfield 103, 3) := by decide +kernel
theorem dX1_keepValue_26 : decode cX1_keepValue 26 = .ok (.aload 4, 2) := by decide +kernel
theorem dX1_keepValue_28 : decode cX1_keepValue 28 = .ok (.iload_n 3, 1) := by decide +kernel
theorem dX1_keepValue_29 : decode cX1_keepValue 29 = .ok (.putfield 88, 3) := by decide +kernel
theorem dX1_keepValue_32 : decode cX1_keepValue 32 = .ok (.aload_n 0, 1) := by decide +kernel
theorem dX1_keepValue_33 : decode cX1_keepValue 33 = .ok (.invokevirtual 61, 3) := by decide +kernel
theorem dX1_keepValue_36 : decode cX1_keepValue 36 = .ok (.ireturn, 1) := by decide +kernel
theorem dX1_reckonNeeds_0 : decode cX1_reckonNeeds 0 = .ok (.iconst 0, 1) := by decide +kernel
theorem dX1_reckonNeeds_1 : decode cX1_reckonNeeds 1 = .ok (.istore_n 1, 1) := by decide +kernel
theorem dX1_reckonNeeds_2 : decode cX1_reckonNeeds 2 = .ok (.iconst 0, 1) := by decide +kernel
theorem dX1_reckonNeeds_3 : decode cX1_reckonNeeds 3 = .ok (.istore_n 2, 1) := by decide +kernel
theorem dX1_reckonNeeds_4 : decode cX1_reckonNeeds 4 = .ok (.iload_n 2, 1) := by decide +kernel
theorem dX1_reckonNeeds_5 : decode cX1_reckonNeeds 5 = .ok (.aload_n 0, 1) := by decide +kernel
theorem dX1_reckonNeeds_6 : decode cX1_reckonNeeds 6 = .ok (.getfield 18, 3) := by decide +kernel
theorem dX1_reckonNeeds_9 : decode cX1_reckonNeeds 9 = .ok (.if_icmp .ge 84, 3) := by decide +kernel
theorem dX1_reckonNeeds_12 : decode cX1_reckonNeeds 12 = .ok (.iload_n 2, 1) := by decide +kernel
theorem dX1_reckonNeeds_13 : decode cX1_reckonNeeds 13 = .ok (.aload_n 0, 1) := by decide +kernel
theorem dX1_reckonNeeds_14 : decode cX1_reckonNeeds 14 = .ok (.getfield 11, 3) := by decide +kernel
theorem dX1_reckonNeeds_17 : decode cX1_reckonNeeds 17 = .ok (.arraylength, 1) := by decide +kernel
theorem dX1_reckonNeeds_18 : decode cX1_reckonNeeds 18 = .ok (.if_icmp .ge 75, 3) := by decide +kernel
theorem dX1_reckonNeeds_21 : decode cX1_reckonNeeds 21 = .ok (.aload_n 0, 1) := by decide +kernel
theorem dX1_reckonNeeds_22 : decode cX1_reckonNeeds 22 = .ok (.getfield 11, 3) := by decide +kernel
theorem dX1_reckonNeeds_25 : decode cX1_reckonNeeds 25 = .ok (.iload_n 2, 1) := by decide +kernel
theorem dX1_reckonNeeds_26 : decode cX1_reckonNeeds 26 = .ok (.aaload, 1) := by decide +kernel
theorem dX1_reckonNeeds_27 : decode cX1_reckonNeeds 27 = .ok (.astore_n 3, 1) := by decide +kernel
theorem dX1_reckonNeeds_28 : decode cX1_reckonNeeds 28 = .ok (.aload_n 3, 1) := by decide +kernel
theorem dX1_reckonNeeds_29 : decode cX1_reckonNeeds 29 = .ok (.aload_n 3, 1) := by decide +kernel
theorem dX1_reckonNeeds_30 : decode cX1_reckonNeeds 30 = .ok (.getfield 65, 3) := by decide +kernel
theorem dX1_reckonNeeds_33 : decode cX1_reckonNeeds 33 = .ok (.iconst (-1), 1) := by decide +kernel
theorem dX1_reckonNeeds_34 : decode cX1_reckonNeeds 34 = .ok (.if_icmp .eq 18, 3) := by decide +kernel
theorem dX1_reckonNeeds_37 : decode cX1_reckonNeeds 37 = .ok (.aload_n 3, 1) := by decide +kernel
theorem dX1_reckonNeeds_38 : decode cX1_reckonNeeds 38 = .ok (.aload_n 0, 1) := by decide +kernel
theorem dX1_reckonNeeds_39 : decode cX1_reckonNeeds 39 = .ok (.aload_n 3, 1) := by decide +kernel
theorem dX1_reckonNeeds_40 : decode cX1_reckonNeeds 40 = .ok (.getfield 65, 3) := by decide +kernel
theorem dX1_reckonNeeds_43 : decode cX1_reckonNeeds 43 = .ok (.invokevirtual 37, 3) := by decide +kernel
theorem dX1_reckonNeeds_46 : decode cX1_reckonNeeds 46 = .ok (.invokevirtual 106, 3) := by decide +kernel
theorem dX1_reckonNeeds_49 : decode cX1_reckonNeeds 49 = .ok (.ifCond .eq 7, 3) := by decide +kernel
theorem dX1_reckonNeeds_52 : decode cX1_reckonNeeds 52 = .ok (.iconst 1, 1) := by decide +kernel
theorem dX1_reckonNeeds_53 : decode cX1_reckonNeeds 53 = .ok (.goto 4, 3) := by decide +kernel
theorem dX1_reckonNeeds_56 : decode cX1_reckonNeeds 56 = .ok (.iconst 0, 1) := by decide +kernel
theorem dX1_reckonNeeds_57 : decode cX1_reckonNeeds 57 = .ok (.putfield 110, 3) := by decide +kernel
theorem dX1_reckonNeeds_60 : decode cX1_reckonNeeds 60 = .ok (.aload_n 3, 1) := by decide +kernel
theorem dX1_reckonNeeds_61 : decode cX1_reckonNeeds 61 = .ok (.getfield 85, 3) := by decide +kernel
theorem dX1_reckonNeeds_64 : decode cX1_reckonNeeds 64 = .ok (.ifCond .eq 23, 3) := by decide +kernel
theorem dX1_reckonNeeds_67 : decode cX1_reckonNeeds 67 = .ok (.aload_n 3, 1) := by decide +kernel
theorem dX1_reckonNeeds_68 : decode cX1_reckonNeeds 68 = .ok (.getfield 110, 3) := by decide +kernel
theorem dX1_reckonNeeds_71 : decode cX1_reckonNeeds 71 = .ok (.ifCond .ne 16, 3) := by decide +kernel
theorem dX1_reckonNeeds_74 : decode cX1_reckonNeeds 74 = .ok (.aload_n 3, 1) := by decide +kernel
theorem dX1_reckonNeeds_75 : decode cX1_reckonNeeds 75 = .ok (.iconst 0, 1) := by decide +kernel
theorem dX1_reckonNeeds_76 : decode cX1_reckonNeeds 76 = .ok (.putfield 85, 3) := by decide +kernel
theorem dX1_reckonNeeds_79 : decode cX1_reckonNeeds 79 = .ok (.aload_n 3, 1) := by decide +kernel
theorem dX1_reckonNeeds_80 : decode cX1_reckonNeeds 80 = .ok (.iconst 0, 1) := by decide +kernel
theorem dX1_reckonNeeds_81 : decode cX1_reckonNeeds 81 = .ok (.putfield 88, 3) := by decide +kernel
theorem dX1_reckonNeeds_84 : decode cX1_reckonNeeds 84 = .ok (.iinc 1 1, 3) := by decide +kernel
theorem dX1_reckonNeeds_87 : decode cX1_reckonNeeds 87 = .ok (.iinc 2 1, 3) := by decide +kernel
theorem dX1_reckonNeeds_90 : decode cX1_reckonNeeds 90 = .ok (.goto (-86), 3) := by decide +kernel
theorem dX1_reckonNeeds_93 : decode cX1_reckonNeeds 93 = .ok (.iload_n 1, 1) := by decide +kernel
theorem dX1_reckonNeeds_94 : decode cX1_reckonNeeds 94 = .ok (.ireturn, 1) := by decide +kernel
theorem dX2_init_0 : decode cX2_init 0 = .ok (.aload_n 0, 1) := by decide +kernel
theorem dX2_init_1 : decode cX2_init 1 = .ok (.invokespecial 3, 3) := by decide +kernel
theorem dX2_init_4 : decode cX2_init 4 = .ok (.aload_n 0, 1) := by decide +kernel
theorem dX2_init_5 : decode cX2_init 5 = .ok (.bipush 32, 2) := by decide +kernel
theorem dX2_init_7 : decode cX2_init 7 = .ok (.newarray .int, 2) := by decide +kernel
theorem dX2_init_9 : decode cX2_init 9 = .ok (.putfield 9, 3) := by decide +kernel
theorem dX2_init_12 : decode cX2_init 12 = .ok (.aload_n 0, 1) := by decide +kernel
theorem dX2_init_13 : decode cX2_init 13 = .ok (.bipush 32, 2) := by decide +kernel
theorem dX2_init_15 : decode cX2_init 15 = .ok (.newarray .int, 2) := by decide +kernel
theorem dX2_init_17 : decode cX2_init 17 = .ok (.putfield 15, 3) := by decide +kernel
theorem dX2_init_20 : decode cX2_init 20 = .ok (.aload_n 0, 1) := by decide +kernel
theorem dX2_init_21 : decode cX2_init 21 = .ok (.bipush 8, 2) := by decide +kernel
theorem dX2_init_23 : decode cX2_init 23 = .ok (.newarray .int, 2) := by decide +kernel
theorem dX2_init_25 : decode cX2_init 25 = .ok (.putfield 18, 3) := by decide +kernel
theorem dX2_init_28 : decode cX2_init 28 = .ok (.return_, 1) := by decide +kernel
theorem dX2_clear_0 : decode cX2_clear 0 = .ok (.aload_n 0, 1) := by decide +kernel
theorem dX2_clear_1 : decode cX2_clear 1 = .ok (.iconst 0, 1) := by decide +kernel
theorem dX2_clear_2 : decode cX2_clear 2 = .ok (.putfield 21, 3) := by decide +kernel
theorem dX2_clear_5 : decode cX2_clear 5 = .ok (.return_, 1) := by decide +kernel
theorem dX2_addPlace_0 : decode cX2_addPlace 0 = .ok (.aload_n 0, 1) := by decide +kernel
theorem dX2_addPlace_1 : decode cX2_addPlace 1 = .ok (.getfield 21, 3) := by decide +kernel
theorem dX2_addPlace_4 : decode cX2_addPlace 4 = .ok (.aload_n 0, 1) := by decide +kernel
theorem dX2_addPlace_5 : decode cX2_addPlace 5 = .ok (.getfield 18, 3) := by decide +kernel
theorem dX2_addPlace_8 : decode cX2_addPlace 8 = .ok (.arraylength, 1) := by decide +kernel
theorem dX2_addPlace_9 : decode cX2_addPlace 9 = .ok (.if_icmp .lt 5, 3) := by decide +kernel
theorem dX2_addPlace_12 : decode cX2_addPlace 12 = .ok (.iconst (-1), 1) := by decide +kernel
theorem dX2_addPlace_13 : decode cX2_addPlace 13 = .ok (.ireturn, 1) := by decide +kernel
theorem dX2_addPlace_14 : decode cX2_addPlace 14 = .ok (.aload_n 0, 1) := by decide +kernel
theorem dX2_addPlace_15 : decode cX2_addPlace 15 = .ok (.getfield 18, 3) := by decide +kernel
theorem dX2_addPlace_18 : decode cX2_addPlace 18 = .ok (.aload_n 0, 1) := by decide +kernel
theorem dX2_addPlace_19 : decode cX2_addPlace 19 = .ok (.getfield 21, 3) := by decide +kernel
theorem dX2_addPlace_22 : decode cX2_addPlace 22 = .ok (.iconst 0, 1) := by decide +kernel
theorem dX2_addPlace_23 : decode cX2_addPlace 23 = .ok (.iastore, 1) := by decide +kernel
theorem dX2_addPlace_24 : decode cX2_addPlace 24 = .ok (.aload_n 0, 1) := by decide +kernel
theorem dX2_addPlace_25 : decode cX2_addPlace 25 = .ok (.dup, 1) := by decide +kernel
theorem dX2_addPlace_26 : decode cX2_addPlace 26 = .ok (.getfield 21, 3) := by decide +kernel
theorem dX2_addPlace_29 : decode cX2_addPlace 29 = .ok (.iconst 1, 1) := by decide +kernel
theorem dX2_addPlace_30 : decode cX2_addPlace 30 = .ok (.iadd, 1) := by decide +kernel
theorem dX2_addPlace_31 : decode cX2_addPlace 31 = .ok (.putfield 21, 3) := by decide +kernel
theorem dX2_addPlace_34 : decode cX2_addPlace 34 = .ok (.aload_n 0, 1) := by decide +kernel
theorem dX2_addPlace_35 : decode cX2_addPlace 35 = .ok (.getfield 21, 3) := by decide +kernel
theorem dX2_addPlace_38 : decode cX2_addPlace 38 = .ok (.ireturn, 1) := by decide +kernel
theorem dX2_addWord_0 : decode cX2_addWord 0 = .ok (.aload_n 0, 1) := by decide +kernel
theorem dX2_addWord_1 : decode cX2_addWord 1 = .ok (.getfield 21, 3) := by decide +kernel
theorem dX2_addWord_4 : decode cX2_addWord 4 = .ok (.iconst 1, 1) := by decide +kernel
theorem dX2_addWord_5 : decode cX2_addWord 5 = .ok (.isub, 1) := by decide +kernel
theorem dX2_addWord_6 : decode cX2_addWord 6 = .ok (.istore_n 3, 1) := by decide +kernel
theorem dX2_addWord_7 : decode cX2_addWord 7 = .ok (.iload_n 3, 1) := by decide +kernel
theorem dX2_addWord_8 : decode cX2_addWord 8 = .ok (.ifCond .lt 32, 3) := by decide +kernel
theorem dX2_addWord_11 : decode cX2_addWord 11 = .ok (.iload_n 3, 1) := by decide +kernel
theorem dX2_addWord_12 : decode cX2_addWord 12 = .ok (.aload_n 0, 1) := by decide +kernel
theorem dX2_addWord_13 : decode cX2_addWord 13 = .ok (.getfield 18, 3) := by decide +kernel
theorem dX2_addWord_16 : decode cX2_addWord 16 = .ok (.arraylength, 1) := by decide +kernel
theorem dX2_addWord_17 : decode cX2_addWord 17 = .ok (.if_icmp .ge 23, 3) := by decide +kernel
theorem dX2_addWord_20 : decode cX2_addWord 20 = .ok (.aload_n 0, 1) := by decide +kernel
theorem dX2_addWord_21 : decode cX2_addWord 21 = .ok (.getfield 18, 3) := by decide +kernel
theorem dX2_addWord_24 : decode cX2_addWord 24 = .ok (.iload_n 3, 1) := by decide +kernel
theorem dX2_addWord_25 : decode cX2_addWord 25 = .ok (.iaload, 1) := by decide +kernel
theorem dX2_addWord_26 : decode cX2_addWord 26 = .ok (.iconst 4, 1) := by decide +kernel
theorem dX2_addWord_27 : decode cX2_addWord 27 = .ok (.if_icmp .ge 13, 3) := by decide +kernel
theorem dX2_addWord_30 : decode cX2_addWord 30 = .ok (.aload_n 0, 1) := by decide +kernel
theorem dX2_addWord_31 : decode cX2_addWord 31 = .ok (.iload_n 3, 1) := by decide +kernel
theorem dX2_addWord_32 : decode cX2_addWord 32 = .ok (.iload_n 1, 1) := by decide +kernel
theorem dX2_addWord_33 : decode cX2_addWord 33 = .ok (.invokevirtual 25, 3) := by decide +kernel
theorem dX2_addWord_36 : decode cX2_addWord 36 = .ok (.iconst (-1), 1) := by decide +kernel
theorem dX2_addWord_37 : decode cX2_addWord 37 = .ok (.if_icmp .eq 5, 3) := by decide +kernel
theorem dX2_addWord_40 : decode cX2_addWord 40 = .ok (.iconst (-1), 1) := by decide +kernel
theorem dX2_addWord_41 : decode cX2_addWord 41 = .ok (.ireturn, 1) := by decide +kernel
theorem dX2_addWord_42 : decode cX2_addWord 42 = .ok (.iload_n 3, 1) := by decide +kernel
theorem dX2_addWord_43 : decode cX2_addWord 43 = .ok (.iconst 4, 1) := by decide +kernel
theorem dX2_addWord_44 : decode cX2_addWord 44 = .ok (.imul, 1) := by decide +kernel
theorem dX2_addWord_45 : decode cX2_addWord 45 = .ok (.aload_n 0, 1) := by decide +kernel
theorem dX2_addWord_46 : decode cX2_addWord 46 = .ok (.getfield 18, 3) := by decide +kernel
theorem dX2_addWord_49 : decode cX2_addWord 49 = .ok (.iload_n 3, 1) := by decide +kernel
theorem dX2_addWord_50 : decode cX2_addWord 50 = .ok (.iaload, 1) := by decide +kernel
theorem dX2_addWord_51 : decode cX2_addWord 51 = .ok (.iadd, 1) := by decide +kernel
theorem dX2_addWord_52 : decode cX2_addWord 52 = .ok (.istore 4, 2) := by decide +kernel
theorem dX2_addWord_54 : decode cX2_addWord 54 = .ok (.iload 4, 2) := by decide +kernel
theorem dX2_addWord_56 : decode cX2_addWord 56 = .ok (.ifCond .lt 23, 3) := by decide +kernel
theorem dX2_addWord_59 : decode cX2_addWord 59 = .ok (.iload 4, 2) := by decide +kernel
theorem dX2_addWord_61 : decode cX2_addWord 61 = .ok (.aload_n 0, 1) := by decide +kernel
theorem dX2_addWord_62 : decode cX2_addWord 62 = .ok (.getfield 9, 3) := by decide +kernel
theorem dX2_addWord_65 : decode cX2_addWord 65 = .ok (.arraylength, 1) := by decide +kernel
theorem dX2_addWord_66 : decode cX2_addWord 66 = .ok (.if_icmp .ge 13, 3) := by decide +kernel
theorem dX2_addWord_69 : decode cX2_addWord 69 = .ok (.iload 4, 2) := by decide +kernel
theorem dX2_addWord_71 : decode cX2_addWord 71 = .ok (.aload_n 0, 1) := by decide +kernel
theorem dX2_addWord_72 : decode cX2_addWord 72 = .ok (.getfield 15, 3) := by decide +kernel
theorem dX2_addWord_75 : decode cX2_addWord 75 = .ok (.arraylength, 1) := by decide +kernel
theorem dX2_addWord_76 : decode cX2_addWord 76 = .ok (.if_icmp .lt 5, 3) := by decide +kernel
theorem dX2_addWord_79 : decode cX2_addWord 79 = .ok (.iconst (-1), 1) := by decide +kernel
theorem dX2_addWord_80 : decode cX2_addWord 80 = .ok (.ireturn, 1) := by decide +kernel
theorem dX2_addWord_81 : decode cX2_addWord 81 = .ok (.aload_n 0, 1) := by decide +kernel
theorem dX2_addWord_82 : decode cX2_addWord 82 = .ok (.getfield 9, 3) := by decide +kernel
theorem dX2_addWord_85 : decode cX2_addWord 85 = .ok (.iload 4, 2) := by decide +kernel
theorem dX2_addWord_87 : decode cX2_addWord 87 = .ok (.iload_n 1, 1) := by decide +kernel
theorem dX2_addWord_88 : decode cX2_addWord 88 = .ok (.iastore, 1) := by decide +kernel
theorem dX2_addWord_89 : decode cX2_addWord 89 = .ok (.aload_n 0, 1) := by decide +kernel
theorem dX2_addWord_90 : decode cX2_addWord 90 = .ok (.getfield 15, 3) := by decide +kernel
theorem dX2_addWord_93 : decode cX2_addWord 93 = .ok (.iload 4, 2) := by decide +kernel
theorem dX2_addWord_95 : decode cX2_addWord 95 = .ok (.iload_n 2, 1) := by decide +kernel
theorem dX2_addWord_96 : decode cX2_addWord 96 = .ok (.iastore, 1) := by decide +kernel
theorem dX2_addWord_97 : decode cX2_addWord 97 = .ok (.aload_n 0, 1) := by decide +kernel
theorem dX2_addWord_98 : decode cX2_addWord 98 = .ok (.getfield 18, 3) := by decide +kernel
theorem dX2_addWord_101 : decode cX2_addWord 101 = .ok (.iload_n 3, 1) := by decide +kernel
theorem dX2_addWord_102 : decode cX2_addWord 102 = .ok (.dup2, 1) := by decide +kernel
theorem dX2_addWord_103 : decode cX2_addWord 103 = .ok (.iaload, 1) := by decide +kernel
theorem dX2_addWord_104 : decode cX2_addWord 104 = .ok (.iconst 1, 1) := by decide +kernel
theorem dX2_addWord_105 : decode cX2_addWord 105 = .ok (.iadd, 1) := by decide +kernel
theorem dX2_addWord_106 : decode cX2_addWord 106 = .ok (.iastore, 1) := by decide +kernel
theorem dX2_addWord_107 : decode cX2_addWord 107 = .ok (.aload_n 0, 1) := by decide +kernel
theorem dX2_addWord_108 : decode cX2_addWord 108 = .ok (.getfield 18, 3) := by decide +kernel
theorem dX2_addWord_111 : decode cX2_addWord 111 = .ok (.iload_n 3, 1) := by decide +kernel
theorem dX2_addWord_112 : decode cX2_addWord 112 = .ok (.iaload, 1) := by decide +kernel
theorem dX2_addWord_113 : decode cX2_addWord 113 = .ok (.ireturn, 1) := by decide +kernel
theorem dX2_wordsIn_0 : decode cX2_wordsIn 0 = .ok (.iload_n 1, 1) := by decide +kernel
theorem dX2_wordsIn_1 : decode cX2_wordsIn 1 = .ok (.ifCond .lt 29, 3) := by decide +kernel
theorem dX2_wordsIn_4 : decode cX2_wordsIn 4 = .ok (.iload_n 1, 1) := by decide +kernel
theorem dX2_wordsIn_5 : decode cX2_wordsIn 5 = .ok (.aload_n 0, 1) := by decide +kernel
theorem dX2_wordsIn_6 : decode cX2_wordsIn 6 = .ok (.getfield 21, 3) := by decide +kernel
theorem dX2_wordsIn_9 : decode cX2_wordsIn 9 = .ok (.if_icmp .ge 21, 3) := by decide +kernel
theorem dX2_wordsIn_12 : decode cX2_wordsIn 12 = .ok (.iload_n 1, 1) := by decide +kernel
theorem dX2_wordsIn_13 : decode cX2_wordsIn 13 = .ok (.aload_n 0, 1) := by decide +kernel
theorem dX2_wordsIn_14 : decode cX2_wordsIn 14 = .ok (.getfield 18, 3) := by decide +kernel
theorem dX2_wordsIn_17 : decode cX2_wordsIn 17 = .ok (.arraylength, 1) := by decide +kernel
theorem dX2_wordsIn_18 : decode cX2_wordsIn 18 = .ok (.if_icmp .ge 12, 3) := by decide +kernel
theorem dX2_wordsIn_21 : decode cX2_wordsIn 21 = .ok (.aload_n 0, 1) := by decide +kernel
theorem dX2_wordsIn_22 : decode cX2_wordsIn 22 = .ok (.getfield 18, 3) := by decide +kernel
theorem dX2_wordsIn_25 : decode cX2_wordsIn 25 = .ok (.iload_n 1, 1) := by decide +kernel
theorem dX2_wordsIn_26 : decode cX2_wordsIn 26 = .ok (.iaload, 1) := by decide +kernel
theorem dX2_wordsIn_27 : decode cX2_wordsIn 27 = .ok (.goto 4, 3) := by decide +kernel
theorem dX2_wordsIn_30 : decode cX2_wordsIn 30 = .ok (.iconst 0, 1) := by decide +kernel
theorem dX2_wordsIn_31 : decode cX2_wordsIn 31 = .ok (.ireturn, 1) := by decide +kernel
theorem dX2_wordAt_0 : decode cX2_wordAt 0 = .ok (.iload_n 1, 1) := by decide +kernel
theorem dX2_wordAt_1 : decode cX2_wordAt 1 = .ok (.iconst 4, 1) := by decide +kernel
theorem dX2_wordAt_2 : decode cX2_wordAt 2 = .ok (.imul, 1) := by decide +kernel
theorem dX2_wordAt_3 : decode cX2_wordAt 3 = .ok (.iload_n 2, 1) := by decide +kernel
theorem dX2_wordAt_4 : decode cX2_wordAt 4 = .ok (.iadd, 1) := by decide +kernel
theorem dX2_wordAt_5 : decode cX2_wordAt 5 = .ok (.istore_n 3, 1) := by decide +kernel
theorem dX2_wordAt_6 : decode cX2_wordAt 6 = .ok (.iload_n 2, 1) := by decide +kernel
theorem dX2_wordAt_7 : decode cX2_wordAt 7 = .ok (.ifCond .lt 30, 3) := by decide +kernel
theorem dX2_wordAt_10 : decode cX2_wordAt 10 = .ok (.iload_n 2, 1) := by decide +kernel
theorem dX2_wordAt_11 : decode cX2_wordAt 11 = .ok (.aload_n 0, 1) := by decide +kernel
theorem dX2_wordAt_12 : decode cX2_wordAt 12 = .ok (.iload_n 1, 1) := by decide +kernel
theorem dX2_wordAt_13 : decode cX2_wordAt 13 = .ok (.invokevirtual 29, 3) := by decide +kernel
theorem dX2_wordAt_16 : decode cX2_wordAt 16 = .ok (.if_icmp .ge 21, 3) := by decide +kernel
theorem dX2_wordAt_19 : decode cX2_wordAt 19 = .ok (.iload_n 3, 1) := by decide +kernel
theorem dX2_wordAt_20 : decode cX2_wordAt 20 = .ok (.aload_n 0, 1) := by decide +kernel
theorem dX2_wordAt_21 : decode cX2_wordAt 21 = .ok (.getfield 9, 3) := by decide +kernel
theorem dX2_wordAt_24 : decode cX2_wordAt 24 = .ok (.arraylength, 1) := by decide +kernel
theorem dX2_wordAt_25 : decode cX2_wordAt 25 = .ok (.if_icmp .ge 12, 3) := by decide +kernel
theorem dX2_wordAt_28 : decode cX2_wordAt 28 = .ok (.aload_n 0, 1) := by decide +kernel
theorem dX2_wordAt_29 : decode cX2_wordAt 29 = .ok (.getfield 9, 3) := by decide +kernel
theorem dX2_wordAt_32 : decode cX2_wordAt 32 = .ok (.iload_n 3, 1) := by decide +kernel
theorem dX2_wordAt_33 : decode cX2_wordAt 33 = .ok (.iaload, 1) := by decide +kernel
theorem dX2_wordAt_34 : decode cX2_wordAt 34 = .ok (.goto 4, 3) := by decide +kernel
theorem dX2_wordAt_37 : decode cX2_wordAt 37 = .ok (.iconst (-1), 1) := by decide +kernel
theorem dX2_wordAt_38 : decode cX2_wordAt 38 = .ok (.ireturn, 1) := by decide +kernel
theorem dX2_costAt_0 : decode cX2_costAt 0 = .ok (.iload_n 1, 1) := by decide +kernel
theorem dX2_costAt_1 : decode cX2_costAt 1 = .ok (.iconst 4, 1) := by decide +kernel
theorem dX2_costAt_2 : decode cX2_costAt 2 = .ok (.imul, 1) := by decide +kernel
theorem dX2_costAt_3 : decode cX2_costAt 3 = .ok (.iload_n 2, 1) := by decide +kernel
theorem dX2_costAt_4 : decode cX2_costAt 4 = .ok (.iadd, 1) := by decide +kernel
theorem dX2_costAt_5 : decode cX2_costAt 5 = .ok (.istore_n 3, 1) := by decide +kernel
theorem dX2_costAt_6 : decode cX2_costAt 6 = .ok (.iload_n 2, 1) := by decide +kernel
theorem dX2_costAt_7 : decode cX2_costAt 7 = .ok (.ifCond .lt 30, 3) := by decide +kernel
theorem dX2_costAt_10 : decode cX2_costAt 10 = .ok (.iload_n 2, 1) := by decide +kernel
theorem dX2_costAt_11 : decode cX2_costAt 11 = .ok (.aload_n 0, 1) := by decide +kernel
theorem dX2_costAt_12 : decode cX2_costAt 12 = .ok (.iload_n 1, 1) := by decide +kernel
theorem dX2_costAt_13 : decode cX2_costAt 13 = .ok (.invokevirtual 29, 3) := by decide +kernel
theorem dX2_costAt_16 : decode cX2_costAt 16 = .ok (.if_icmp .ge 21, 3) := by decide +kernel
theorem dX2_costAt_19 : decode cX2_costAt 19 = .ok (.iload_n 3, 1) := by decide +kernel
theorem dX2_costAt_20 : decode cX2_costAt 20 = .ok (.aload_n 0, 1) := by decide +kernel
theorem dX2_costAt_21 : decode cX2_costAt 21 = .ok (.getfield 15, 3) := by decide +kernel
theorem dX2_costAt_24 : decode cX2_costAt 24 = .ok (.arraylength, 1) := by decide +kernel
theorem dX2_costAt_25 : decode cX2_costAt 25 = .ok (.if_icmp .ge 12, 3) := by decide +kernel
theorem dX2_costAt_28 : decode cX2_costAt 28 = .ok (.aload_n 0, 1) := by decide +kernel
theorem dX2_costAt_29 : decode cX2_costAt 29 = .ok (.getfield 15, 3) := by decide +kernel
theorem dX2_costAt_32 : decode cX2_costAt 32 = .ok (.iload_n 3, 1) := by decide +kernel
theorem dX2_costAt_33 : decode cX2_costAt 33 = .ok (.iaload, 1) := by decide +kernel
theorem dX2_costAt_34 : decode cX2_costAt 34 = .ok (.goto 4, 3) := by decide +kernel
theorem dX2_costAt_37 : decode cX2_costAt 37 = .ok (.iconst (-1), 1) := by decide +kernel
theorem dX2_costAt_38 : decode cX2_costAt 38 = .ok (.ireturn, 1) := by decide +kernel
theorem dX2_costOf_0 : decode cX2_costOf 0 = .ok (.iconst 0, 1) := by decide +kernel
theorem dX2_costOf_1 : decode cX2_costOf 1 = .ok (.istore_n 3, 1) := by decide +kernel
theorem dX2_costOf_2 : decode cX2_costOf 2 = .ok (.iload_n 3, 1) := by decide +kernel
theorem dX2_costOf_3 : decode cX2_costOf 3 = .ok (.aload_n 0, 1) := by decide +kernel
theorem dX2_costOf_4 : decode cX2_costOf 4 = .ok (.iload_n 1, 1) := by decide +kernel
theorem dX2_costOf_5 : decode cX2_costOf 5 = .ok (.invokevirtual 29, 3) := by decide +kernel
theorem dX2_costOf_8 : decode cX2_costOf 8 = .ok (.if_icmp .ge 26, 3) := by decide +kernel
theorem dX2_costOf_11 : decode cX2_costOf 11 = .ok (.aload_n 0, 1) := by decide +kernel
theorem dX2_costOf_12 : decode cX2_costOf 12 = .ok (.iload_n 1, 1) := by decide +kernel
theorem dX2_costOf_13 : decode cX2_costOf 13 = .ok (.iload_n 3, 1) := by decide +kernel
theorem dX2_costOf_14 : decode cX2_costOf 14 = .ok (.invokevirtual 33, 3) := by decide +kernel
theorem dX2_costOf_17 : decode cX2_costOf 17 = .ok (.iload_n 2, 1) := by decide +kernel
theorem dX2_costOf_18 : decode cX2_costOf 18 = .ok (.if_icmp .ne 10, 3) := by decide +kernel
theorem dX2_costOf_21 : decode cX2_costOf 21 = .ok (.aload_n 0, 1) := by decide +kernel
theorem dX2_costOf_22 : decode cX2_costOf 22 = .ok (.iload_n 1, 1) := by decide +kernel
theorem dX2_costOf_23 : decode cX2_costOf 23 = .ok (.iload_n 3, 1) := by decide +kernel
theorem dX2_costOf_24 : decode cX2_costOf 24 = .ok (.invokevirtual 36, 3) := by decide +kernel
theorem dX2_costOf_27 : decode cX2_costOf 27 = .ok (.ireturn, 1) := by decide +kernel
theorem dX2_costOf_28 : decode cX2_costOf 28 = .ok (.iinc 3 1, 3) := by decide +kernel
theorem dX2_costOf_31 : decode cX2_costOf 31 = .ok (.goto (-29), 3) := by decide +kernel
theorem dX2_costOf_34 : decode cX2_costOf 34 = .ok (.iconst (-1), 1) := by decide +kernel
theorem dX2_costOf_35 : decode cX2_costOf 35 = .ok (.ireturn, 1) := by decide +kernel
theorem dX3_init_0 : decode cX3_init 0 = .ok (.aload_n 0, 1) := by decide +kernel
theorem dX3_init_1 : decode cX3_init 1 = .ok (.invokespecial 3, 3) := by decide +kernel
theorem dX3_init_4 : decode cX3_init 4 = .ok (.aload_n 0, 1) := by decide +kernel
theorem dX3_init_5 : decode cX3_init 5 = .ok (.bipush 20, 2) := by decide +kernel
theorem dX3_init_7 : decode cX3_init 7 = .ok (.newarray .int, 2) := by decide +kernel
theorem dX3_init_9 : decode cX3_init 9 = .ok (.putfield 9, 3) := by decide +kernel
theorem dX3_init_12 : decode cX3_init 12 = .ok (.return_, 1) := by decide +kernel
theorem dX3_push_0 : decode cX3_push 0 = .ok (.aload_n 0, 1) := by decide +kernel
theorem dX3_push_1 : decode cX3_push 1 = .ok (.getfield 15, 3) := by decide +kernel
theorem dX3_push_4 : decode cX3_push 4 = .ok (.aload_n 0, 1) := by decide +kernel
theorem dX3_push_5 : decode cX3_push 5 = .ok (.getfield 9, 3) := by decide +kernel
theorem dX3_push_8 : decode cX3_push 8 = .ok (.arraylength, 1) := by decide +kernel
theorem dX3_push_9 : decode cX3_push 9 = .ok (.if_icmp .lt 45, 3) := by decide +kernel
theorem dX3_push_12 : decode cX3_push 12 = .ok (.iconst 1, 1) := by decide +kernel
theorem dX3_push_13 : decode cX3_push 13 = .ok (.istore_n 2, 1) := by decide +kernel
theorem dX3_push_14 : decode cX3_push 14 = .ok (.iload_n 2, 1) := by decide +kernel
theorem dX3_push_15 : decode cX3_push 15 = .ok (.aload_n 0, 1) := by decide +kernel
theorem dX3_push_16 : decode cX3_push 16 = .ok (.getfield 9, 3) := by decide +kernel
theorem dX3_push_19 : decode cX3_push 19 = .ok (.arraylength, 1) := by decide +kernel
theorem dX3_push_20 : decode cX3_push 20 = .ok (.if_icmp .ge 23, 3) := by decide +kernel
theorem dX3_push_23 : decode cX3_push 23 = .ok (.aload_n 0, 1) := by decide +kernel
theorem dX3_push_24 : decode cX3_push 24 = .ok (.getfield 9, 3) := by decide +kernel
theorem dX3_push_27 : decode cX3_push 27 = .ok (.iload_n 2, 1) := by decide +kernel
theorem dX3_push_28 : decode cX3_push 28 = .ok (.iconst 1, 1) := by decide +kernel
theorem dX3_push_29 : decode cX3_push 29 = .ok (.isub, 1) := by decide +kernel
theorem dX3_push_30 : decode cX3_push 30 = .ok (.aload_n 0, 1) := by decide +kernel
theorem dX3_push_31 : decode cX3_push 31 = .ok (.getfield 9, 3) := by decide +kernel
theorem dX3_push_34 : decode cX3_push 34 = .ok (.iload_n 2, 1) := by decide +kernel
theorem dX3_push_35 : decode cX3_push 35 = .ok (.iaload, 1) := by decide +kernel
theorem dX3_push_36 : decode cX3_push 36 = .ok (.iastore, 1) := by decide +kernel
theorem dX3_push_37 : decode cX3_push 37 = .ok (.iinc 2 1, 3) := by decide +kernel
theorem dX3_push_40 : decode cX3_push 40 = .ok (.goto (-26), 3) := by decide +kernel
theorem dX3_push_43 : decode cX3_push 43 = .ok (.aload_n 0, 1) := by decide +kernel
theorem dX3_push_44 : decode cX3_push 44 = .ok (.aload_n 0, 1) := by decide +kernel
theorem dX3_push_45 : decode cX3_push 45 = .ok (.getfield 9, 3) := by decide +kernel
theorem dX3_push_48 : decode cX3_push 48 = .ok (.arraylength, 1) := by decide +kernel
theorem dX3_push_49 : decode cX3_push 49 = .ok (.iconst 1, 1) := by decide +kernel
theorem dX3_push_50 : decode cX3_push 50 = .ok (.isub, 1) := by decide +kernel
theorem dX3_push_51 : decode cX3_push 51 = .ok (.putfield 15, 3) := by decide +kernel
theorem dX3_push_54 : decode cX3_push 54 = .ok (.aload_n 0, 1) := by decide +kernel
theorem dX3_push_55 : decode cX3_push 55 = .ok (.getfield 15, 3) := by decide +kernel
theorem dX3_push_58 : decode cX3_push 58 = .ok (.ifCond .lt 35, 3) := by decide +kernel
theorem dX3_push_61 : decode cX3_push 61 = .ok (.aload_n 0, 1) := by decide +kernel
theorem dX3_push_62 : decode cX3_push 62 = .ok (.getfield 15, 3) := by decide +kernel
theorem dX3_push_65 : decode cX3_push 65 = .ok (.aload_n 0, 1) := by decide +kernel
theorem dX3_push_66 : decode cX3_push 66 = .ok (.getfield 9, 3) := by decide +kernel
theorem dX3_push_69 : decode cX3_push 69 = .ok (.arraylength, 1) := by decide +kernel
theorem dX3_push_70 : decode cX3_push 70 = .ok (.if_icmp .ge 23, 3) := by decide +kernel
theorem dX3_push_73 : decode cX3_push 73 = .ok (.aload_n 0, 1) := by decide +kernel
theorem dX3_push_74 : decode cX3_push 74 = .ok (.getfield 9, 3) := by decide +kernel
theorem dX3_push_77 : decode cX3_push 77 = .ok (.aload_n 0, 1) := by decide +kernel
theorem dX3_push_78 : decode cX3_push 78 = .ok (.getfield 15, 3) := by decide +kernel
theorem dX3_push_81 : decode cX3_push 81 = .ok (.iload_n 1, 1) := by decide +kernel
theorem dX3_push_82 : decode cX3_push 82 = .ok (.iastore, 1) := by decide +kernel
theorem dX3_push_83 : decode cX3_push 83 = .ok (.aload_n 0, 1) := by decide +kernel
theorem dX3_push_84 : decode cX3_push 84 = .ok (.dup, 1) := by decide +kernel
theorem dX3_push_85 : decode cX3_push 85 = .ok (.getfield 15, 3) := by decide +kernel
theorem dX3_push_88 : decode cX3_push 88 = .ok (.iconst 1, 1) := by decide +kernel
theorem dX3_push_89 : decode cX3_push 89 = .ok (.iadd, 1) := by decide +kernel
theorem dX3_push_90 : decode cX3_push 90 = .ok (.putfield 15, 3) := by decide +kernel
theorem dX3_push_93 : decode cX3_push 93 = .ok (.return_, 1) := by decide +kernel
theorem dX3_pop_0 : decode cX3_pop 0 = .ok (.aload_n 0, 1) := by decide +kernel
theorem dX3_pop_1 : decode cX3_pop 1 = .ok (.getfield 15, 3) := by decide +kernel
theorem dX3_pop_4 : decode cX3_pop 4 = .ok (.ifCond .le 15, 3) := by decide +kernel
theorem dX3_pop_7 : decode cX3_pop 7 = .ok (.aload_n 0, 1) := by decide +kernel
theorem dX3_pop_8 : decode cX3_pop 8 = .ok (.getfield 15, 3) := by decide +kernel
theorem dX3_pop_11 : decode cX3_pop 11 = .ok (.aload_n 0, 1) := by decide +kernel
theorem dX3_pop_12 : decode cX3_pop 12 = .ok (.getfield 9, 3) := by decide +kernel
theorem dX3_pop_15 : decode cX3_pop 15 = .ok (.arraylength, 1) := by decide +kernel
theorem dX3_pop_16 : decode cX3_pop 16 = .ok (.if_icmp .le 5, 3) := by decide +kernel
theorem dX3_pop_19 : decode cX3_pop 19 = .ok (.iconst (-1), 1) := by decide +kernel
theorem dX3_pop_20 : decode cX3_pop 20 = .ok (.ireturn, 1) := by decide +kernel
theorem dX3_pop_21 : decode cX3_pop 21 = .ok (.aload_n 0, 1) := by decide +kernel
theorem dX3_pop_22 : decode cX3_pop 22 = .ok (.dup, 1) := by decide +kernel
theorem dX3_pop_23 : decode cX3_pop 23 = .ok (.getfield 15, 3) := by decide +kernel
theorem dX3_pop_26 : decode cX3_pop 26 = .ok (.iconst 1, 1) := by decide +kernel
theorem dX3_pop_27 : decode cX3_pop 27 = .ok (.isub, 1) := by decide +kernel
theorem dX3_pop_28 : decode cX3_pop 28 = .ok (.putfield 15, 3) := by decide +kernel
theorem dX3_pop_31 : decode cX3_pop 31 = .ok (.aload_n 0, 1) := by decide +kernel
theorem dX3_pop_32 : decode cX3_pop 32 = .ok (.getfield 9, 3) := by decide +kernel
theorem dX3_pop_35 : decode cX3_pop 35 = .ok (.aload_n 0, 1) := by decide +kernel
theorem dX3_pop_36 : decode cX3_pop 36 = .ok (.getfield 15, 3) := by decide +kernel
theorem dX3_pop_39 : decode cX3_pop 39 = .ok (.iaload, 1) := by decide +kernel
theorem dX3_pop_40 : decode cX3_pop 40 = .ok (.ireturn, 1) := by decide +kernel
theorem dX4_init_0 : decode cX4_init 0 = .ok (.aload_n 0, 1) := by decide +kernel
theorem dX4_init_1 : decode cX4_init 1 = .ok (.invokespecial 3, 3) := by decide +kernel
theorem dX4_init_4 : decode cX4_init 4 = .ok (.aload_n 0, 1) := by decide +kernel
theorem dX4_init_5 : decode cX4_init 5 = .ok (.aload_n 1, 1) := by decide +kernel
theorem dX4_init_6 : decode cX4_init 6 = .ok (.putfield 9, 3) := by decide +kernel
theorem dX4_init_9 : decode cX4_init 9 = .ok (.aload_n 0, 1) := by decide +kernel
theorem dX4_init_10 : decode cX4_init 10 = .ok (.aload_n 2, 1) := by decide +kernel
theorem dX4_init_11 : decode cX4_init 11 = .ok (.putfield 15, 3) := by decide +kernel
theorem dX4_init_14 : decode cX4_init 14 = .ok (.aload_n 0, 1) := by decide +kernel
theorem dX4_init_15 : decode cX4_init 15 = .ok (.new 19, 3) := by decide +kernel
theorem dX4_init_18 : decode cX4_init 18 = .ok (.dup, 1) := by decide +kernel
theorem dX4_init_19 : decode cX4_init 19 = .ok (.iconst 1, 1) := by decide +kernel
theorem dX4_init_20 : decode cX4_init 20 = .ok (.invokespecial 21, 3) := by decide +kernel
theorem dX4_init_23 : decode cX4_init 23 = .ok (.putfield 24, 3) := by decide +kernel
theorem dX4_init_26 : decode cX4_init 26 = .ok (.aload_n 0, 1) := by decide +kernel
theorem dX4_init_27 : decode cX4_init 27 = .ok (.new 28, 3) := by decide +kernel
theorem dX4_init_30 : decode cX4_init 30 = .ok (.dup, 1) := by decide +kernel
theorem dX4_init_31 : decode cX4_init 31 = .ok (.invokespecial 30, 3) := by decide +kernel
theorem dX4_init_34 : decode cX4_init 34 = .ok (.putfield 31, 3) := by decide +kernel
theorem dX4_init_37 : decode cX4_init 37 = .ok (.aload_n 0, 1) := by decide +kernel
theorem dX4_init_38 : decode cX4_init 38 = .ok (.getfield 24, 3) := by decide +kernel
theorem dX4_init_41 : decode cX4_init 41 = .ok (.invokevirtual 35, 3) := by decide +kernel
theorem dX4_init_44 : decode cX4_init 44 = .ok (.aload_n 0, 1) := by decide +kernel
theorem dX4_init_45 : decode cX4_init 45 = .ok (.bipush 30, 2) := by decide +kernel
end
section
/-! printed: decode rows -/
theorem dX4_init_47 : decode cX4_init 47 = .ok (.putfield 38, 3) := by decide +kernel
theorem dX4_init_50 : decode cX4_init 50 = .ok (.aload_n 0, 1) := by decide +kernel
theorem dX4_init_51 : decode cX4_init 51 = .ok (.iconst 5, 1) := by decide +kernel
theorem dX4_init_52 : decode cX4_init 52 = .ok (.putfield 42, 3) := by decide +kernel
theorem dX4_init_55 : decode cX4_init 55 = .ok (.aload_n 0, 1) := by decide +kernel
theorem dX4_init_56 : decode cX4_init 56 = .ok (.bipush 10, 2) := by decide +kernel
theorem dX4_init_58 : decode cX4_init 58 = .ok (.putfield 45, 3) := by decide +kernel
theorem dX4_init_61 : decode cX4_init 61 = .ok (.return_, 1) := by decide +kernel
theorem dX4_forget_0 : decode cX4_forget 0 = .ok (.aload_n 0, 1) := by decide +kernel
theorem dX4_forget_1 : decode cX4_forget 1 = .ok (.getfield 24, 3) := by decide +kernel
theorem dX4_forget_4 : decode cX4_forget 4 = .ok (.invokevirtual 35, 3) := by decide +kernel
theorem dX4_forget_7 : decode cX4_forget 7 = .ok (.return_, 1) := by decide +kernel
theorem dX4_read_0 : decode cX4_read 0 = .ok (.aload_n 0, 1) := by decide +kernel
theorem dX4_read_1 : decode cX4_read 1 = .ok (.aload_n 0, 1) := by decide +kernel
theorem dX4_read_2 : decode cX4_read 2 = .ok (.getfield 9, 3) := by decide +kernel
theorem dX4_read_5 : decode cX4_read 5 = .ok (.iload_n 1, 1) := by decide +kernel
theorem dX4_read_6 : decode cX4_read 6 = .ok (.invokevirtual 48, 3) := by decide +kernel
theorem dX4_read_9 : decode cX4_read 9 = .ok (.iconst 0, 1) := by decide +kernel
theorem dX4_read_10 : decode cX4_read 10 = .ok (.invokevirtual 54, 3) := by decide +kernel
theorem dX4_read_13 : decode cX4_read 13 = .ok (.aload_n 0, 1) := by decide +kernel
theorem dX4_read_14 : decode cX4_read 14 = .ok (.invokevirtual 58, 3) := by decide +kernel
theorem dX4_read_17 : decode cX4_read 17 = .ok (.aload_n 0, 1) := by decide +kernel
theorem dX4_read_18 : decode cX4_read 18 = .ok (.aload_n 0, 1) := by decide +kernel
theorem dX4_read_19 : decode cX4_read 19 = .ok (.getfield 9, 3) := by decide +kernel
theorem dX4_read_22 : decode cX4_read 22 = .ok (.bipush 7, 2) := by decide +kernel
theorem dX4_read_24 : decode cX4_read 24 = .ok (.invokevirtual 61, 3) := by decide +kernel
theorem dX4_read_27 : decode cX4_read 27 = .ok (.aload_n 0, 1) := by decide +kernel
theorem dX4_read_28 : decode cX4_read 28 = .ok (.aload_n 0, 1) := by decide +kernel
theorem dX4_read_29 : decode cX4_read 29 = .ok (.getfield 9, 3) := by decide +kernel
theorem dX4_read_32 : decode cX4_read 32 = .ok (.iload_n 2, 1) := by decide +kernel
theorem dX4_read_33 : decode cX4_read 33 = .ok (.invokevirtual 48, 3) := by decide +kernel
theorem dX4_read_36 : decode cX4_read 36 = .ok (.bipush 8, 2) := by decide +kernel
theorem dX4_read_38 : decode cX4_read 38 = .ok (.invokevirtual 54, 3) := by decide +kernel
theorem dX4_read_41 : decode cX4_read 41 = .ok (.return_, 1) := by decide +kernel
theorem dX4_found_0 : decode cX4_found 0 = .ok (.aload_n 0, 1) := by decide +kernel
theorem dX4_found_1 : decode cX4_found 1 = .ok (.iload_n 1, 1) := by decide +kernel
theorem dX4_found_2 : decode cX4_found 2 = .ok (.invokevirtual 65, 3) := by decide +kernel
theorem dX4_found_5 : decode cX4_found 5 = .ok (.iconst (-1), 1) := by decide +kernel
theorem dX4_found_6 : decode cX4_found 6 = .ok (.if_icmp .eq 7, 3) := by decide +kernel
theorem dX4_found_9 : decode cX4_found 9 = .ok (.iconst 1, 1) := by decide +kernel
theorem dX4_found_10 : decode cX4_found 10 = .ok (.goto 4, 3) := by decide +kernel
theorem dX4_found_13 : decode cX4_found 13 = .ok (.iconst 0, 1) := by decide +kernel
theorem dX4_found_14 : decode cX4_found 14 = .ok (.ireturn, 1) := by decide +kernel
theorem dX4_key_0 : decode cX4_key 0 = .ok (.aload_n 0, 1) := by decide +kernel
theorem dX4_key_1 : decode cX4_key 1 = .ok (.getfield 24, 3) := by decide +kernel
theorem dX4_key_4 : decode cX4_key 4 = .ok (.iconst 0, 1) := by decide +kernel
theorem dX4_key_5 : decode cX4_key 5 = .ok (.iload_n 1, 1) := by decide +kernel
theorem dX4_key_6 : decode cX4_key 6 = .ok (.invokevirtual 69, 3) := by decide +kernel
theorem dX4_key_9 : decode cX4_key 9 = .ok (.ireturn, 1) := by decide +kernel
theorem dX4_sort_0 : decode cX4_sort 0 = .ok (.aload_n 0, 1) := by decide +kernel
theorem dX4_sort_1 : decode cX4_sort 1 = .ok (.iload_n 1, 1) := by decide +kernel
theorem dX4_sort_2 : decode cX4_sort 2 = .ok (.invokevirtual 72, 3) := by decide +kernel
theorem dX4_sort_5 : decode cX4_sort 5 = .ok (.ifCond .eq 14, 3) := by decide +kernel
theorem dX4_sort_8 : decode cX4_sort 8 = .ok (.aload_n 0, 1) := by decide +kernel
theorem dX4_sort_9 : decode cX4_sort 9 = .ok (.iload_n 1, 1) := by decide +kernel
theorem dX4_sort_10 : decode cX4_sort 10 = .ok (.invokevirtual 65, 3) := by decide +kernel
theorem dX4_sort_13 : decode cX4_sort 13 = .ok (.invokestatic 76, 3) := by decide +kernel
theorem dX4_sort_16 : decode cX4_sort 16 = .ok (.goto 4, 3) := by decide +kernel
theorem dX4_sort_19 : decode cX4_sort 19 = .ok (.iconst (-1), 1) := by decide +kernel
theorem dX4_sort_20 : decode cX4_sort 20 = .ok (.ireturn, 1) := by decide +kernel
theorem dX4_value_0 : decode cX4_value 0 = .ok (.aload_n 0, 1) := by decide +kernel
theorem dX4_value_1 : decode cX4_value 1 = .ok (.iload_n 1, 1) := by decide +kernel
theorem dX4_value_2 : decode cX4_value 2 = .ok (.invokevirtual 72, 3) := by decide +kernel
theorem dX4_value_5 : decode cX4_value 5 = .ok (.ifCond .eq 14, 3) := by decide +kernel
theorem dX4_value_8 : decode cX4_value 8 = .ok (.aload_n 0, 1) := by decide +kernel
theorem dX4_value_9 : decode cX4_value 9 = .ok (.iload_n 1, 1) := by decide +kernel
theorem dX4_value_10 : decode cX4_value 10 = .ok (.invokevirtual 65, 3) := by decide +kernel
theorem dX4_value_13 : decode cX4_value 13 = .ok (.invokestatic 79, 3) := by decide +kernel
theorem dX4_value_16 : decode cX4_value 16 = .ok (.goto 4, 3) := by decide +kernel
theorem dX4_value_19 : decode cX4_value 19 = .ok (.iconst (-1), 1) := by decide +kernel
theorem dX4_value_20 : decode cX4_value 20 = .ok (.ireturn, 1) := by decide +kernel
theorem dX4_cost_0 : decode cX4_cost 0 = .ok (.aload_n 0, 1) := by decide +kernel
theorem dX4_cost_1 : decode cX4_cost 1 = .ok (.iload_n 1, 1) := by decide +kernel
theorem dX4_cost_2 : decode cX4_cost 2 = .ok (.invokevirtual 72, 3) := by decide +kernel
theorem dX4_cost_5 : decode cX4_cost 5 = .ok (.ifCond .eq 15, 3) := by decide +kernel
theorem dX4_cost_8 : decode cX4_cost 8 = .ok (.aload_n 0, 1) := by decide +kernel
theorem dX4_cost_9 : decode cX4_cost 9 = .ok (.getfield 24, 3) := by decide +kernel
theorem dX4_cost_12 : decode cX4_cost 12 = .ok (.iconst 0, 1) := by decide +kernel
theorem dX4_cost_13 : decode cX4_cost 13 = .ok (.iload_n 1, 1) := by decide +kernel
theorem dX4_cost_14 : decode cX4_cost 14 = .ok (.invokevirtual 82, 3) := by decide +kernel
theorem dX4_cost_17 : decode cX4_cost 17 = .ok (.goto 4, 3) := by decide +kernel
theorem dX4_cost_20 : decode cX4_cost 20 = .ok (.iconst (-1), 1) := by decide +kernel
theorem dX4_cost_21 : decode cX4_cost 21 = .ok (.ireturn, 1) := by decide +kernel
theorem dX4_isOtherNear_0 : decode cX4_isOtherNear 0 = .ok (.aload_n 0, 1) := by decide +kernel
theorem dX4_isOtherNear_1 : decode cX4_isOtherNear 1 = .ok (.iconst 0, 1) := by decide +kernel
theorem dX4_isOtherNear_2 : decode cX4_isOtherNear 2 = .ok (.invokevirtual 72, 3) := by decide +kernel
theorem dX4_isOtherNear_5 : decode cX4_isOtherNear 5 = .ok (.ifCond .eq 33, 3) := by decide +kernel
theorem dX4_isOtherNear_8 : decode cX4_isOtherNear 8 = .ok (.aload_n 0, 1) := by decide +kernel
theorem dX4_isOtherNear_9 : decode cX4_isOtherNear 9 = .ok (.iconst 1, 1) := by decide +kernel
theorem dX4_isOtherNear_10 : decode cX4_isOtherNear 10 = .ok (.invokevirtual 72, 3) := by decide +kernel
theorem dX4_isOtherNear_13 : decode cX4_isOtherNear 13 = .ok (.ifCond .eq 25, 3) := by decide +kernel
theorem dX4_isOtherNear_16 : decode cX4_isOtherNear 16 = .ok (.aload_n 0, 1) := by decide +kernel
theorem dX4_isOtherNear_17 : decode cX4_isOtherNear 17 = .ok (.iconst 1, 1) := by decide +kernel
theorem dX4_isOtherNear_18 : decode cX4_isOtherNear 18 = .ok (.invokevirtual 85, 3) := by decide +kernel
theorem dX4_isOtherNear_21 : decode cX4_isOtherNear 21 = .ok (.aload_n 0, 1) := by decide +kernel
theorem dX4_isOtherNear_22 : decode cX4_isOtherNear 22 = .ok (.iconst 0, 1) := by decide +kernel
theorem dX4_isOtherNear_23 : decode cX4_isOtherNear 23 = .ok (.invokevirtual 85, 3) := by decide +kernel
theorem dX4_isOtherNear_26 : decode cX4_isOtherNear 26 = .ok (.aload_n 0, 1) := by decide +kernel
theorem dX4_isOtherNear_27 : decode cX4_isOtherNear 27 = .ok (.getfield 45, 3) := by decide +kernel
theorem dX4_isOtherNear_30 : decode cX4_isOtherNear 30 = .ok (.iadd, 1) := by decide +kernel
theorem dX4_isOtherNear_31 : decode cX4_isOtherNear 31 = .ok (.if_icmp .ge 7, 3) := by decide +kernel
theorem dX4_isOtherNear_34 : decode cX4_isOtherNear 34 = .ok (.iconst 1, 1) := by decide +kernel
theorem dX4_isOtherNear_35 : decode cX4_isOtherNear 35 = .ok (.goto 4, 3) := by decide +kernel
theorem dX4_isOtherNear_38 : decode cX4_isOtherNear 38 = .ok (.iconst 0, 1) := by decide +kernel
theorem dX4_isOtherNear_39 : decode cX4_isOtherNear 39 = .ok (.ireturn, 1) := by decide +kernel
theorem dX4_sortOf_0 : decode cX4_sortOf 0 = .ok (.iload_n 0, 1) := by decide +kernel
theorem dX4_sortOf_1 : decode cX4_sortOf 1 = .ok (.ldc 87, 2) := by decide +kernel
theorem dX4_sortOf_3 : decode cX4_sortOf 3 = .ok (.idiv, 1) := by decide +kernel
theorem dX4_sortOf_4 : decode cX4_sortOf 4 = .ok (.ireturn, 1) := by decide +kernel
theorem dX4_valueOf_0 : decode cX4_valueOf 0 = .ok (.iload_n 0, 1) := by decide +kernel
theorem dX4_valueOf_1 : decode cX4_valueOf 1 = .ok (.ldc 87, 2) := by decide +kernel
theorem dX4_valueOf_3 : decode cX4_valueOf 3 = .ok (.irem, 1) := by decide +kernel
theorem dX4_valueOf_4 : decode cX4_valueOf 4 = .ok (.ireturn, 1) := by decide +kernel
theorem dX4_offerAnswers_0 : decode cX4_offerAnswers 0 = .ok (.aload_n 1, 1) := by decide +kernel
theorem dX4_offerAnswers_1 : decode cX4_offerAnswers 1 = .ok (.ifnonnull 4, 3) := by decide +kernel
theorem dX4_offerAnswers_4 : decode cX4_offerAnswers 4 = .ok (.return_, 1) := by decide +kernel
theorem dX4_offerAnswers_5 : decode cX4_offerAnswers 5 = .ok (.aload_n 1, 1) := by decide +kernel
theorem dX4_offerAnswers_6 : decode cX4_offerAnswers 6 = .ok (.getfield 88, 3) := by decide +kernel
theorem dX4_offerAnswers_9 : decode cX4_offerAnswers 9 = .ok (.ifCond .le 12, 3) := by decide +kernel
theorem dX4_offerAnswers_12 : decode cX4_offerAnswers 12 = .ok (.aload_n 0, 1) := by decide +kernel
theorem dX4_offerAnswers_13 : decode cX4_offerAnswers 13 = .ok (.aload_n 1, 1) := by decide +kernel
theorem dX4_offerAnswers_14 : decode cX4_offerAnswers 14 = .ok (.iload_n 2, 1) := by decide +kernel
theorem dX4_offerAnswers_15 : decode cX4_offerAnswers 15 = .ok (.invokevirtual 93, 3) := by decide +kernel
theorem dX4_offerAnswers_18 : decode cX4_offerAnswers 18 = .ok (.goto 9, 3) := by decide +kernel
theorem dX4_offerAnswers_21 : decode cX4_offerAnswers 21 = .ok (.aload_n 0, 1) := by decide +kernel
theorem dX4_offerAnswers_22 : decode cX4_offerAnswers 22 = .ok (.aload_n 1, 1) := by decide +kernel
theorem dX4_offerAnswers_23 : decode cX4_offerAnswers 23 = .ok (.iload_n 2, 1) := by decide +kernel
theorem dX4_offerAnswers_24 : decode cX4_offerAnswers 24 = .ok (.invokevirtual 61, 3) := by decide +kernel
theorem dX4_offerAnswers_27 : decode cX4_offerAnswers 27 = .ok (.return_, 1) := by decide +kernel
theorem dX4_offerOrders_0 : decode cX4_offerOrders 0 = .ok (.iconst 0, 1) := by decide +kernel
theorem dX4_offerOrders_1 : decode cX4_offerOrders 1 = .ok (.istore_n 1, 1) := by decide +kernel
theorem dX4_offerOrders_2 : decode cX4_offerOrders 2 = .ok (.iload_n 1, 1) := by decide +kernel
theorem dX4_offerOrders_3 : decode cX4_offerOrders 3 = .ok (.aload_n 0, 1) := by decide +kernel
theorem dX4_offerOrders_4 : decode cX4_offerOrders 4 = .ok (.getfield 15, 3) := by decide +kernel
theorem dX4_offerOrders_7 : decode cX4_offerOrders 7 = .ok (.getfield 96, 3) := by decide +kernel
theorem dX4_offerOrders_10 : decode cX4_offerOrders 10 = .ok (.if_icmp .ge 76, 3) := by decide +kernel
theorem dX4_offerOrders_13 : decode cX4_offerOrders 13 = .ok (.iconst 0, 1) := by decide +kernel
theorem dX4_offerOrders_14 : decode cX4_offerOrders 14 = .ok (.istore_n 2, 1) := by decide +kernel
theorem dX4_offerOrders_15 : decode cX4_offerOrders 15 = .ok (.iload_n 2, 1) := by decide +kernel
theorem dX4_offerOrders_16 : decode cX4_offerOrders 16 = .ok (.aload_n 0, 1) := by decide +kernel
theorem dX4_offerOrders_17 : decode cX4_offerOrders 17 = .ok (.getfield 15, 3) := by decide +kernel
theorem dX4_offerOrders_20 : decode cX4_offerOrders 20 = .ok (.iload_n 1, 1) := by decide +kernel
theorem dX4_offerOrders_21 : decode cX4_offerOrders 21 = .ok (.invokevirtual 101, 3) := by decide +kernel
theorem dX4_offerOrders_24 : decode cX4_offerOrders 24 = .ok (.if_icmp .ge 56, 3) := by decide +kernel
theorem dX4_offerOrders_27 : decode cX4_offerOrders 27 = .ok (.aload_n 0, 1) := by decide +kernel
theorem dX4_offerOrders_28 : decode cX4_offerOrders 28 = .ok (.getfield 15, 3) := by decide +kernel
theorem dX4_offerOrders_31 : decode cX4_offerOrders 31 = .ok (.iload_n 1, 1) := by decide +kernel
theorem dX4_offerOrders_32 : decode cX4_offerOrders 32 = .ok (.iload_n 2, 1) := by decide +kernel
theorem dX4_offerOrders_33 : decode cX4_offerOrders 33 = .ok (.invokevirtual 104, 3) := by decide +kernel
theorem dX4_offerOrders_36 : decode cX4_offerOrders 36 = .ok (.istore_n 3, 1) := by decide +kernel
theorem dX4_offerOrders_37 : decode cX4_offerOrders 37 = .ok (.iload_n 3, 1) := by decide +kernel
theorem dX4_offerOrders_38 : decode cX4_offerOrders 38 = .ok (.bipush 11, 2) := by decide +kernel
theorem dX4_offerOrders_40 : decode cX4_offerOrders 40 = .ok (.if_icmp .lt 34, 3) := by decide +kernel
theorem dX4_offerOrders_43 : decode cX4_offerOrders 43 = .ok (.iload_n 3, 1) := by decide +kernel
theorem dX4_offerOrders_44 : decode cX4_offerOrders 44 = .ok (.bipush 16, 2) := by decide +kernel
theorem dX4_offerOrders_46 : decode cX4_offerOrders 46 = .ok (.if_icmp .gt 28, 3) := by decide +kernel
theorem dX4_offerOrders_49 : decode cX4_offerOrders 49 = .ok (.aload_n 0, 1) := by decide +kernel
theorem dX4_offerOrders_50 : decode cX4_offerOrders 50 = .ok (.iconst 1, 1) := by decide +kernel
theorem dX4_offerOrders_51 : decode cX4_offerOrders 51 = .ok (.iload_n 3, 1) := by decide +kernel
theorem dX4_offerOrders_52 : decode cX4_offerOrders 52 = .ok (.iadd, 1) := by decide +kernel
theorem dX4_offerOrders_53 : decode cX4_offerOrders 53 = .ok (.bipush 11, 2) := by decide +kernel
theorem dX4_offerOrders_55 : decode cX4_offerOrders 55 = .ok (.isub, 1) := by decide +kernel
theorem dX4_offerOrders_56 : decode cX4_offerOrders 56 = .ok (.iconst 0, 1) := by decide +kernel
theorem dX4_offerOrders_57 : decode cX4_offerOrders 57 = .ok (.aload_n 0, 1) := by decide +kernel
theorem dX4_offerOrders_58 : decode cX4_offerOrders 58 = .ok (.getfield 15, 3) := by decide +kernel
theorem dX4_offerOrders_61 : decode cX4_offerOrders 61 = .ok (.iload_n 1, 1) := by decide +kernel
theorem dX4_offerOrders_62 : decode cX4_offerOrders 62 = .ok (.iload_n 2, 1) := by decide +kernel
theorem dX4_offerOrders_63 : decode cX4_offerOrders 63 = .ok (.invokevirtual 107, 3) := by decide +kernel
theorem dX4_offerOrders_66 : decode cX4_offerOrders 66 = .ok (.aload_n 0, 1) := by decide +kernel
theorem dX4_offerOrders_67 : decode cX4_offerOrders 67 = .ok (.getfield 38, 3) := by decide +kernel
theorem dX4_offerOrders_70 : decode cX4_offerOrders 70 = .ok (.isub, 1) := by decide +kernel
theorem dX4_offerOrders_71 : decode cX4_offerOrders 71 = .ok (.invokevirtual 110, 3) := by decide +kernel
theorem dX4_offerOrders_74 : decode cX4_offerOrders 74 = .ok (.iinc 2 1, 3) := by decide +kernel
theorem dX4_offerOrders_77 : decode cX4_offerOrders 77 = .ok (.goto (-62), 3) := by decide +kernel
theorem dX4_offerOrders_80 : decode cX4_offerOrders 80 = .ok (.iinc 1 1, 3) := by decide +kernel
theorem dX4_offerOrders_83 : decode cX4_offerOrders 83 = .ok (.goto (-81), 3) := by decide +kernel
theorem dX4_offerOrders_86 : decode cX4_offerOrders 86 = .ok (.return_, 1) := by decide +kernel
theorem dX4_offerListed_0 : decode cX4_offerListed 0 = .ok (.iload_n 2, 1) := by decide +kernel
theorem dX4_offerListed_1 : decode cX4_offerListed 1 = .ok (.invokestatic 114, 3) := by decide +kernel
theorem dX4_offerListed_4 : decode cX4_offerListed 4 = .ok (.istore_n 3, 1) := by decide +kernel
theorem dX4_offerListed_5 : decode cX4_offerListed 5 = .ok (.iconst 0, 1) := by decide +kernel
theorem dX4_offerListed_6 : decode cX4_offerListed 6 = .ok (.istore 4, 2) := by decide +kernel
theorem dX4_offerListed_8 : decode cX4_offerListed 8 = .ok (.iload 4, 2) := by decide +kernel
theorem dX4_offerListed_10 : decode cX4_offerListed 10 = .ok (.aload_n 0, 1) := by decide +kernel
theorem dX4_offerListed_11 : decode cX4_offerListed 11 = .ok (.getfield 15, 3) := by decide +kernel
theorem dX4_offerListed_14 : decode cX4_offerListed 14 = .ok (.getfield 96, 3) := by decide +kernel
theorem dX4_offerListed_17 : decode cX4_offerListed 17 = .ok (.if_icmp .ge 100, 3) := by decide +kernel
theorem dX4_offerListed_20 : decode cX4_offerListed 20 = .ok (.iconst 0, 1) := by decide +kernel
theorem dX4_offerListed_21 : decode cX4_offerListed 21 = .ok (.istore 5, 2) := by decide +kernel
theorem dX4_offerListed_23 : decode cX4_offerListed 23 = .ok (.iload 5, 2) := by decide +kernel
theorem dX4_offerListed_25 : decode cX4_offerListed 25 = .ok (.aload_n 0, 1) := by decide +kernel
theorem dX4_offerListed_26 : decode cX4_offerListed 26 = .ok (.getfield 15, 3) := by decide +kernel
theorem dX4_offerListed_29 : decode cX4_offerListed 29 = .ok (.iload 4, 2) := by decide +kernel
theorem dX4_offerListed_31 : decode cX4_offerListed 31 = .ok (.invokevirtual 101, 3) := by decide +kernel
theorem dX4_offerListed_34 : decode cX4_offerListed 34 = .ok (.if_icmp .ge 65, 3) := by decide +kernel
theorem dX4_offerListed_37 : decode cX4_offerListed 37 = .ok (.iload_n 3, 1) := by decide +kernel
theorem dX4_offerListed_38 : decode cX4_offerListed 38 = .ok (.ldc 117, 2) := by decide +kernel
theorem dX4_offerListed_40 : decode cX4_offerListed 40 = .ok (.if_icmp .ge 59, 3) := by decide +kernel
theorem dX4_offerListed_43 : decode cX4_offerListed 43 = .ok (.aload_n 1, 1) := by decide +kernel
theorem dX4_offerListed_44 : decode cX4_offerListed 44 = .ok (.aload_n 0, 1) := by decide +kernel
theorem dX4_offerListed_45 : decode cX4_offerListed 45 = .ok (.getfield 15, 3) := by decide +kernel
theorem dX4_offerListed_48 : decode cX4_offerListed 48 = .ok (.iload 4, 2) := by decide +kernel
theorem dX4_offerListed_50 : decode cX4_offerListed 50 = .ok (.iload 5, 2) := by decide +kernel
theorem dX4_offerListed_52 : decode cX4_offerListed 52 = .ok (.invokevirtual 104, 3) := by decide +kernel
theorem dX4_offerListed_55 : decode cX4_offerListed 55 = .ok (.invokeinterface 118 2, 5) := by decide +kernel
theorem dX4_offerListed_60 : decode cX4_offerListed 60 = .ok (.istore 6, 2) := by decide +kernel
theorem dX4_offerListed_62 : decode cX4_offerListed 62 = .ok (.iload 6, 2) := by decide +kernel
theorem dX4_offerListed_64 : decode cX4_offerListed 64 = .ok (.iconst (-1), 1) := by decide +kernel
theorem dX4_offerListed_65 : decode cX4_offerListed 65 = .ok (.if_icmp .eq 28, 3) := by decide +kernel
theorem dX4_offerListed_68 : decode cX4_offerListed 68 = .ok (.aload_n 0, 1) := by decide +kernel
theorem dX4_offerListed_69 : decode cX4_offerListed 69 = .ok (.iload_n 2, 1) := by decide +kernel
theorem dX4_offerListed_70 : decode cX4_offerListed 70 = .ok (.iload 6, 2) := by decide +kernel
theorem dX4_offerListed_72 : decode cX4_offerListed 72 = .ok (.iload_n 3, 1) := by decide +kernel
theorem dX4_offerListed_73 : decode cX4_offerListed 73 = .ok (.aload_n 0, 1) := by decide +kernel
theorem dX4_offerListed_74 : decode cX4_offerListed 74 = .ok (.getfield 15, 3) := by decide +kernel
theorem dX4_offerListed_77 : decode cX4_offerListed 77 = .ok (.iload 4, 2) := by decide +kernel
theorem dX4_offerListed_79 : decode cX4_offerListed 79 = .ok (.iload 5, 2) := by decide +kernel
theorem dX4_offerListed_81 : decode cX4_offerListed 81 = .ok (.invokevirtual 107, 3) := by decide +kernel
theorem dX4_offerListed_84 : decode cX4_offerListed 84 = .ok (.iadd, 1) := by decide +kernel
theorem dX4_offerListed_85 : decode cX4_offerListed 85 = .ok (.aload_n 0, 1) := by decide +kernel
theorem dX4_offerListed_86 : decode cX4_offerListed 86 = .ok (.getfield 38, 3) := by decide +kernel
theorem dX4_offerListed_89 : decode cX4_offerListed 89 = .ok (.isub, 1) := by decide +kernel
theorem dX4_offerListed_90 : decode cX4_offerListed 90 = .ok (.invokevirtual 110, 3) := by decide +kernel
theorem dX4_offerListed_93 : decode cX4_offerListed 93 = .ok (.iinc 5 1, 3) := by decide +kernel
theorem dX4_offerListed_96 : decode cX4_offerListed 96 = .ok (.goto (-73), 3) := by decide +kernel
theorem dX4_offerListed_99 : decode cX4_offerListed 99 = .ok (.iload_n 3, 1) := by decide +kernel
theorem dX4_offerListed_100 : decode cX4_offerListed 100 = .ok (.aload_n 0, 1) := by decide +kernel
theorem dX4_offerListed_101 : decode cX4_offerListed 101 = .ok (.iload 4, 2) := by decide +kernel
theorem dX4_offerListed_103 : decode cX4_offerListed 103 = .ok (.iload_n 2, 1) := by decide +kernel
theorem dX4_offerListed_104 : decode cX4_offerListed 104 = .ok (.invokevirtual 123, 3) := by decide +kernel
theorem dX4_offerListed_107 : decode cX4_offerListed 107 = .ok (.invokestatic 126, 3) := by decide +kernel
theorem dX4_offerListed_110 : decode cX4_offerListed 110 = .ok (.istore_n 3, 1) := by decide +kernel
theorem dX4_offerListed_111 : decode cX4_offerListed 111 = .ok (.iinc 4 1, 3) := by decide +kernel
theorem dX4_offerListed_114 : decode cX4_offerListed 114 = .ok (.goto (-106), 3) := by decide +kernel
theorem dX4_offerListed_117 : decode cX4_offerListed 117 = .ok (.return_, 1) := by decide +kernel
theorem dX4_offerDigits_0 : decode cX4_offerDigits 0 = .ok (.aload_n 0, 1) := by decide +kernel
theorem dX4_offerDigits_1 : decode cX4_offerDigits 1 = .ok (.getfield 15, 3) := by decide +kernel
theorem dX4_offerDigits_4 : decode cX4_offerDigits 4 = .ok (.getfield 96, 3) := by decide +kernel
theorem dX4_offerDigits_7 : decode cX4_offerDigits 7 = .ok (.aload_n 1, 1) := by decide +kernel
theorem dX4_offerDigits_8 : decode cX4_offerDigits 8 = .ok (.getfield 88, 3) := by decide +kernel
theorem dX4_offerDigits_11 : decode cX4_offerDigits 11 = .ok (.if_icmp .ge 4, 3) := by decide +kernel
theorem dX4_offerDigits_14 : decode cX4_offerDigits 14 = .ok (.return_, 1) := by decide +kernel
theorem dX4_offerDigits_15 : decode cX4_offerDigits 15 = .ok (.aload_n 0, 1) := by decide +kernel
theorem dX4_offerDigits_16 : decode cX4_offerDigits 16 = .ok (.getfield 31, 3) := by decide +kernel
theorem dX4_offerDigits_19 : decode cX4_offerDigits 19 = .ok (.aload_n 1, 1) := by decide +kernel
theorem dX4_offerDigits_20 : decode cX4_offerDigits 20 = .ok (.getfield 88, 3) := by decide +kernel
theorem dX4_offerDigits_23 : decode cX4_offerDigits 23 = .ok (.aload_n 1, 1) := by decide +kernel
theorem dX4_offerDigits_24 : decode cX4_offerDigits 24 = .ok (.getfield 131, 3) := by decide +kernel
theorem dX4_offerDigits_27 : decode cX4_offerDigits 27 = .ok (.invokevirtual 135, 3) := by decide +kernel
theorem dX4_offerDigits_30 : decode cX4_offerDigits 30 = .ok (.iload_n 2, 1) := by decide +kernel
theorem dX4_offerDigits_31 : decode cX4_offerDigits 31 = .ok (.invokestatic 114, 3) := by decide +kernel
theorem dX4_offerDigits_34 : decode cX4_offerDigits 34 = .ok (.istore_n 3, 1) := by decide +kernel
theorem dX4_offerDigits_35 : decode cX4_offerDigits 35 = .ok (.iload_n 3, 1) := by decide +kernel
theorem dX4_offerDigits_36 : decode cX4_offerDigits 36 = .ok (.ldc 117, 2) := by decide +kernel
theorem dX4_offerDigits_38 : decode cX4_offerDigits 38 = .ok (.if_icmp .ge 11, 3) := by decide +kernel
theorem dX4_offerDigits_41 : decode cX4_offerDigits 41 = .ok (.aload_n 0, 1) := by decide +kernel
theorem dX4_offerDigits_42 : decode cX4_offerDigits 42 = .ok (.getfield 31, 3) := by decide +kernel
theorem dX4_offerDigits_45 : decode cX4_offerDigits 45 = .ok (.iload_n 3, 1) := by decide +kernel
theorem dX4_offerDigits_46 : decode cX4_offerDigits 46 = .ok (.invokevirtual 138, 3) := by decide +kernel
theorem dX4_offerDigits_49 : decode cX4_offerDigits 49 = .ok (.iconst 0, 1) := by decide +kernel
theorem dX4_offerDigits_50 : decode cX4_offerDigits 50 = .ok (.istore 4, 2) := by decide +kernel
theorem dX4_offerDigits_52 : decode cX4_offerDigits 52 = .ok (.iload 4, 2) := by decide +kernel
theorem dX4_offerDigits_54 : decode cX4_offerDigits 54 = .ok (.aload_n 0, 1) := by decide +kernel
theorem dX4_offerDigits_55 : decode cX4_offerDigits 55 = .ok (.getfield 15, 3) := by decide +kernel
theorem dX4_offerDigits_58 : decode cX4_offerDigits 58 = .ok (.getfield 96, 3) := by decide +kernel
theorem dX4_offerDigits_61 : decode cX4_offerDigits 61 = .ok (.if_icmp .ge 48, 3) := by decide +kernel
theorem dX4_offerDigits_64 : decode cX4_offerDigits 64 = .ok (.aload_n 0, 1) := by decide +kernel
theorem dX4_offerDigits_65 : decode cX4_offerDigits 65 = .ok (.getfield 31, 3) := by decide +kernel
theorem dX4_offerDigits_68 : decode cX4_offerDigits 68 = .ok (.aload_n 0, 1) := by decide +kernel
theorem dX4_offerDigits_69 : decode cX4_offerDigits 69 = .ok (.getfield 15, 3) := by decide +kernel
theorem dX4_offerDigits_72 : decode cX4_offerDigits 72 = .ok (.iload 4, 2) := by decide +kernel
theorem dX4_offerDigits_74 : decode cX4_offerDigits 74 = .ok (.aload_n 0, 1) := by decide +kernel
theorem dX4_offerDigits_75 : decode cX4_offerDigits 75 = .ok (.getfield 38, 3) := by decide +kernel
theorem dX4_offerDigits_78 : decode cX4_offerDigits 78 = .ok (.invokevirtual 141, 3) := by decide +kernel
theorem dX4_offerDigits_81 : decode cX4_offerDigits 81 = .ok (.aload_n 0, 1) := by decide +kernel
theorem dX4_offerDigits_82 : decode cX4_offerDigits 82 = .ok (.iload 4, 2) := by decide +kernel
theorem dX4_offerDigits_84 : decode cX4_offerDigits 84 = .ok (.iload_n 2, 1) := by decide +kernel
theorem dX4_offerDigits_85 : decode cX4_offerDigits 85 = .ok (.invokevirtual 123, 3) := by decide +kernel
theorem dX4_offerDigits_88 : decode cX4_offerDigits 88 = .ok (.istore_n 3, 1) := by decide +kernel
theorem dX4_offerDigits_89 : decode cX4_offerDigits 89 = .ok (.iload_n 3, 1) := by decide +kernel
theorem dX4_offerDigits_90 : decode cX4_offerDigits 90 = .ok (.ldc 117, 2) := by decide +kernel
theorem dX4_offerDigits_92 : decode cX4_offerDigits 92 = .ok (.if_icmp .ge 11, 3) := by decide +kernel
theorem dX4_offerDigits_95 : decode cX4_offerDigits 95 = .ok (.aload_n 0, 1) := by decide +kernel
theorem dX4_offerDigits_96 : decode cX4_offerDigits 96 = .ok (.getfield 31, 3) := by decide +kernel
theorem dX4_offerDigits_99 : decode cX4_offerDigits 99 = .ok (.iload_n 3, 1) := by decide +kernel
theorem dX4_offerDigits_100 : decode cX4_offerDigits 100 = .ok (.invokevirtual 138, 3) := by decide +kernel
theorem dX4_offerDigits_103 : decode cX4_offerDigits 103 = .ok (.iinc 4 1, 3) := by decide +kernel
theorem dX4_offerDigits_106 : decode cX4_offerDigits 106 = .ok (.goto (-54), 3) := by decide +kernel
theorem dX4_offerDigits_109 : decode cX4_offerDigits 109 = .ok (.iconst 0, 1) := by decide +kernel
theorem dX4_offerDigits_110 : decode cX4_offerDigits 110 = .ok (.istore 4, 2) := by decide +kernel
theorem dX4_offerDigits_112 : decode cX4_offerDigits 112 = .ok (.iload 4, 2) := by decide +kernel
theorem dX4_offerDigits_114 : decode cX4_offerDigits 114 = .ok (.iconst 2, 1) := by decide +kernel
theorem dX4_offerDigits_115 : decode cX4_offerDigits 115 = .ok (.if_icmp .ge 46, 3) := by decide +kernel
theorem dX4_offerDigits_118 : decode cX4_offerDigits 118 = .ok (.aload_n 0, 1) := by decide +kernel
theorem dX4_offerDigits_119 : decode cX4_offerDigits 119 = .ok (.getfield 31, 3) := by decide +kernel
theorem dX4_offerDigits_122 : decode cX4_offerDigits 122 = .ok (.iload 4, 2) := by decide +kernel
theorem dX4_offerDigits_124 : decode cX4_offerDigits 124 = .ok (.invokevirtual 145, 3) := by decide +kernel
theorem dX4_offerDigits_127 : decode cX4_offerDigits 127 = .ok (.ldc 117, 2) := by decide +kernel
theorem dX4_offerDigits_129 : decode cX4_offerDigits 129 = .ok (.if_icmp .ge 26, 3) := by decide +kernel
theorem dX4_offerDigits_132 : decode cX4_offerDigits 132 = .ok (.aload_n 0, 1) := by decide +kernel
theorem dX4_offerDigits_133 : decode cX4_offerDigits 133 = .ok (.iload_n 2, 1) := by decide +kernel
theorem dX4_offerDigits_134 : decode cX4_offerDigits 134 = .ok (.aload_n 0, 1) := by decide +kernel
theorem dX4_offerDigits_135 : decode cX4_offerDigits 135 = .ok (.getfield 31, 3) := by decide +kernel
theorem dX4_offerDigits_138 : decode cX4_offerDigits 138 = .ok (.iload 4, 2) := by decide +kernel
theorem dX4_offerDigits_140 : decode cX4_offerDigits 140 = .ok (.invokevirtual 146, 3) := by decide +kernel
theorem dX4_offerDigits_143 : decode cX4_offerDigits 143 = .ok (.aload_n 0, 1) := by decide +kernel
theorem dX4_offerDigits_144 : decode cX4_offerDigits 144 = .ok (.getfield 31, 3) := by decide +kernel
theorem dX4_offerDigits_147 : decode cX4_offerDigits 147 = .ok (.iload 4, 2) := by decide +kernel
theorem dX4_offerDigits_149 : decode cX4_offerDigits 149 = .ok (.invokevirtual 145, 3) := by decide +kernel
theorem dX4_offerDigits_152 : decode cX4_offerDigits 152 = .ok (.invokevirtual 110, 3) := by decide +kernel
theorem dX4_offerDigits_155 : decode cX4_offerDigits 155 = .ok (.iinc 4 1, 3) := by decide +kernel
theorem dX4_offerDigits_158 : decode cX4_offerDigits 158 = .ok (.goto (-46), 3) := by decide +kernel
theorem dX4_offerDigits_161 : decode cX4_offerDigits 161 = .ok (.return_, 1) := by decide +kernel
theorem dX4_leadAtFirst_0 : decode cX4_leadAtFirst 0 = .ok (.iload_n 0, 1) := by decide +kernel
theorem dX4_leadAtFirst_1 : decode cX4_leadAtFirst 1 = .ok (.ifCond .ne 7, 3) := by decide +kernel
theorem dX4_leadAtFirst_4 : decode cX4_leadAtFirst 4 = .ok (.iconst 0, 1) := by decide +kernel
theorem dX4_leadAtFirst_5 : decode cX4_leadAtFirst 5 = .ok (.goto 5, 3) := by decide +kernel
theorem dX4_leadAtFirst_8 : decode cX4_leadAtFirst 8 = .ok (.ldc 117, 2) := by decide +kernel
theorem dX4_leadAtFirst_10 : decode cX4_leadAtFirst 10 = .ok (.ireturn, 1) := by decide +kernel
theorem dX4_leadIn_0 : decode cX4_leadIn 0 = .ok (.iload_n 2, 1) := by decide +kernel
theorem dX4_leadIn_1 : decode cX4_leadIn 1 = .ok (.ifCond .ne 6, 3) := by decide +kernel
theorem dX4_leadIn_4 : decode cX4_leadIn 4 = .ok (.ldc 117, 2) := by decide +kernel
theorem dX4_leadIn_6 : decode cX4_leadIn 6 = .ok (.ireturn, 1) := by decide +kernel
theorem dX4_leadIn_7 : decode cX4_leadIn 7 = .ok (.aload_n 0, 1) := by decide +kernel
theorem dX4_leadIn_8 : decode cX4_leadIn 8 = .ok (.getfield 15, 3) := by decide +kernel
theorem dX4_leadIn_11 : decode cX4_leadIn 11 = .ok (.iload_n 1, 1) := by decide +kernel
theorem dX4_leadIn_12 : decode cX4_leadIn 12 = .ok (.iload_n 2, 1) := by decide +kernel
theorem dX4_leadIn_13 : decode cX4_leadIn 13 = .ok (.bipush 7, 2) := by decide +kernel
theorem dX4_leadIn_15 : decode cX4_leadIn 15 = .ok (.if_icmp .ne 8, 3) := by decide +kernel
theorem dX4_leadIn_18 : decode cX4_leadIn 18 = .ok (.bipush 17, 2) := by decide +kernel
theorem dX4_leadIn_20 : decode cX4_leadIn 20 = .ok (.goto 5, 3) := by decide +kernel
theorem dX4_leadIn_23 : decode cX4_leadIn 23 = .ok (.bipush 16, 2) := by decide +kernel
theorem dX4_leadIn_25 : decode cX4_leadIn 25 = .ok (.invokevirtual 149, 3) := by decide +kernel
theorem dX4_leadIn_28 : decode cX4_leadIn 28 = .ok (.istore_n 3, 1) := by decide +kernel
theorem dX4_leadIn_29 : decode cX4_leadIn 29 = .ok (.iload_n 3, 1) := by decide +kernel
theorem dX4_leadIn_30 : decode cX4_leadIn 30 = .ok (.iconst (-1), 1) := by decide +kernel
theorem dX4_leadIn_31 : decode cX4_leadIn 31 = .ok (.if_icmp .ne 8, 3) := by decide +kernel
theorem dX4_leadIn_34 : decode cX4_leadIn 34 = .ok (.ldc 117, 2) := by decide +kernel
theorem dX4_leadIn_36 : decode cX4_leadIn 36 = .ok (.goto 9, 3) := by decide +kernel
theorem dX4_leadIn_39 : decode cX4_leadIn 39 = .ok (.iload_n 3, 1) := by decide +kernel
theorem dX4_leadIn_40 : decode cX4_leadIn 40 = .ok (.aload_n 0, 1) := by decide +kernel
theorem dX4_leadIn_41 : decode cX4_leadIn 41 = .ok (.getfield 38, 3) := by decide +kernel
theorem dX4_leadIn_44 : decode cX4_leadIn 44 = .ok (.isub, 1) := by decide +kernel
theorem dX4_leadIn_45 : decode cX4_leadIn 45 = .ok (.ireturn, 1) := by decide +kernel
theorem dX4_offer_0 : decode cX4_offer 0 = .ok (.aload_n 0, 1) := by decide +kernel
theorem dX4_offer_1 : decode cX4_offer 1 = .ok (.getfield 15, 3) := by decide +kernel
theorem dX4_offer_4 : decode cX4_offer 4 = .ok (.getfield 96, 3) := by decide +kernel
theorem dX4_offer_7 : decode cX4_offer 7 = .ok (.aload_n 0, 1) := by decide +kernel
theorem dX4_offer_8 : decode cX4_offer 8 = .ok (.getfield 38, 3) := by decide +kernel
theorem dX4_offer_11 : decode cX4_offer 11 = .ok (.imul, 1) := by decide +kernel
theorem dX4_offer_12 : decode cX4_offer 12 = .ok (.iload_n 3, 1) := by decide +kernel
theorem dX4_offer_13 : decode cX4_offer 13 = .ok (.iadd, 1) := by decide +kernel
theorem dX4_offer_14 : decode cX4_offer 14 = .ok (.iload_n 1, 1) := by decide +kernel
theorem dX4_offer_15 : decode cX4_offer 15 = .ok (.ifCond .ne 7, 3) := by decide +kernel
theorem dX4_offer_18 : decode cX4_offer 18 = .ok (.iconst 0, 1) := by decide +kernel
theorem dX4_offer_19 : decode cX4_offer 19 = .ok (.goto 7, 3) := by decide +kernel
theorem dX4_offer_22 : decode cX4_offer 22 = .ok (.aload_n 0, 1) := by decide +kernel
theorem dX4_offer_23 : decode cX4_offer 23 = .ok (.getfield 42, 3) := by decide +kernel
theorem dX4_offer_26 : decode cX4_offer 26 = .ok (.iadd, 1) := by decide +kernel
theorem dX4_offer_27 : decode cX4_offer 27 = .ok (.istore 4, 2) := by decide +kernel
theorem dX4_offer_29 : decode cX4_offer 29 = .ok (.aload_n 0, 1) := by decide +kernel
theorem dX4_offer_30 : decode cX4_offer 30 = .ok (.getfield 24, 3) := by decide +kernel
theorem dX4_offer_33 : decode cX4_offer 33 = .ok (.iconst 0, 1) := by decide +kernel
theorem dX4_offer_34 : decode cX4_offer 34 = .ok (.iload 4, 2) := by decide +kernel
theorem dX4_offer_36 : decode cX4_offer 36 = .ok (.iload_n 1, 1) := by decide +kernel
theorem dX4_offer_37 : decode cX4_offer 37 = .ok (.ldc 87, 2) := by decide +kernel
theorem dX4_offer_39 : decode cX4_offer 39 = .ok (.imul, 1) := by decide +kernel
theorem dX4_offer_40 : decode cX4_offer 40 = .ok (.iload_n 2, 1) := by decide +kernel
theorem dX4_offer_41 : decode cX4_offer 41 = .ok (.iadd, 1) := by decide +kernel
theorem dX4_offer_42 : decode cX4_offer 42 = .ok (.invokevirtual 152, 3) := by decide +kernel
theorem dX4_offer_45 : decode cX4_offer 45 = .ok (.return_, 1) := by decide +kernel
theorem dX5_init_0 : decode cX5_init 0 = .ok (.aload_n 0, 1) := by decide +kernel
theorem dX5_init_1 : decode cX5_init 1 = .ok (.invokespecial 3, 3) := by decide +kernel
theorem dX5_init_4 : decode cX5_init 4 = .ok (.aload_n 0, 1) := by decide +kernel
theorem dX5_init_5 : decode cX5_init 5 = .ok (.bipush 6, 2) := by decide +kernel
theorem dX5_init_7 : decode cX5_init 7 = .ok (.newarray .int, 2) := by decide +kernel
theorem dX5_init_9 : decode cX5_init 9 = .ok (.putfield 9, 3) := by decide +kernel
theorem dX5_init_12 : decode cX5_init 12 = .ok (.aload_n 0, 1) := by decide +kernel
theorem dX5_init_13 : decode cX5_init 13 = .ok (.iconst (-1), 1) := by decide +kernel
theorem dX5_init_14 : decode cX5_init 14 = .ok (.putfield 15, 3) := by decide +kernel
theorem dX5_init_17 : decode cX5_init 17 = .ok (.return_, 1) := by decide +kernel
theorem dX5_numberOf_0 : decode cX5_numberOf 0 = .ok (.iconst 0, 1) := by decide +kernel
theorem dX5_numberOf_1 : decode cX5_numberOf 1 = .ok (.istore_n 2, 1) := by decide +kernel
theorem dX5_numberOf_2 : decode cX5_numberOf 2 = .ok (.iload_n 2, 1) := by decide +kernel
theorem dX5_numberOf_3 : decode cX5_numberOf 3 = .ok (.aload_n 0, 1) := by decide +kernel
theorem dX5_numberOf_4 : decode cX5_numberOf 4 = .ok (.getfield 19, 3) := by decide +kernel
theorem dX5_numberOf_7 : decode cX5_numberOf 7 = .ok (.if_icmp .ge 30, 3) := by decide +kernel
theorem dX5_numberOf_10 : decode cX5_numberOf 10 = .ok (.iload_n 2, 1) := by decide +kernel
theorem dX5_numberOf_11 : decode cX5_numberOf 11 = .ok (.aload_n 0, 1) := by decide +kernel
theorem dX5_numberOf_12 : decode cX5_numberOf 12 = .ok (.getfield 9, 3) := by decide +kernel
theorem dX5_numberOf_15 : decode cX5_numberOf 15 = .ok (.arraylength, 1) := by decide +kernel
theorem dX5_numberOf_16 : decode cX5_numberOf 16 = .ok (.if_icmp .ge 21, 3) := by decide +kernel
theorem dX5_numberOf_19 : decode cX5_numberOf 19 = .ok (.aload_n 0, 1) := by decide +kernel
theorem dX5_numberOf_20 : decode cX5_numberOf 20 = .ok (.getfield 9, 3) := by decide +kernel
theorem dX5_numberOf_23 : decode cX5_numberOf 23 = .ok (.iload_n 2, 1) := by decide +kernel
theorem dX5_numberOf_24 : decode cX5_numberOf 24 = .ok (.iaload, 1) := by decide +kernel
theorem dX5_numberOf_25 : decode cX5_numberOf 25 = .ok (.iload_n 1, 1) := by decide +kernel
theorem dX5_numberOf_26 : decode cX5_numberOf 26 = .ok (.if_icmp .ne 5, 3) := by decide +kernel
theorem dX5_numberOf_29 : decode cX5_numberOf 29 = .ok (.iload_n 2, 1) := by decide +kernel
theorem dX5_numberOf_30 : decode cX5_numberOf 30 = .ok (.ireturn, 1) := by decide +kernel
theorem dX5_numberOf_31 : decode cX5_numberOf 31 = .ok (.iinc 2 1, 3) := by decide +kernel
theorem dX5_numberOf_34 : decode cX5_numberOf 34 = .ok (.goto (-32), 3) := by decide +kernel
theorem dX5_numberOf_37 : decode cX5_numberOf 37 = .ok (.iconst (-1), 1) := by decide +kernel
theorem dX5_numberOf_38 : decode cX5_numberOf 38 = .ok (.ireturn, 1) := by decide +kernel
theorem dX5_isReadBack_0 : decode cX5_isReadBack 0 = .ok (.aload_n 0, 1) := by decide +kernel
theorem dX5_isReadBack_1 : decode cX5_isReadBack 1 = .ok (.getfield 22, 3) := by decide +kernel
theorem dX5_isReadBack_4 : decode cX5_isReadBack 4 = .ok (.ifCond .eq 14, 3) := by decide +kernel
theorem dX5_isReadBack_7 : decode cX5_isReadBack 7 = .ok (.aload_n 0, 1) := by decide +kernel
theorem dX5_isReadBack_8 : decode cX5_isReadBack 8 = .ok (.getfield 26, 3) := by decide +kernel
theorem dX5_isReadBack_11 : decode cX5_isReadBack 11 = .ok (.ifCond .ne 7, 3) := by decide +kernel
theorem dX5_isReadBack_14 : decode cX5_isReadBack 14 = .ok (.iconst 1, 1) := by decide +kernel
theorem dX5_isReadBack_15 : decode cX5_isReadBack 15 = .ok (.goto 4, 3) := by decide +kernel
theorem dX5_isReadBack_18 : decode cX5_isReadBack 18 = .ok (.iconst 0, 1) := by decide +kernel
theorem dX5_isReadBack_19 : decode cX5_isReadBack 19 = .ok (.ireturn, 1) := by decide +kernel
theorem dX5_isMetBy_0 : decode cX5_isMetBy 0 = .ok (.aload_n 1, 1) := by decide +kernel
theorem dX5_isMetBy_1 : decode cX5_isMetBy 1 = .ok (.ifnull 32, 3) := by decide +kernel
theorem dX5_isMetBy_4 : decode cX5_isMetBy 4 = .ok (.aload_n 1, 1) := by decide +kernel
theorem dX5_isMetBy_5 : decode cX5_isMetBy 5 = .ok (.getfield 29, 3) := by decide +kernel
theorem dX5_isMetBy_8 : decode cX5_isMetBy 8 = .ok (.ifCond .eq 25, 3) := by decide +kernel
theorem dX5_isMetBy_11 : decode cX5_isMetBy 11 = .ok (.aload_n 1, 1) := by decide +kernel
theorem dX5_isMetBy_12 : decode cX5_isMetBy 12 = .ok (.getfield 32, 3) := by decide +kernel
theorem dX5_isMetBy_15 : decode cX5_isMetBy 15 = .ok (.ifCond .eq 18, 3) := by decide +kernel
theorem dX5_isMetBy_18 : decode cX5_isMetBy 18 = .ok (.aload_n 1, 1) := by decide +kernel
theorem dX5_isMetBy_19 : decode cX5_isMetBy 19 = .ok (.getfield 35, 3) := by decide +kernel
theorem dX5_isMetBy_22 : decode cX5_isMetBy 22 = .ok (.aload_n 0, 1) := by decide +kernel
theorem dX5_isMetBy_23 : decode cX5_isMetBy 23 = .ok (.getfield 38, 3) := by decide +kernel
theorem dX5_isMetBy_26 : decode cX5_isMetBy 26 = .ok (.if_icmp .ne 7, 3) := by decide +kernel
theorem dX5_isMetBy_29 : decode cX5_isMetBy 29 = .ok (.iconst 1, 1) := by decide +kernel
theorem dX5_isMetBy_30 : decode cX5_isMetBy 30 = .ok (.goto 4, 3) := by decide +kernel
theorem dX5_isMetBy_33 : decode cX5_isMetBy 33 = .ok (.iconst 0, 1) := by decide +kernel
theorem dX5_isMetBy_34 : decode cX5_isMetBy 34 = .ok (.ireturn, 1) := by decide +kernel
theorem dX5_isOpen_0 : decode cX5_isOpen 0 = .ok (.aload_n 0, 1) := by decide +kernel
theorem dX5_isOpen_1 : decode cX5_isOpen 1 = .ok (.getfield 29, 3) := by decide +kernel
theorem dX5_isOpen_4 : decode cX5_isOpen 4 = .ok (.ifCond .eq 14, 3) := by decide +kernel
theorem dX5_isOpen_7 : decode cX5_isOpen 7 = .ok (.aload_n 0, 1) := by decide +kernel
theorem dX5_isOpen_8 : decode cX5_isOpen 8 = .ok (.getfield 32, 3) := by decide +kernel
theorem dX5_isOpen_11 : decode cX5_isOpen 11 = .ok (.ifCond .ne 7, 3) := by decide +kernel
theorem dX5_isOpen_14 : decode cX5_isOpen 14 = .ok (.iconst 1, 1) := by decide +kernel
theorem dX5_isOpen_15 : decode cX5_isOpen 15 = .ok (.goto 4, 3) := by decide +kernel
theorem dX5_isOpen_18 : decode cX5_isOpen 18 = .ok (.iconst 0, 1) := by decide +kernel
theorem dX5_isOpen_19 : decode cX5_isOpen 19 = .ok (.ireturn, 1) := by decide +kernel
theorem dX5_isUnheard_0 : decode cX5_isUnheard 0 = .ok (.aload_n 0, 1) := by decide +kernel
theorem dX5_isUnheard_1 : decode cX5_isUnheard 1 = .ok (.getfield 29, 3) := by decide +kernel
theorem dX5_isUnheard_4 : decode cX5_isUnheard 4 = .ok (.ifCond .eq 21, 3) := by decide +kernel
theorem dX5_isUnheard_7 : decode cX5_isUnheard 7 = .ok (.aload_n 0, 1) := by decide +kernel
theorem dX5_isUnheard_8 : decode cX5_isUnheard 8 = .ok (.getfield 32, 3) := by decide +kernel
theorem dX5_isUnheard_11 : decode cX5_isUnheard 11 = .ok (.ifCond .eq 14, 3) := by decide +kernel
theorem dX5_isUnheard_14 : decode cX5_isUnheard 14 = .ok (.aload_n 0, 1) := by decide +kernel
theorem dX5_isUnheard_15 : decode cX5_isUnheard 15 = .ok (.getfield 41, 3) := by decide +kernel
theorem dX5_isUnheard_18 : decode cX5_isUnheard 18 = .ok (.ifCond .ne 7, 3) := by decide +kernel
theorem dX5_isUnheard_21 : decode cX5_isUnheard 21 = .ok (.iconst 1, 1) := by decide +kernel
theorem dX5_isUnheard_22 : decode cX5_isUnheard 22 = .ok (.goto 4, 3) := by decide +kernel
theorem dX5_isUnheard_25 : decode cX5_isUnheard 25 = .ok (.iconst 0, 1) := by decide +kernel
theorem dX5_isUnheard_26 : decode cX5_isUnheard 26 = .ok (.ireturn, 1) := by decide +kernel
theorem dX6_init_0 : decode cX6_init 0 = .ok (.aload_n 0, 1) := by decide +kernel
theorem dX6_init_1 : decode cX6_init 1 = .ok (.invokespecial 3, 3) := by decide +kernel
theorem dX6_init_4 : decode cX6_init 4 = .ok (.aload_n 0, 1) := by decide +kernel
theorem dX6_init_5 : decode cX6_init 5 = .ok (.aload_n 1, 1) := by decide +kernel
theorem dX6_init_6 : decode cX6_init 6 = .ok (.putfield 9, 3) := by decide +kernel
theorem dX6_init_9 : decode cX6_init 9 = .ok (.aload_n 0, 1) := by decide +kernel
theorem dX6_init_10 : decode cX6_init 10 = .ok (.aload_n 2, 1) := by decide +kernel
theorem dX6_init_11 : decode cX6_init 11 = .ok (.putfield 15, 3) := by decide +kernel
theorem dX6_init_14 : decode cX6_init 14 = .ok (.aload_n 0, 1) := by decide +kernel
theorem dX6_init_15 : decode cX6_init 15 = .ok (.new 19, 3) := by decide +kernel
theorem dX6_init_18 : decode cX6_init 18 = .ok (.dup, 1) := by decide +kernel
theorem dX6_init_19 : decode cX6_init 19 = .ok (.invokespecial 21, 3) := by decide +kernel
theorem dX6_init_22 : decode cX6_init 22 = .ok (.putfield 22, 3) := by decide +kernel
theorem dX6_init_25 : decode cX6_init 25 = .ok (.aload_n 0, 1) := by decide +kernel
theorem dX6_init_26 : decode cX6_init 26 = .ok (.iconst (-1), 1) := by decide +kernel
theorem dX6_init_27 : decode cX6_init 27 = .ok (.putfield 26, 3) := by decide +kernel
theorem dX6_init_30 : decode cX6_init 30 = .ok (.aload_n 0, 1) := by decide +kernel
theorem dX6_init_31 : decode cX6_init 31 = .ok (.iconst (-1), 1) := by decide +kernel
theorem dX6_init_32 : decode cX6_init 32 = .ok (.putfield 30, 3) := by decide +kernel
theorem dX6_init_35 : decode cX6_init 35 = .ok (.aload_n 0, 1) := by decide +kernel
theorem dX6_init_36 : decode cX6_init 36 = .ok (.iconst 0, 1) := by decide +kernel
theorem dX6_init_37 : decode cX6_init 37 = .ok (.putfield 33, 3) := by decide +kernel
theorem dX6_init_40 : decode cX6_init 40 = .ok (.return_, 1) := by decide +kernel
theorem dX6_hear_0 : decode cX6_hear 0 = .ok (.aload_n 0, 1) := by decide +kernel
theorem dX6_hear_1 : decode cX6_hear 1 = .ok (.getfield 33, 3) := by decide +kernel
theorem dX6_hear_4 : decode cX6_hear 4 = .ok (.istore_n 1, 1) := by decide +kernel
theorem dX6_hear_5 : decode cX6_hear 5 = .ok (.aload_n 0, 1) := by decide +kernel
theorem dX6_hear_6 : decode cX6_hear 6 = .ok (.iconst 0, 1) := by decide +kernel
theorem dX6_hear_7 : decode cX6_hear 7 = .ok (.putfield 33, 3) := by decide +kernel
theorem dX6_hear_10 : decode cX6_hear 10 = .ok (.aload_n 0, 1) := by decide +kernel
theorem dX6_hear_11 : decode cX6_hear 11 = .ok (.getfield 15, 3) := by decide +kernel
theorem dX6_hear_14 : decode cX6_hear 14 = .ok (.invokevirtual 36, 3) := by decide +kernel
theorem dX6_hear_17 : decode cX6_hear 17 = .ok (.ifCond .eq 34, 3) := by decide +kernel
theorem dX6_hear_20 : decode cX6_hear 20 = .ok (.aload_n 0, 1) := by decide +kernel
theorem dX6_hear_21 : decode cX6_hear 21 = .ok (.iconst 2, 1) := by decide +kernel
theorem dX6_hear_22 : decode cX6_hear 22 = .ok (.putfield 33, 3) := by decide +kernel
theorem dX6_hear_25 : decode cX6_hear 25 = .ok (.aload_n 0, 1) := by decide +kernel
theorem dX6_hear_26 : decode cX6_hear 26 = .ok (.aload_n 0, 1) := by decide +kernel
theorem dX6_hear_27 : decode cX6_hear 27 = .ok (.getfield 15, 3) := by decide +kernel
theorem dX6_hear_30 : decode cX6_hear 30 = .ok (.iconst 0, 1) := by decide +kernel
theorem dX6_hear_31 : decode cX6_hear 31 = .ok (.invokevirtual 42, 3) := by decide +kernel
theorem dX6_hear_34 : decode cX6_hear 34 = .ok (.putfield 46, 3) := by decide +kernel
theorem dX6_hear_37 : decode cX6_hear 37 = .ok (.aload_n 0, 1) := by decide +kernel
theorem dX6_hear_38 : decode cX6_hear 38 = .ok (.aload_n 0, 1) := by decide +kernel
theorem dX6_hear_39 : decode cX6_hear 39 = .ok (.getfield 15, 3) := by decide +kernel
theorem dX6_hear_42 : decode cX6_hear 42 = .ok (.iconst 1, 1) := by decide +kernel
theorem dX6_hear_43 : decode cX6_hear 43 = .ok (.invokevirtual 42, 3) := by decide +kernel
theorem dX6_hear_46 : decode cX6_hear 46 = .ok (.putfield 49, 3) := by decide +kernel
theorem dX6_hear_49 : decode cX6_hear 49 = .ok (.iconst 2, 1) := by decide +kernel
theorem dX6_hear_50 : decode cX6_hear 50 = .ok (.ireturn, 1) := by decide +kernel
theorem dX6_hear_51 : decode cX6_hear 51 = .ok (.aload_n 0, 1) := by decide +kernel
theorem dX6_hear_52 : decode cX6_hear 52 = .ok (.getfield 15, 3) := by decide +kernel
theorem dX6_hear_55 : decode cX6_hear 55 = .ok (.iconst 0, 1) := by decide +kernel
theorem dX6_hear_56 : decode cX6_hear 56 = .ok (.invokevirtual 52, 3) := by decide +kernel
theorem dX6_hear_59 : decode cX6_hear 59 = .ok (.istore_n 2, 1) := by decide +kernel
theorem dX6_hear_60 : decode cX6_hear 60 = .ok (.iload_n 2, 1) := by decide +kernel
theorem dX6_hear_61 : decode cX6_hear 61 = .ok (.iconst 5, 1) := by decide +kernel
theorem dX6_hear_62 : decode cX6_hear 62 = .ok (.if_icmp .ne 7, 3) := by decide +kernel
theorem dX6_hear_65 : decode cX6_hear 65 = .ok (.iconst 1, 1) := by decide +kernel
theorem dX6_hear_66 : decode cX6_hear 66 = .ok (.goto 4, 3) := by decide +kernel
theorem dX6_hear_69 : decode cX6_hear 69 = .ok (.iconst 0, 1) := by decide +kernel
theorem dX6_hear_70 : decode cX6_hear 70 = .ok (.istore_n 3, 1) := by decide +kernel
theorem dX6_hear_71 : decode cX6_hear 71 = .ok (.iload_n 1, 1) := by decide +kernel
theorem dX6_hear_72 : decode cX6_hear 72 = .ok (.ifCond .eq 13, 3) := by decide +kernel
theorem dX6_hear_75 : decode cX6_hear 75 = .ok (.iload_n 3, 1) := by decide +kernel
theorem dX6_hear_76 : decode cX6_hear 76 = .ok (.ifCond .ne 22, 3) := by decide +kernel
theorem dX6_hear_79 : decode cX6_hear 79 = .ok (.iload_n 2, 1) := by decide +kernel
theorem dX6_hear_80 : decode cX6_hear 80 = .ok (.bipush 6, 2) := by decide +kernel
theorem dX6_hear_82 : decode cX6_hear 82 = .ok (.if_icmp .eq 16, 3) := by decide +kernel
theorem dX6_hear_85 : decode cX6_hear 85 = .ok (.aload_n 0, 1) := by decide +kernel
theorem dX6_hear_86 : decode cX6_hear 86 = .ok (.aload_n 0, 1) := by decide +kernel
theorem dX6_hear_87 : decode cX6_hear 87 = .ok (.getfield 15, 3) := by decide +kernel
theorem dX6_hear_90 : decode cX6_hear 90 = .ok (.iconst 0, 1) := by decide +kernel
theorem dX6_hear_91 : decode cX6_hear 91 = .ok (.invokevirtual 42, 3) := by decide +kernel
theorem dX6_hear_94 : decode cX6_hear 94 = .ok (.invokevirtual 55, 3) := by decide +kernel
theorem dX6_hear_97 : decode cX6_hear 97 = .ok (.ireturn, 1) := by decide +kernel
theorem dX6_hear_98 : decode cX6_hear 98 = .ok (.iload_n 1, 1) := by decide +kernel
theorem dX6_hear_99 : decode cX6_hear 99 = .ok (.iconst 2, 1) := by decide +kernel
theorem dX6_hear_100 : decode cX6_hear 100 = .ok (.if_icmp .ne 23, 3) := by decide +kernel
theorem dX6_hear_103 : decode cX6_hear 103 = .ok (.aload_n 0, 1) := by decide +kernel
theorem dX6_hear_104 : decode cX6_hear 104 = .ok (.iload_n 3, 1) := by decide +kernel
theorem dX6_hear_105 : decode cX6_hear 105 = .ok (.ifCond .eq 10, 3) := by decide +kernel
theorem dX6_hear_108 : decode cX6_hear 108 = .ok (.aload_n 0, 1) := by decide +kernel
theorem dX6_hear_109 : decode cX6_hear 109 = .ok (.getfield 46, 3) := by decide +kernel
theorem dX6_hear_112 : decode cX6_hear 112 = .ok (.goto 7, 3) := by decide +kernel
theorem dX6_hear_115 : decode cX6_hear 115 = .ok (.aload_n 0, 1) := by decide +kernel
theorem dX6_hear_116 : decode cX6_hear 116 = .ok (.getfield 49, 3) := by decide +kernel
theorem dX6_hear_119 : decode cX6_hear 119 = .ok (.invokevirtual 55, 3) := by decide +kernel
theorem dX6_hear_122 : decode cX6_hear 122 = .ok (.ireturn, 1) := by decide +kernel
theorem dX6_hear_123 : decode cX6_hear 123 = .ok (.iload_n 3, 1) := by decide +kernel
theorem dX6_hear_124 : decode cX6_hear 124 = .ok (.ifCond .eq 19, 3) := by decide +kernel
theorem dX6_hear_127 : decode cX6_hear 127 = .ok (.aload_n 0, 1) := by decide +kernel
theorem dX6_hear_128 : decode cX6_hear 128 = .ok (.aload_n 0, 1) := by decide +kernel
theorem dX6_hear_129 : decode cX6_hear 129 = .ok (.getfield 58, 3) := by decide +kernel
theorem dX6_hear_132 : decode cX6_hear 132 = .ok (.aload_n 0, 1) := by decide +kernel
theorem dX6_hear_133 : decode cX6_hear 133 = .ok (.getfield 61, 3) := by decide +kernel
theorem dX6_hear_136 : decode cX6_hear 136 = .ok (.iconst 1, 1) := by decide +kernel
theorem dX6_hear_137 : decode cX6_hear 137 = .ok (.invokevirtual 64, 3) := by decide +kernel
theorem dX6_hear_140 : decode cX6_hear 140 = .ok (.goto 4, 3) := by decide +kernel
theorem dX6_hear_143 : decode cX6_hear 143 = .ok (.iconst 5, 1) := by decide +kernel
theorem dX6_hear_144 : decode cX6_hear 144 = .ok (.ireturn, 1) := by decide +kernel
theorem dX6_take_0 : decode cX6_take 0 = .ok (.iload_n 1, 1) := by decide +kernel
theorem dX6_take_1 : decode cX6_take 1 = .ok (.invokestatic 68, 3) := by decide +kernel
theorem dX6_take_4 : decode cX6_take 4 = .ok (.istore_n 2, 1) := by decide +kernel
theorem dX6_take_5 : decode cX6_take 5 = .ok (.iload_n 1, 1) := by decide +kernel
theorem dX6_take_6 : decode cX6_take 6 = .ok (.invokestatic 71, 3) := by decide +kernel
theorem dX6_take_9 : decode cX6_take 9 = .ok (.tableswitch 96 0 8 #[51, 61, 66, 71, 73, 96, 96, 80, 86], 51) := by decide +kernel
theorem dX6_take_60 : decode cX6_take 60 = .ok (.aload_n 0, 1) := by decide +kernel
theorem dX6_take_61 : decode cX6_take 61 = .ok (.aload_n 0, 1) := by decide +kernel
theorem dX6_take_62 : decode cX6_take 62 = .ok (.getfield 26, 3) := by decide +kernel
theorem dX6_take_65 : decode cX6_take 65 = .ok (.iload_n 2, 1) := by decide +kernel
theorem dX6_take_66 : decode cX6_take 66 = .ok (.invokevirtual 74, 3) := by decide +kernel
theorem dX6_take_69 : decode cX6_take 69 = .ok (.ireturn, 1) := by decide +kernel
theorem dX6_take_70 : decode cX6_take 70 = .ok (.aload_n 0, 1) := by decide +kernel
theorem dX6_take_71 : decode cX6_take 71 = .ok (.invokevirtual 78, 3) := by decide +kernel
theorem dX6_take_74 : decode cX6_take 74 = .ok (.ireturn, 1) := by decide +kernel
theorem dX6_take_75 : decode cX6_take 75 = .ok (.aload_n 0, 1) := by decide +kernel
theorem dX6_take_76 : decode cX6_take 76 = .ok (.invokevirtual 82, 3) := by decide +kernel
theorem dX6_take_79 : decode cX6_take 79 = .ok (.ireturn, 1) := by decide +kernel
theorem dX6_take_80 : decode cX6_take 80 = .ok (.iconst 5, 1) := by decide +kernel
theorem dX6_take_81 : decode cX6_take 81 = .ok (.ireturn, 1) := by decide +kernel
theorem dX6_take_82 : decode cX6_take 82 = .ok (.aload_n 0, 1) := by decide +kernel
theorem dX6_take_83 : decode cX6_take 83 = .ok (.iconst 1, 1) := by decide +kernel
theorem dX6_take_84 : decode cX6_take 84 = .ok (.putfield 85, 3) := by decide +kernel
theorem dX6_take_87 : decode cX6_take 87 = .ok (.iconst 5, 1) := by decide +kernel
theorem dX6_take_88 : decode cX6_take 88 = .ok (.ireturn, 1) := by decide +kernel
theorem dX6_take_89 : decode cX6_take 89 = .ok (.aload_n 0, 1) := by decide +kernel
theorem dX6_take_90 : decode cX6_take 90 = .ok (.iload_n 2, 1) := by decide +kernel
theorem dX6_take_91 : decode cX6_take 91 = .ok (.invokevirtual 89, 3) := by decide +kernel
theorem dX6_take_94 : decode cX6_take 94 = .ok (.ireturn, 1) := by decide +kernel
theorem dX6_take_95 : decode cX6_take 95 = .ok (.aload_n 0, 1) := by decide +kernel
theorem dX6_take_96 : decode cX6_take 96 = .ok (.aload_n 0, 1) := by decide +kernel
theorem dX6_take_97 : decode cX6_take 97 = .ok (.getfield 30, 3) := by decide +kernel
theorem dX6_take_100 : decode cX6_take 100 = .ok (.iload_n 2, 1) := by decide +kernel
theorem dX6_take_101 : decode cX6_take 101 = .ok (.invokevirtual 74, 3) := by decide +kernel
theorem dX6_take_104 : decode cX6_take 104 = .ok (.ireturn, 1) := by decide +kernel
theorem dX6_take_105 : decode cX6_take 105 = .ok (.bipush 6, 2) := by decide +kernel
theorem dX6_take_107 : decode cX6_take 107 = .ok (.ireturn, 1) := by decide +kernel
theorem dX6_takeAnswer_0 : decode cX6_takeAnswer 0 = .ok (.aload_n 0, 1) := by decide +kernel
theorem dX6_takeAnswer_1 : decode cX6_takeAnswer 1 = .ok (.getfield 9, 3) := by decide +kernel
theorem dX6_takeAnswer_4 : decode cX6_takeAnswer 4 = .ok (.iload_n 1, 1) := by decide +kernel
theorem dX6_takeAnswer_5 : decode cX6_takeAnswer 5 = .ok (.invokevirtual 92, 3) := by decide +kernel
theorem dX6_takeAnswer_8 : decode cX6_takeAnswer 8 = .ok (.astore_n 3, 1) := by decide +kernel
theorem dX6_takeAnswer_9 : decode cX6_takeAnswer 9 = .ok (.aload_n 3, 1) := by decide +kernel
theorem dX6_takeAnswer_10 : decode cX6_takeAnswer 10 = .ok (.ifnull 10, 3) := by decide +kernel
theorem dX6_takeAnswer_13 : decode cX6_takeAnswer 13 = .ok (.aload_n 3, 1) := by decide +kernel
theorem dX6_takeAnswer_14 : decode cX6_takeAnswer 14 = .ok (.invokevirtual 98, 3) := by decide +kernel
theorem dX6_takeAnswer_17 : decode cX6_takeAnswer 17 = .ok (.ifCond .ne 11, 3) := by decide +kernel
theorem dX6_takeAnswer_20 : decode cX6_takeAnswer 20 = .ok (.aload_n 0, 1) := by decide +kernel
theorem dX6_takeAnswer_21 : decode cX6_takeAnswer 21 = .ok (.iload_n 1, 1) := by decide +kernel
theorem dX6_takeAnswer_22 : decode cX6_takeAnswer 22 = .ok (.iload_n 2, 1) := by decide +kernel
theorem dX6_takeAnswer_23 : decode cX6_takeAnswer 23 = .ok (.iconst 0, 1) := by decide +kernel
theorem dX6_takeAnswer_24 : decode cX6_takeAnswer 24 = .ok (.invokevirtual 64, 3) := by decide +kernel
theorem dX6_takeAnswer_27 : decode cX6_takeAnswer 27 = .ok (.ireturn, 1) := by decide +kernel
theorem dX6_takeAnswer_28 : decode cX6_takeAnswer 28 = .ok (.aload_n 0, 1) := by decide +kernel
theorem dX6_takeAnswer_29 : decode cX6_takeAnswer 29 = .ok (.iconst 1, 1) := by decide +kernel
theorem dX6_takeAnswer_30 : decode cX6_takeAnswer 30 = .ok (.putfield 33, 3) := by decide +kernel
theorem dX6_takeAnswer_33 : decode cX6_takeAnswer 33 = .ok (.aload_n 0, 1) := by decide +kernel
theorem dX6_takeAnswer_34 : decode cX6_takeAnswer 34 = .ok (.iload_n 1, 1) := by decide +kernel
theorem dX6_takeAnswer_35 : decode cX6_takeAnswer 35 = .ok (.putfield 58, 3) := by decide +kernel
theorem dX6_takeAnswer_38 : decode cX6_takeAnswer 38 = .ok (.aload_n 0, 1) := by decide +kernel
theorem dX6_takeAnswer_39 : decode cX6_takeAnswer 39 = .ok (.iload_n 2, 1) := by decide +kernel
theorem dX6_takeAnswer_40 : decode cX6_takeAnswer 40 = .ok (.putfield 61, 3) := by decide +kernel
theorem dX6_takeAnswer_43 : decode cX6_takeAnswer 43 = .ok (.iconst 3, 1) := by decide +kernel
theorem dX6_takeAnswer_44 : decode cX6_takeAnswer 44 = .ok (.ireturn, 1) := by decide +kernel
theorem dX6_keep_0 : decode cX6_keep 0 = .ok (.aload_n 0, 1) := by decide +kernel
theorem dX6_keep_1 : decode cX6_keep 1 = .ok (.aload_n 0, 1) := by decide +kernel
theorem dX6_keep_2 : decode cX6_keep 2 = .ok (.getfield 9, 3) := by decide +kernel
theorem dX6_keep_5 : decode cX6_keep 5 = .ok (.iload_n 1, 1) := by decide +kernel
theorem dX6_keep_6 : decode cX6_keep 6 = .ok (.iload_n 2, 1) := by decide +kernel
theorem dX6_keep_7 : decode cX6_keep 7 = .ok (.iload_n 3, 1) := by decide +kernel
theorem dX6_keep_8 : decode cX6_keep 8 = .ok (.invokevirtual 103, 3) := by decide +kernel
theorem dX6_keep_11 : decode cX6_keep 11 = .ok (.putfield 106, 3) := by decide +kernel
theorem dX6_keep_14 : decode cX6_keep 14 = .ok (.aload_n 0, 1) := by decide +kernel
theorem dX6_keep_15 : decode cX6_keep 15 = .ok (.iload_n 1, 1) := by decide +kernel
theorem dX6_keep_16 : decode cX6_keep 16 = .ok (.putfield 30, 3) := by decide +kernel
theorem dX6_keep_19 : decode cX6_keep 19 = .ok (.aload_n 0, 1) := by decide +kernel
theorem dX6_keep_20 : decode cX6_keep 20 = .ok (.iconst 0, 1) := by decide +kernel
theorem dX6_keep_21 : decode cX6_keep 21 = .ok (.putfield 109, 3) := by decide +kernel
theorem dX6_keep_24 : decode cX6_keep 24 = .ok (.aload_n 0, 1) := by decide +kernel
theorem dX6_keep_25 : decode cX6_keep 25 = .ok (.getfield 9, 3) := by decide +kernel
theorem dX6_keep_28 : decode cX6_keep 28 = .ok (.aload_n 0, 1) := by decide +kernel
theorem dX6_keep_29 : decode cX6_keep 29 = .ok (.getfield 26, 3) := by decide +kernel
theorem dX6_keep_32 : decode cX6_keep 32 = .ok (.invokevirtual 92, 3) := by decide +kernel
theorem dX6_keep_35 : decode cX6_keep 35 = .ok (.astore 4, 2) := by decide +kernel
theorem dX6_keep_37 : decode cX6_keep 37 = .ok (.aload 4, 2) := by decide +kernel
theorem dX6_keep_39 : decode cX6_keep 39 = .ok (.ifnull 34, 3) := by decide +kernel
theorem dX6_keep_42 : decode cX6_keep 42 = .ok (.iload_n 1, 1) := by decide +kernel
theorem dX6_keep_43 : decode cX6_keep 43 = .ok (.aload_n 0, 1) := by decide +kernel
theorem dX6_keep_44 : decode cX6_keep 44 = .ok (.getfield 26, 3) := by decide +kernel
theorem dX6_keep_47 : decode cX6_keep 47 = .ok (.if_icmp .eq 11, 3) := by decide +kernel
theorem dX6_keep_50 : decode cX6_keep 50 = .ok (.aload 4, 2) := by decide +kernel
theorem dX6_keep_52 : decode cX6_keep 52 = .ok (.getfield 112, 3) := by decide +kernel
theorem dX6_keep_55 : decode cX6_keep 55 = .ok (.ifCond .ne 18, 3) := by decide +kernel
theorem dX6_keep_58 : decode cX6_keep 58 = .ok (.aload_n 0, 1) := by decide +kernel
theorem dX6_keep_59 : decode cX6_keep 59 = .ok (.aload_n 0, 1) := by decide +kernel
theorem dX6_keep_60 : decode cX6_keep 60 = .ok (.getfield 9, 3) := by decide +kernel
theorem dX6_keep_63 : decode cX6_keep 63 = .ok (.aload_n 0, 1) := by decide +kernel
theorem dX6_keep_64 : decode cX6_keep 64 = .ok (.getfield 26, 3) := by decide +kernel
theorem dX6_keep_67 : decode cX6_keep 67 = .ok (.invokevirtual 115, 3) := by decide +kernel
theorem dX6_keep_70 : decode cX6_keep 70 = .ok (.invokevirtual 118, 3) := by decide +kernel
theorem dX6_keep_73 : decode cX6_keep 73 = .ok (.iconst 4, 1) := by decide +kernel
theorem dX6_keep_74 : decode cX6_keep 74 = .ok (.ireturn, 1) := by decide +kernel
theorem dX6_come_0 : decode cX6_come 0 = .ok (.iload_n 1, 1) := by decide +kernel
theorem dX6_come_1 : decode cX6_come 1 = .ok (.aload_n 0, 1) := by decide +kernel
theorem dX6_come_2 : decode cX6_come 2 = .ok (.getfield 26, 3) := by decide +kernel
theorem dX6_come_5 : decode cX6_come 5 = .ok (.if_icmp .ne 4, 3) := by decide +kernel
theorem dX6_come_8 : decode cX6_come 8 = .ok (.return_, 1) := by decide +kernel
theorem dX6_come_9 : decode cX6_come 9 = .ok (.aload_n 0, 1) := by decide +kernel
theorem dX6_come_10 : decode cX6_come 10 = .ok (.getfield 26, 3) := by decide +kernel
theorem dX6_come_13 : decode cX6_come 13 = .ok (.iconst (-1), 1) := by decide +kernel
theorem dX6_come_14 : decode cX6_come 14 = .ok (.if_icmp .eq 14, 3) := by decide +kernel
theorem dX6_come_17 : decode cX6_come 17 = .ok (.aload_n 0, 1) := by decide +kernel
theorem dX6_come_18 : decode cX6_come 18 = .ok (.getfield 22, 3) := by decide +kernel
theorem dX6_come_21 : decode cX6_come 21 = .ok (.aload_n 0, 1) := by decide +kernel
theorem dX6_come_22 : decode cX6_come 22 = .ok (.getfield 26, 3) := by decide +kernel
theorem dX6_come_25 : decode cX6_come 25 = .ok (.invokevirtual 122, 3) := by decide +kernel
theorem dX6_come_28 : decode cX6_come 28 = .ok (.aload_n 0, 1) := by decide +kernel
theorem dX6_come_29 : decode cX6_come 29 = .ok (.iload_n 1, 1) := by decide +kernel
theorem dX6_come_30 : decode cX6_come 30 = .ok (.putfield 26, 3) := by decide +kernel
theorem dX6_come_33 : decode cX6_come 33 = .ok (.return_, 1) := by decide +kernel
theorem dX6_goBack_0 : decode cX6_goBack 0 = .ok (.iconst 0, 1) := by decide +kernel
theorem dX6_goBack_1 : decode cX6_goBack 1 = .ok (.istore_n 1, 1) := by decide +kernel
theorem dX6_goBack_2 : decode cX6_goBack 2 = .ok (.iload_n 1, 1) := by decide +kernel
theorem dX6_goBack_3 : decode cX6_goBack 3 = .ok (.bipush 20, 2) := by decide +kernel
theorem dX6_goBack_5 : decode cX6_goBack 5 = .ok (.if_icmp .ge 44, 3) := by decide +kernel
theorem dX6_goBack_8 : decode cX6_goBack 8 = .ok (.aload_n 0, 1) := by decide +kernel
theorem dX6_goBack_9 : decode cX6_goBack 9 = .ok (.getfield 22, 3) := by decide +kernel
theorem dX6_goBack_12 : decode cX6_goBack 12 = .ok (.invokevirtual 125, 3) := by decide +kernel
theorem dX6_goBack_15 : decode cX6_goBack 15 = .ok (.istore_n 2, 1) := by decide +kernel
theorem dX6_goBack_16 : decode cX6_goBack 16 = .ok (.aload_n 0, 1) := by decide +kernel
theorem dX6_goBack_17 : decode cX6_goBack 17 = .ok (.getfield 9, 3) := by decide +kernel
theorem dX6_goBack_20 : decode cX6_goBack 20 = .ok (.iload_n 2, 1) := by decide +kernel
theorem dX6_goBack_21 : decode cX6_goBack 21 = .ok (.invokevirtual 92, 3) := by decide +kernel
theorem dX6_goBack_24 : decode cX6_goBack 24 = .ok (.astore_n 3, 1) := by decide +kernel
theorem dX6_goBack_25 : decode cX6_goBack 25 = .ok (.aload_n 3, 1) := by decide +kernel
theorem dX6_goBack_26 : decode cX6_goBack 26 = .ok (.ifnull 17, 3) := by decide +kernel
theorem dX6_goBack_29 : decode cX6_goBack 29 = .ok (.aload_n 3, 1) := by decide +kernel
theorem dX6_goBack_30 : decode cX6_goBack 30 = .ok (.getfield 112, 3) := by decide +kernel
theorem dX6_goBack_33 : decode cX6_goBack 33 = .ok (.ifCond .eq 10, 3) := by decide +kernel
theorem dX6_goBack_36 : decode cX6_goBack 36 = .ok (.aload_n 0, 1) := by decide +kernel
theorem dX6_goBack_37 : decode cX6_goBack 37 = .ok (.iload_n 2, 1) := by decide +kernel
theorem dX6_goBack_38 : decode cX6_goBack 38 = .ok (.putfield 26, 3) := by decide +kernel
theorem dX6_goBack_41 : decode cX6_goBack 41 = .ok (.iconst 5, 1) := by decide +kernel
theorem dX6_goBack_42 : decode cX6_goBack 42 = .ok (.ireturn, 1) := by decide +kernel
theorem dX6_goBack_43 : decode cX6_goBack 43 = .ok (.iinc 1 1, 3) := by decide +kernel
theorem dX6_goBack_46 : decode cX6_goBack 46 = .ok (.goto (-44), 3) := by decide +kernel
theorem dX6_goBack_49 : decode cX6_goBack 49 = .ok (.bipush 6, 2) := by decide +kernel
theorem dX6_goBack_51 : decode cX6_goBack 51 = .ok (.ireturn, 1) := by decide +kernel
theorem dX6_skip_0 : decode cX6_skip 0 = .ok (.aload_n 0, 1) := by decide +kernel
theorem dX6_skip_1 : decode cX6_skip 1 = .ok (.getfield 9, 3) := by decide +kernel
theorem dX6_skip_4 : decode cX6_skip 4 = .ok (.aload_n 0, 1) := by decide +kernel
theorem dX6_skip_5 : decode cX6_skip 5 = .ok (.getfield 26, 3) := by decide +kernel
theorem dX6_skip_8 : decode cX6_skip 8 = .ok (.invokevirtual 92, 3) := by decide +kernel
theorem dX6_skip_11 : decode cX6_skip 11 = .ok (.astore_n 1, 1) := by decide +kernel
theorem dX6_skip_12 : decode cX6_skip 12 = .ok (.aload_n 1, 1) := by decide +kernel
theorem dX6_skip_13 : decode cX6_skip 13 = .ok (.ifnonnull 6, 3) := by decide +kernel
theorem dX6_skip_16 : decode cX6_skip 16 = .ok (.bipush 6, 2) := by decide +kernel
theorem dX6_skip_18 : decode cX6_skip 18 = .ok (.ireturn, 1) := by decide +kernel
theorem dX6_skip_19 : decode cX6_skip 19 = .ok (.aload_n 1, 1) := by decide +kernel
theorem dX6_skip_20 : decode cX6_skip 20 = .ok (.iconst 1, 1) := by decide +kernel
theorem dX6_skip_21 : decode cX6_skip 21 = .ok (.putfield 128, 3) := by decide +kernel
theorem dX6_skip_24 : decode cX6_skip 24 = .ok (.aload_n 0, 1) := by decide +kernel
theorem dX6_skip_25 : decode cX6_skip 25 = .ok (.aload_n 0, 1) := by decide +kernel
theorem dX6_skip_26 : decode cX6_skip 26 = .ok (.getfield 9, 3) := by decide +kernel
theorem dX6_skip_29 : decode cX6_skip 29 = .ok (.aload_n 0, 1) := by decide +kernel
theorem dX6_skip_30 : decode cX6_skip 30 = .ok (.getfield 26, 3) := by decide +kernel
theorem dX6_skip_33 : decode cX6_skip 33 = .ok (.invokevirtual 115, 3) := by decide +kernel
theorem dX6_skip_36 : decode cX6_skip 36 = .ok (.invokevirtual 118, 3) := by decide +kernel
theorem dX6_skip_39 : decode cX6_skip 39 = .ok (.iconst 5, 1) := by decide +kernel
theorem dX6_skip_40 : decode cX6_skip 40 = .ok (.ireturn, 1) := by decide +kernel
theorem dX6_goTo_0 : decode cX6_goTo 0 = .ok (.aload_n 0, 1) := by decide +kernel
theorem dX6_goTo_1 : decode cX6_goTo 1 = .ok (.getfield 9, 3) := by decide +kernel
theorem dX6_goTo_4 : decode cX6_goTo 4 = .ok (.iload_n 1, 1) := by decide +kernel
theorem dX6_goTo_5 : decode cX6_goTo 5 = .ok (.invokevirtual 92, 3) := by decide +kernel
theorem dX6_goTo_8 : decode cX6_goTo 8 = .ok (.astore_n 2, 1) := by decide +kernel
theorem dX6_goTo_9 : decode cX6_goTo 9 = .ok (.aload_n 2, 1) := by decide +kernel
theorem dX6_goTo_10 : decode cX6_goTo 10 = .ok (.ifnull 10, 3) := by decide +kernel
theorem dX6_goTo_13 : decode cX6_goTo 13 = .ok (.aload_n 2, 1) := by decide +kernel
theorem dX6_goTo_14 : decode cX6_goTo 14 = .ok (.getfield 112, 3) := by decide +kernel
theorem dX6_goTo_17 : decode cX6_goTo 17 = .ok (.ifCond .ne 6, 3) := by decide +kernel
theorem dX6_goTo_20 : decode cX6_goTo 20 = .ok (.bipush 6, 2) := by decide +kernel
theorem dX6_goTo_22 : decode cX6_goTo 22 = .ok (.ireturn, 1) := by decide +kernel
theorem dX6_goTo_23 : decode cX6_goTo 23 = .ok (.aload_n 2, 1) := by decide +kernel
theorem dX6_goTo_24 : decode cX6_goTo 24 = .ok (.iconst 0, 1) := by decide +kernel
theorem dX6_goTo_25 : decode cX6_goTo 25 = .ok (.putfield 128, 3) := by decide +kernel
theorem dX6_goTo_28 : decode cX6_goTo 28 = .ok (.aload_n 0, 1) := by decide +kernel
theorem dX6_goTo_29 : decode cX6_goTo 29 = .ok (.iload_n 1, 1) := by decide +kernel
theorem dX6_goTo_30 : decode cX6_goTo 30 = .ok (.invokevirtual 118, 3) := by decide +kernel
theorem dX6_goTo_33 : decode cX6_goTo 33 = .ok (.iconst 5, 1) := by decide +kernel
theorem dX6_goTo_34 : decode cX6_goTo 34 = .ok (.ireturn, 1) := by decide +kernel
theorem dX7_init_0 : decode cX7_init 0 = .ok (.aload_n 0, 1) := by decide +kernel
theorem dX7_init_1 : decode cX7_init 1 = .ok (.invokespecial 3, 3) := by decide +kernel
theorem dX7_init_4 : decode cX7_init 4 = .ok (.iload_n 1, 1) := by decide +kernel
theorem dX7_init_5 : decode cX7_init 5 = .ok (.ifCond .le 9, 3) := by decide +kernel
theorem dX7_init_8 : decode cX7_init 8 = .ok (.iconst 2, 1) := by decide +kernel
theorem dX7_init_9 : decode cX7_init 9 = .ok (.iload_n 1, 1) := by decide +kernel
theorem dX7_init_10 : decode cX7_init 10 = .ok (.imul, 1) := by decide +kernel
theorem dX7_init_11 : decode cX7_init 11 = .ok (.goto 4, 3) := by decide +kernel
theorem dX7_init_14 : decode cX7_init 14 = .ok (.iconst 0, 1) := by decide +kernel
theorem dX7_init_15 : decode cX7_init 15 = .ok (.istore_n 2, 1) := by decide +kernel
theorem dX7_init_16 : decode cX7_init 16 = .ok (.aload_n 0, 1) := by decide +kernel
theorem dX7_init_17 : decode cX7_init 17 = .ok (.iload_n 2, 1) := by decide +kernel
theorem dX7_init_18 : decode cX7_init 18 = .ok (.newarray .int, 2) := by decide +kernel
theorem dX7_init_20 : decode cX7_init 20 = .ok (.putfield 9, 3) := by decide +kernel
theorem dX7_init_23 : decode cX7_init 23 = .ok (.aload_n 0, 1) := by decide +kernel
theorem dX7_init_24 : decode cX7_init 24 = .ok (.iload_n 2, 1) := by decide +kernel
theorem dX7_init_25 : decode cX7_init 25 = .ok (.newarray .int, 2) := by decide +kernel
theorem dX7_init_27 : decode cX7_init 27 = .ok (.putfield 15, 3) := by decide +kernel
theorem dX7_init_30 : decode cX7_init 30 = .ok (.return_, 1) := by decide +kernel
theorem dX7_clear_0 : decode cX7_clear 0 = .ok (.aload_n 0, 1) := by decide +kernel
theorem dX7_clear_1 : decode cX7_clear 1 = .ok (.getfield 9, 3) := by decide +kernel
theorem dX7_clear_4 : decode cX7_clear 4 = .ok (.ldc 18, 2) := by decide +kernel
theorem dX7_clear_6 : decode cX7_clear 6 = .ok (.invokestatic 19, 3) := by decide +kernel
theorem dX7_clear_9 : decode cX7_clear 9 = .ok (.aload_n 0, 1) := by decide +kernel
theorem dX7_clear_10 : decode cX7_clear 10 = .ok (.getfield 15, 3) := by decide +kernel
theorem dX7_clear_13 : decode cX7_clear 13 = .ok (.iconst (-1), 1) := by decide +kernel
theorem dX7_clear_14 : decode cX7_clear 14 = .ok (.invokestatic 19, 3) := by decide +kernel
theorem dX7_clear_17 : decode cX7_clear 17 = .ok (.return_, 1) := by decide +kernel
theorem dX7_cost_0 : decode cX7_cost 0 = .ok (.iconst 2, 1) := by decide +kernel
theorem dX7_cost_1 : decode cX7_cost 1 = .ok (.iload_n 1, 1) := by decide +kernel
theorem dX7_cost_2 : decode cX7_cost 2 = .ok (.imul, 1) := by decide +kernel
theorem dX7_cost_3 : decode cX7_cost 3 = .ok (.iload_n 2, 1) := by decide +kernel
theorem dX7_cost_4 : decode cX7_cost 4 = .ok (.iadd, 1) := by decide +kernel
theorem dX7_cost_5 : decode cX7_cost 5 = .ok (.istore_n 3, 1) := by decide +kernel
theorem dX7_cost_6 : decode cX7_cost 6 = .ok (.iload_n 3, 1) := by decide +kernel
theorem dX7_cost_7 : decode cX7_cost 7 = .ok (.ifCond .lt 21, 3) := by decide +kernel
theorem dX7_cost_10 : decode cX7_cost 10 = .ok (.iload_n 3, 1) := by decide +kernel
theorem dX7_cost_11 : decode cX7_cost 11 = .ok (.aload_n 0, 1) := by decide +kernel
theorem dX7_cost_12 : decode cX7_cost 12 = .ok (.getfield 9, 3) := by decide +kernel
theorem dX7_cost_15 : decode cX7_cost 15 = .ok (.arraylength, 1) := by decide +kernel
theorem dX7_cost_16 : decode cX7_cost 16 = .ok (.if_icmp .ge 12, 3) := by decide +kernel
theorem dX7_cost_19 : decode cX7_cost 19 = .ok (.aload_n 0, 1) := by decide +kernel
theorem dX7_cost_20 : decode cX7_cost 20 = .ok (.getfield 9, 3) := by decide +kernel
theorem dX7_cost_23 : decode cX7_cost 23 = .ok (.iload_n 3, 1) := by decide +kernel
theorem dX7_cost_24 : decode cX7_cost 24 = .ok (.iaload, 1) := by decide +kernel
theorem dX7_cost_25 : decode cX7_cost 25 = .ok (.goto 5, 3) := by decide +kernel
theorem dX7_cost_28 : decode cX7_cost 28 = .ok (.ldc 18, 2) := by decide +kernel
theorem dX7_cost_30 : decode cX7_cost 30 = .ok (.ireturn, 1) := by decide +kernel
theorem dX7_key_0 : decode cX7_key 0 = .ok (.iconst 2, 1) := by decide +kernel
theorem dX7_key_1 : decode cX7_key 1 = .ok (.iload_n 1, 1) := by decide +kernel
theorem dX7_key_2 : decode cX7_key 2 = .ok (.imul, 1) := by decide +kernel
theorem dX7_key_3 : decode cX7_key 3 = .ok (.iload_n 2, 1) := by decide +kernel
theorem dX7_key_4 : decode cX7_key 4 = .ok (.iadd, 1) := by decide +kernel
theorem dX7_key_5 : decode cX7_key 5 = .ok (.istore_n 3, 1) := by decide +kernel
theorem dX7_key_6 : decode cX7_key 6 = .ok (.iload_n 3, 1) := by decide +kernel
theorem dX7_key_7 : decode cX7_key 7 = .ok (.ifCond .lt 21, 3) := by decide +kernel
theorem dX7_key_10 : decode cX7_key 10 = .ok (.iload_n 3, 1) := by decide +kernel
theorem dX7_key_11 : decode cX7_key 11 = .ok (.aload_n 0, 1) := by decide +kernel
theorem dX7_key_12 : decode cX7_key 12 = .ok (.getfield 15, 3) := by decide +kernel
theorem dX7_key_15 : decode cX7_key 15 = .ok (.arraylength, 1) := by decide +kernel
theorem dX7_key_16 : decode cX7_key 16 = .ok (.if_icmp .ge 12, 3) := by decide +kernel
theorem dX7_key_19 : decode cX7_key 19 = .ok (.aload_n 0, 1) := by decide +kernel
theorem dX7_key_20 : decode cX7_key 20 = .ok (.getfield 15, 3) := by decide +kernel
theorem dX7_key_23 : decode cX7_key 23 = .ok (.iload_n 3, 1) := by decide +kernel
theorem dX7_key_24 : decode cX7_key 24 = .ok (.iaload, 1) := by decide +kernel
theorem dX7_key_25 : decode cX7_key 25 = .ok (.goto 4, 3) := by decide +kernel
theorem dX7_key_28 : decode cX7_key 28 = .ok (.iconst (-1), 1) := by decide +kernel
theorem dX7_key_29 : decode cX7_key 29 = .ok (.ireturn, 1) := by decide +kernel
theorem dX7_offer_0 : decode cX7_offer 0 = .ok (.iconst 2, 1) := by decide +kernel
theorem dX7_offer_1 : decode cX7_offer 1 = .ok (.iload_n 1, 1) := by decide +kernel
theorem dX7_offer_2 : decode cX7_offer 2 = .ok (.imul, 1) := by decide +kernel
theorem dX7_offer_3 : decode cX7_offer 3 = .ok (.istore 4, 2) := by decide +kernel
theorem dX7_offer_5 : decode cX7_offer 5 = .ok (.iload 4, 2) := by decide +kernel
theorem dX7_offer_7 : decode cX7_offer 7 = .ok (.iconst 1, 1) := by decide +kernel
theorem dX7_offer_8 : decode cX7_offer 8 = .ok (.iadd, 1) := by decide +kernel
theorem dX7_offer_9 : decode cX7_offer 9 = .ok (.istore 5, 2) := by decide +kernel
theorem dX7_offer_11 : decode cX7_offer 11 = .ok (.iload 4, 2) := by decide +kernel
theorem dX7_offer_13 : decode cX7_offer 13 = .ok (.ifCond .lt 23, 3) := by decide +kernel
theorem dX7_offer_16 : decode cX7_offer 16 = .ok (.iload 5, 2) := by decide +kernel
theorem dX7_offer_18 : decode cX7_offer 18 = .ok (.aload_n 0, 1) := by decide +kernel
theorem dX7_offer_19 : decode cX7_offer 19 = .ok (.getfield 9, 3) := by decide +kernel
theorem dX7_offer_22 : decode cX7_offer 22 = .ok (.arraylength, 1) := by decide +kernel
theorem dX7_offer_23 : decode cX7_offer 23 = .ok (.if_icmp .ge 13, 3) := by decide +kernel
theorem dX7_offer_26 : decode cX7_offer 26 = .ok (.iload 5, 2) := by decide +kernel
theorem dX7_offer_28 : decode cX7_offer 28 = .ok (.aload_n 0, 1) := by decide +kernel
theorem dX7_offer_29 : decode cX7_offer 29 = .ok (.getfield 15, 3) := by decide +kernel
theorem dX7_offer_32 : decode cX7_offer 32 = .ok (.arraylength, 1) := by decide +kernel
theorem dX7_offer_33 : decode cX7_offer 33 = .ok (.if_icmp .lt 4, 3) := by decide +kernel
theorem dX7_offer_36 : decode cX7_offer 36 = .ok (.return_, 1) := by decide +kernel
theorem dX7_offer_37 : decode cX7_offer 37 = .ok (.iload_n 3, 1) := by decide +kernel
theorem dX7_offer_38 : decode cX7_offer 38 = .ok (.aload_n 0, 1) := by decide +kernel
theorem dX7_offer_39 : decode cX7_offer 39 = .ok (.getfield 15, 3) := by decide +kernel
theorem dX7_offer_42 : decode cX7_offer 42 = .ok (.iload 4, 2) := by decide +kernel
theorem dX7_offer_44 : decode cX7_offer 44 = .ok (.iaload, 1) := by decide +kernel
theorem dX7_offer_45 : decode cX7_offer 45 = .ok (.if_icmp .ne 24, 3) := by decide +kernel
theorem dX7_offer_48 : decode cX7_offer 48 = .ok (.aload_n 0, 1) := by decide +kernel
theorem dX7_offer_49 : decode cX7_offer 49 = .ok (.getfield 9, 3) := by decide +kernel
theorem dX7_offer_52 : decode cX7_offer 52 = .ok (.iload 4, 2) := by decide +kernel
theorem dX7_offer_54 : decode cX7_offer 54 = .ok (.iload_n 2, 1) := by decide +kernel
theorem dX7_offer_55 : decode cX7_offer 55 = .ok (.aload_n 0, 1) := by decide +kernel
theorem dX7_offer_56 : decode cX7_offer 56 = .ok (.getfield 9, 3) := by decide +kernel
theorem dX7_offer_59 : decode cX7_offer 59 = .ok (.iload 4, 2) := by decide +kernel
theorem dX7_offer_61 : decode cX7_offer 61 = .ok (.iaload, 1) := by decide +kernel
theorem dX7_offer_62 : decode cX7_offer 62 = .ok (.invokestatic 25, 3) := by decide +kernel
theorem dX7_offer_65 : decode cX7_offer 65 = .ok (.iastore, 1) := by decide +kernel
theorem dX7_offer_66 : decode cX7_offer 66 = .ok (.goto 132, 3) := by decide +kernel
theorem dX7_offer_69 : decode cX7_offer 69 = .ok (.iload_n 2, 1) := by decide +kernel
theorem dX7_offer_70 : decode cX7_offer 70 = .ok (.aload_n 0, 1) := by decide +kernel
theorem dX7_offer_71 : decode cX7_offer 71 = .ok (.getfield 9, 3) := by decide +kernel
theorem dX7_offer_74 : decode cX7_offer 74 = .ok (.iload 4, 2) := by decide +kernel
theorem dX7_offer_76 : decode cX7_offer 76 = .ok (.iaload, 1) := by decide +kernel
theorem dX7_offer_77 : decode cX7_offer 77 = .ok (.if_icmp .lt 25, 3) := by decide +kernel
theorem dX7_offer_80 : decode cX7_offer 80 = .ok (.iload_n 2, 1) := by decide +kernel
theorem dX7_offer_81 : decode cX7_offer 81 = .ok (.aload_n 0, 1) := by decide +kernel
theorem dX7_offer_82 : decode cX7_offer 82 = .ok (.getfield 9, 3) := by decide +kernel
theorem dX7_offer_85 : decode cX7_offer 85 = .ok (.iload 4, 2) := by decide +kernel
theorem dX7_offer_87 : decode cX7_offer 87 = .ok (.iaload, 1) := by decide +kernel
theorem dX7_offer_88 : decode cX7_offer 88 = .ok (.if_icmp .ne 61, 3) := by decide +kernel
theorem dX7_offer_91 : decode cX7_offer 91 = .ok (.iload_n 3, 1) := by decide +kernel
theorem dX7_offer_92 : decode cX7_offer 92 = .ok (.aload_n 0, 1) := by decide +kernel
theorem dX7_offer_93 : decode cX7_offer 93 = .ok (.getfield 15, 3) := by decide +kernel
theorem dX7_offer_96 : decode cX7_offer 96 = .ok (.iload 4, 2) := by decide +kernel
theorem dX7_offer_98 : decode cX7_offer 98 = .ok (.iaload, 1) := by decide +kernel
theorem dX7_offer_99 : decode cX7_offer 99 = .ok (.if_icmp .ge 50, 3) := by decide +kernel
theorem dX7_offer_102 : decode cX7_offer 102 = .ok (.aload_n 0, 1) := by decide +kernel
theorem dX7_offer_103 : decode cX7_offer 103 = .ok (.getfield 9, 3) := by decide +kernel
theorem dX7_offer_106 : decode cX7_offer 106 = .ok (.iload 5, 2) := by decide +kernel
theorem dX7_offer_108 : decode cX7_offer 108 = .ok (.aload_n 0, 1) := by decide +kernel
theorem dX7_offer_109 : decode cX7_offer 109 = .ok (.getfield 9, 3) := by decide +kernel
theorem dX7_offer_112 : decode cX7_offer 112 = .ok (.iload 4, 2) := by decide +kernel
theorem dX7_offer_114 : decode cX7_offer 114 = .ok (.iaload, 1) := by decide +kernel
theorem dX7_offer_115 : decode cX7_offer 115 = .ok (.iastore, 1) := by decide +kernel
theorem dX7_offer_116 : decode cX7_offer 116 = .ok (.aload_n 0, 1) := by decide +kernel
theorem dX7_offer_117 : decode cX7_offer 117 = .ok (.getfield 15, 3) := by decide +kernel
theorem dX7_offer_120 : decode cX7_offer 120 = .ok (.iload 5, 2) := by decide +kernel
theorem dX7_offer_122 : decode cX7_offer 122 = .ok (.aload_n 0, 1) := by decide +kernel
theorem dX7_offer_123 : decode cX7_offer 123 = .ok (.getfield 15, 3) := by decide +kernel
theorem dX7_offer_126 : decode cX7_offer 126 = .ok (.iload 4, 2) := by decide +kernel
theorem dX7_offer_128 : decode cX7_offer 128 = .ok (.iaload, 1) := by decide +kernel
theorem dX7_offer_129 : decode cX7_offer 129 = .ok (.iastore, 1) := by decide +kernel
theorem dX7_offer_130 : decode cX7_offer 130 = .ok (.aload_n 0, 1) := by decide +kernel
theorem dX7_offer_131 : decode cX7_offer 131 = .ok (.getfield 9, 3) := by decide +kernel
theorem dX7_offer_134 : decode cX7_offer 134 = .ok (.iload 4, 2) := by decide +kernel
theorem dX7_offer_136 : decode cX7_offer 136 = .ok (.iload_n 2, 1) := by decide +kernel
theorem dX7_offer_137 : decode cX7_offer 137 = .ok (.iastore, 1) := by decide +kernel
theorem dX7_offer_138 : decode cX7_offer 138 = .ok (.aload_n 0, 1) := by decide +kernel
theorem dX7_offer_139 : decode cX7_offer 139 = .ok (.getfield 15, 3) := by decide +kernel
theorem dX7_offer_142 : decode cX7_offer 142 = .ok (.iload 4, 2) := by decide +kernel
theorem dX7_offer_144 : decode cX7_offer 144 = .ok (.iload_n 3, 1) := by decide +kernel
theorem dX7_offer_145 : decode cX7_offer 145 = .ok (.iastore, 1) := by decide +kernel
theorem dX7_offer_146 : decode cX7_offer 146 = .ok (.goto 52, 3) := by decide +kernel
theorem dX7_offer_149 : decode cX7_offer 149 = .ok (.iload_n 2, 1) := by decide +kernel
theorem dX7_offer_150 : decode cX7_offer 150 = .ok (.aload_n 0, 1) := by decide +kernel
theorem dX7_offer_151 : decode cX7_offer 151 = .ok (.getfield 9, 3) := by decide +kernel
theorem dX7_offer_154 : decode cX7_offer 154 = .ok (.iload 5, 2) := by decide +kernel
theorem dX7_offer_156 : decode cX7_offer 156 = .ok (.iaload, 1) := by decide +kernel
theorem dX7_offer_157 : decode cX7_offer 157 = .ok (.if_icmp .lt 25, 3) := by decide +kernel
theorem dX7_offer_160 : decode cX7_offer 160 = .ok (.iload_n 2, 1) := by decide +kernel
theorem dX7_offer_161 : decode cX7_offer 161 = .ok (.aload_n 0, 1) := by decide +kernel
theorem dX7_offer_162 : decode cX7_offer 162 = .ok (.getfield 9, 3) := by decide +kernel
theorem dX7_offer_165 : decode cX7_offer 165 = .ok (.iload 5, 2) := by decide +kernel
theorem dX7_offer_167 : decode cX7_offer 167 = .ok (.iaload, 1) := by decide +kernel
theorem dX7_offer_168 : decode cX7_offer 168 = .ok (.if_icmp .ne 30, 3) := by decide +kernel
theorem dX7_offer_171 : decode cX7_offer 171 = .ok (.iload_n 3, 1) := by decide +kernel
theorem dX7_offer_172 : decode cX7_offer 172 = .ok (.aload_n 0, 1) := by decide +kernel
theorem dX7_offer_173 : decode cX7_offer 173 = .ok (.getfield 15, 3) := by decide +kernel
theorem dX7_offer_176 : decode cX7_offer 176 = .ok (.iload 5, 2) := by decide +kernel
theorem dX7_offer_178 : decode cX7_offer 178 = .ok (.iaload, 1) := by decide +kernel
theorem dX7_offer_179 : decode cX7_offer 179 = .ok (.if_icmp .ge 19, 3) := by decide +kernel
theorem dX7_offer_182 : decode cX7_offer 182 = .ok (.aload_n 0, 1) := by decide +kernel
theorem dX7_offer_183 : decode cX7_offer 183 = .ok (.getfield 9, 3) := by decide +kernel
theorem dX7_offer_186 : decode cX7_offer 186 = .ok (.iload 5, 2) := by decide +kernel
theorem dX7_offer_188 : decode cX7_offer 188 = .ok (.iload_n 2, 1) := by decide +kernel
theorem dX7_offer_189 : decode cX7_offer 189 = .ok (.iastore, 1) := by decide +kernel
theorem dX7_offer_190 : decode cX7_offer 190 = .ok (.aload_n 0, 1) := by decide +kernel
theorem dX7_offer_191 : decode cX7_offer 191 = .ok (.getfield 15, 3) := by decide +kernel
theorem dX7_offer_194 : decode cX7_offer 194 = .ok (.iload 5, 2) := by decide +kernel
theorem dX7_offer_196 : decode cX7_offer 196 = .ok (.iload_n 3, 1) := by decide +kernel
theorem dX7_offer_197 : decode cX7_offer 197 = .ok (.iastore, 1) := by decide +kernel
theorem dX7_offer_198 : decode cX7_offer 198 = .ok (.return_, 1) := by decide +kernel
theorem dX9_init_0 : decode cX9_init 0 = .ok (.aload_n 0, 1) := by decide +kernel
theorem dX9_init_1 : decode cX9_init 1 = .ok (.invokespecial 1, 3) := by decide +kernel
theorem dX9_init_4 : decode cX9_init 4 = .ok (.aload_n 0, 1) := by decide +kernel
theorem dX9_init_5 : decode cX9_init 5 = .ok (.new 7, 3) := by decide +kernel
theorem dX9_init_8 : decode cX9_init 8 = .ok (.dup, 1) := by decide +kernel
theorem dX9_init_9 : decode cX9_init 9 = .ok (.invokespecial 9, 3) := by decide +kernel
theorem dX9_init_12 : decode cX9_init 12 = .ok (.putfield 10, 3) := by decide +kernel
theorem dX9_init_15 : decode cX9_init 15 = .ok (.aload_n 0, 1) := by decide +kernel
theorem dX9_init_16 : decode cX9_init 16 = .ok (.new 16, 3) := by decide +kernel
theorem dX9_init_19 : decode cX9_init 19 = .ok (.dup, 1) := by decide +kernel
theorem dX9_init_20 : decode cX9_init 20 = .ok (.invokespecial 18, 3) := by decide +kernel
theorem dX9_init_23 : decode cX9_init 23 = .ok (.putfield 19, 3) := by decide +kernel
theorem dX9_init_26 : decode cX9_init 26 = .ok (.aload_n 0, 1) := by decide +kernel
theorem dX9_init_27 : decode cX9_init 27 = .ok (.new 23, 3) := by decide +kernel
theorem dX9_init_30 : decode cX9_init 30 = .ok (.dup, 1) := by decide +kernel
theorem dX9_init_31 : decode cX9_init 31 = .ok (.aload_n 0, 1) := by decide +kernel
theorem dX9_init_32 : decode cX9_init 32 = .ok (.getfield 10, 3) := by decide +kernel
theorem dX9_init_35 : decode cX9_init 35 = .ok (.aload_n 0, 1) := by decide +kernel
theorem dX9_init_36 : decode cX9_init 36 = .ok (.getfield 19, 3) := by decide +kernel
theorem dX9_init_39 : decode cX9_init 39 = .ok (.invokespecial 25, 3) := by decide +kernel
theorem dX9_init_42 : decode cX9_init 42 = .ok (.putfield 28, 3) := by decide +kernel
theorem dX9_init_45 : decode cX9_init 45 = .ok (.aload_n 0, 1) := by decide +kernel
theorem dX9_init_46 : decode cX9_init 46 = .ok (.new 32, 3) := by decide +kernel
theorem dX9_init_49 : decode cX9_init 49 = .ok (.dup, 1) := by decide +kernel
theorem dX9_init_50 : decode cX9_init 50 = .ok (.aload_n 0, 1) := by decide +kernel
theorem dX9_init_51 : decode cX9_init 51 = .ok (.getfield 10, 3) := by decide +kernel
theorem dX9_init_54 : decode cX9_init 54 = .ok (.aload_n 0, 1) := by decide +kernel
theorem dX9_init_55 : decode cX9_init 55 = .ok (.getfield 28, 3) := by decide +kernel
theorem dX9_init_58 : decode cX9_init 58 = .ok (.invokespecial 34, 3) := by decide +kernel
theorem dX9_init_61 : decode cX9_init 61 = .ok (.putfield 37, 3) := by decide +kernel
theorem dX9_init_64 : decode cX9_init 64 = .ok (.aload_n 0, 1) := by decide +kernel
theorem dX9_init_65 : decode cX9_init 65 = .ok (.bipush 6, 2) := by decide +kernel
theorem dX9_init_67 : decode cX9_init 67 = .ok (.newarray .int, 2) := by decide +kernel
theorem dX9_init_69 : decode cX9_init 69 = .ok (.putfield 41, 3) := by decide +kernel
theorem dX9_init_72 : decode cX9_init 72 = .ok (.aload_n 0, 1) := by decide +kernel
theorem dX9_init_73 : decode cX9_init 73 = .ok (.iconst (-1), 1) := by decide +kernel
theorem dX9_init_74 : decode cX9_init 74 = .ok (.putfield 45, 3) := by decide +kernel
theorem dX9_init_77 : decode cX9_init 77 = .ok (.return_, 1) := by decide +kernel
theorem dX9_digits_0 : decode cX9_digits 0 = .ok (.aload_n 0, 1) := by decide +kernel
theorem dX9_digits_1 : decode cX9_digits 1 = .ok (.getfield 45, 3) := by decide +kernel
theorem dX9_digits_4 : decode cX9_digits 4 = .ok (.iconst (-1), 1) := by decide +kernel
theorem dX9_digits_5 : decode cX9_digits 5 = .ok (.if_icmp .ne 25, 3) := by decide +kernel
theorem dX9_digits_8 : decode cX9_digits 8 = .ok (.aload_n 0, 1) := by decide +kernel
theorem dX9_digits_9 : decode cX9_digits 9 = .ok (.getfield 10, 3) := by decide +kernel
theorem dX9_digits_12 : decode cX9_digits 12 = .ok (.iload_n 1, 1) := by decide +kernel
theorem dX9_digits_13 : decode cX9_digits 13 = .ok (.invokevirtual 49, 3) := by decide +kernel
theorem dX9_digits_16 : decode cX9_digits 16 = .ok (.ifCond .eq 14, 3) := by decide +kernel
theorem dX9_digits_19 : decode cX9_digits 19 = .ok (.iload_n 2, 1) := by decide +kernel
theorem dX9_digits_20 : decode cX9_digits 20 = .ok (.iconst 1, 1) := by decide +kernel
theorem dX9_digits_21 : decode cX9_digits 21 = .ok (.if_icmp .lt 9, 3) := by decide +kernel
theorem dX9_digits_24 : decode cX9_digits 24 = .ok (.iload_n 2, 1) := by decide +kernel
theorem dX9_digits_25 : decode cX9_digits 25 = .ok (.bipush 8, 2) := by decide +kernel
theorem dX9_digits_27 : decode cX9_digits 27 = .ok (.if_icmp .le 5, 3) := by decide +kernel
theorem dX9_digits_30 : decode cX9_digits 30 = .ok (.iconst (-1), 1) := by decide +kernel
theorem dX9_digits_31 : decode cX9_digits 31 = .ok (.ireturn, 1) := by decide +kernel
theorem dX9_digits_32 : decode cX9_digits 32 = .ok (.aload_n 0, 1) := by decide +kernel
theorem dX9_digits_33 : decode cX9_digits 33 = .ok (.getfield 37, 3) := by decide +kernel
theorem dX9_digits_36 : decode cX9_digits 36 = .ok (.iconst 0, 1) := by decide +kernel
theorem dX9_digits_37 : decode cX9_digits 37 = .ok (.putfield 53, 3) := by decide +kernel
theorem dX9_digits_40 : decode cX9_digits 40 = .ok (.aload_n 0, 1) := by decide +kernel
theorem dX9_digits_41 : decode cX9_digits 41 = .ok (.getfield 10, 3) := by decide +kernel
theorem dX9_digits_44 : decode cX9_digits 44 = .ok (.iload_n 1, 1) := by decide +kernel
theorem dX9_digits_45 : decode cX9_digits 45 = .ok (.iload_n 2, 1) := by decide +kernel
theorem dX9_digits_46 : decode cX9_digits 46 = .ok (.iload_n 3, 1) := by decide +kernel
end
section
/-! printed: decode rows -/
theorem dX9_digits_47 : decode cX9_digits 47 = .ok (.iload 4, 2) := by decide +kernel
theorem dX9_digits_49 : decode cX9_digits 49 = .ok (.invokevirtual 56, 3) := by decide +kernel
theorem dX9_digits_52 : decode cX9_digits 52 = .ok (.ireturn, 1) := by decide +kernel
theorem dX9_choice_0 : decode cX9_choice 0 = .ok (.aload_n 0, 1) := by decide +kernel
theorem dX9_choice_1 : decode cX9_choice 1 = .ok (.getfield 41, 3) := by decide +kernel
theorem dX9_choice_4 : decode cX9_choice 4 = .ok (.iconst 0, 1) := by decide +kernel
theorem dX9_choice_5 : decode cX9_choice 5 = .ok (.iload_n 3, 1) := by decide +kernel
theorem dX9_choice_6 : decode cX9_choice 6 = .ok (.iastore, 1) := by decide +kernel
theorem dX9_choice_7 : decode cX9_choice 7 = .ok (.aload_n 0, 1) := by decide +kernel
theorem dX9_choice_8 : decode cX9_choice 8 = .ok (.getfield 41, 3) := by decide +kernel
theorem dX9_choice_11 : decode cX9_choice 11 = .ok (.iconst 1, 1) := by decide +kernel
theorem dX9_choice_12 : decode cX9_choice 12 = .ok (.iload 4, 2) := by decide +kernel
theorem dX9_choice_14 : decode cX9_choice 14 = .ok (.iastore, 1) := by decide +kernel
theorem dX9_choice_15 : decode cX9_choice 15 = .ok (.aload_n 0, 1) := by decide +kernel
theorem dX9_choice_16 : decode cX9_choice 16 = .ok (.getfield 41, 3) := by decide +kernel
theorem dX9_choice_19 : decode cX9_choice 19 = .ok (.iconst 2, 1) := by decide +kernel
theorem dX9_choice_20 : decode cX9_choice 20 = .ok (.iload 5, 2) := by decide +kernel
theorem dX9_choice_22 : decode cX9_choice 22 = .ok (.iastore, 1) := by decide +kernel
theorem dX9_choice_23 : decode cX9_choice 23 = .ok (.aload_n 0, 1) := by decide +kernel
theorem dX9_choice_24 : decode cX9_choice 24 = .ok (.getfield 41, 3) := by decide +kernel
theorem dX9_choice_27 : decode cX9_choice 27 = .ok (.iconst 3, 1) := by decide +kernel
theorem dX9_choice_28 : decode cX9_choice 28 = .ok (.iload 6, 2) := by decide +kernel
theorem dX9_choice_30 : decode cX9_choice 30 = .ok (.iastore, 1) := by decide +kernel
theorem dX9_choice_31 : decode cX9_choice 31 = .ok (.aload_n 0, 1) := by decide +kernel
theorem dX9_choice_32 : decode cX9_choice 32 = .ok (.getfield 41, 3) := by decide +kernel
theorem dX9_choice_35 : decode cX9_choice 35 = .ok (.iconst 4, 1) := by decide +kernel
theorem dX9_choice_36 : decode cX9_choice 36 = .ok (.iload 7, 2) := by decide +kernel
theorem dX9_choice_38 : decode cX9_choice 38 = .ok (.iastore, 1) := by decide +kernel
theorem dX9_choice_39 : decode cX9_choice 39 = .ok (.aload_n 0, 1) := by decide +kernel
theorem dX9_choice_40 : decode cX9_choice 40 = .ok (.getfield 41, 3) := by decide +kernel
theorem dX9_choice_43 : decode cX9_choice 43 = .ok (.iconst 5, 1) := by decide +kernel
theorem dX9_choice_44 : decode cX9_choice 44 = .ok (.iload 8, 2) := by decide +kernel
theorem dX9_choice_46 : decode cX9_choice 46 = .ok (.iastore, 1) := by decide +kernel
theorem dX9_choice_47 : decode cX9_choice 47 = .ok (.aload_n 0, 1) := by decide +kernel
theorem dX9_choice_48 : decode cX9_choice 48 = .ok (.invokevirtual 60, 3) := by decide +kernel
theorem dX9_choice_51 : decode cX9_choice 51 = .ok (.istore 9, 2) := by decide +kernel
theorem dX9_choice_53 : decode cX9_choice 53 = .ok (.aload_n 0, 1) := by decide +kernel
theorem dX9_choice_54 : decode cX9_choice 54 = .ok (.getfield 45, 3) := by decide +kernel
theorem dX9_choice_57 : decode cX9_choice 57 = .ok (.iconst (-1), 1) := by decide +kernel
theorem dX9_choice_58 : decode cX9_choice 58 = .ok (.if_icmp .ne 19, 3) := by decide +kernel
theorem dX9_choice_61 : decode cX9_choice 61 = .ok (.aload_n 0, 1) := by decide +kernel
theorem dX9_choice_62 : decode cX9_choice 62 = .ok (.getfield 10, 3) := by decide +kernel
theorem dX9_choice_65 : decode cX9_choice 65 = .ok (.iload_n 1, 1) := by decide +kernel
theorem dX9_choice_66 : decode cX9_choice 66 = .ok (.invokevirtual 49, 3) := by decide +kernel
theorem dX9_choice_69 : decode cX9_choice 69 = .ok (.ifCond .eq 8, 3) := by decide +kernel
theorem dX9_choice_72 : decode cX9_choice 72 = .ok (.iload 9, 2) := by decide +kernel
theorem dX9_choice_74 : decode cX9_choice 74 = .ok (.ifCond .ne 5, 3) := by decide +kernel
theorem dX9_choice_77 : decode cX9_choice 77 = .ok (.iconst (-1), 1) := by decide +kernel
theorem dX9_choice_78 : decode cX9_choice 78 = .ok (.ireturn, 1) := by decide +kernel
theorem dX9_choice_79 : decode cX9_choice 79 = .ok (.aload_n 0, 1) := by decide +kernel
theorem dX9_choice_80 : decode cX9_choice 80 = .ok (.getfield 37, 3) := by decide +kernel
theorem dX9_choice_83 : decode cX9_choice 83 = .ok (.iconst 0, 1) := by decide +kernel
theorem dX9_choice_84 : decode cX9_choice 84 = .ok (.putfield 53, 3) := by decide +kernel
theorem dX9_choice_87 : decode cX9_choice 87 = .ok (.aload_n 0, 1) := by decide +kernel
theorem dX9_choice_88 : decode cX9_choice 88 = .ok (.getfield 10, 3) := by decide +kernel
theorem dX9_choice_91 : decode cX9_choice 91 = .ok (.iload_n 1, 1) := by decide +kernel
theorem dX9_choice_92 : decode cX9_choice 92 = .ok (.iload_n 2, 1) := by decide +kernel
theorem dX9_choice_93 : decode cX9_choice 93 = .ok (.aload_n 0, 1) := by decide +kernel
theorem dX9_choice_94 : decode cX9_choice 94 = .ok (.getfield 41, 3) := by decide +kernel
theorem dX9_choice_97 : decode cX9_choice 97 = .ok (.iload 9, 2) := by decide +kernel
theorem dX9_choice_99 : decode cX9_choice 99 = .ok (.invokevirtual 64, 3) := by decide +kernel
theorem dX9_choice_102 : decode cX9_choice 102 = .ok (.ireturn, 1) := by decide +kernel
theorem dX9_needs_0 : decode cX9_needs 0 = .ok (.aload_n 0, 1) := by decide +kernel
theorem dX9_needs_1 : decode cX9_needs 1 = .ok (.getfield 45, 3) := by decide +kernel
theorem dX9_needs_4 : decode cX9_needs 4 = .ok (.iconst (-1), 1) := by decide +kernel
theorem dX9_needs_5 : decode cX9_needs 5 = .ok (.if_icmp .ne 20, 3) := by decide +kernel
theorem dX9_needs_8 : decode cX9_needs 8 = .ok (.aload_n 0, 1) := by decide +kernel
theorem dX9_needs_9 : decode cX9_needs 9 = .ok (.getfield 10, 3) := by decide +kernel
theorem dX9_needs_12 : decode cX9_needs 12 = .ok (.iload_n 1, 1) := by decide +kernel
theorem dX9_needs_13 : decode cX9_needs 13 = .ok (.iload_n 2, 1) := by decide +kernel
theorem dX9_needs_14 : decode cX9_needs 14 = .ok (.iload_n 3, 1) := by decide +kernel
theorem dX9_needs_15 : decode cX9_needs 15 = .ok (.invokevirtual 68, 3) := by decide +kernel
theorem dX9_needs_18 : decode cX9_needs 18 = .ok (.ifCond .eq 7, 3) := by decide +kernel
theorem dX9_needs_21 : decode cX9_needs 21 = .ok (.iconst 1, 1) := by decide +kernel
theorem dX9_needs_22 : decode cX9_needs 22 = .ok (.goto 4, 3) := by decide +kernel
theorem dX9_needs_25 : decode cX9_needs 25 = .ok (.iconst 0, 1) := by decide +kernel
theorem dX9_needs_26 : decode cX9_needs 26 = .ok (.ireturn, 1) := by decide +kernel
theorem dX9_costs_0 : decode cX9_costs 0 = .ok (.iload_n 1, 1) := by decide +kernel
theorem dX9_costs_1 : decode cX9_costs 1 = .ok (.bipush 99, 2) := by decide +kernel
theorem dX9_costs_3 : decode cX9_costs 3 = .ok (.invokestatic 72, 3) := by decide +kernel
theorem dX9_costs_6 : decode cX9_costs 6 = .ok (.ifCond .eq 22, 3) := by decide +kernel
theorem dX9_costs_9 : decode cX9_costs 9 = .ok (.iload_n 2, 1) := by decide +kernel
theorem dX9_costs_10 : decode cX9_costs 10 = .ok (.bipush 99, 2) := by decide +kernel
theorem dX9_costs_12 : decode cX9_costs 12 = .ok (.invokestatic 72, 3) := by decide +kernel
theorem dX9_costs_15 : decode cX9_costs 15 = .ok (.ifCond .eq 13, 3) := by decide +kernel
theorem dX9_costs_18 : decode cX9_costs 18 = .ok (.iload_n 3, 1) := by decide +kernel
theorem dX9_costs_19 : decode cX9_costs 19 = .ok (.sipush 200, 3) := by decide +kernel
theorem dX9_costs_22 : decode cX9_costs 22 = .ok (.invokestatic 72, 3) := by decide +kernel
theorem dX9_costs_25 : decode cX9_costs 25 = .ok (.ifCond .ne 5, 3) := by decide +kernel
theorem dX9_costs_28 : decode cX9_costs 28 = .ok (.iconst 0, 1) := by decide +kernel
theorem dX9_costs_29 : decode cX9_costs 29 = .ok (.ireturn, 1) := by decide +kernel
theorem dX9_costs_30 : decode cX9_costs 30 = .ok (.aload_n 0, 1) := by decide +kernel
theorem dX9_costs_31 : decode cX9_costs 31 = .ok (.getfield 28, 3) := by decide +kernel
theorem dX9_costs_34 : decode cX9_costs 34 = .ok (.iload_n 1, 1) := by decide +kernel
theorem dX9_costs_35 : decode cX9_costs 35 = .ok (.putfield 76, 3) := by decide +kernel
theorem dX9_costs_38 : decode cX9_costs 38 = .ok (.aload_n 0, 1) := by decide +kernel
theorem dX9_costs_39 : decode cX9_costs 39 = .ok (.getfield 28, 3) := by decide +kernel
theorem dX9_costs_42 : decode cX9_costs 42 = .ok (.iload_n 2, 1) := by decide +kernel
theorem dX9_costs_43 : decode cX9_costs 43 = .ok (.putfield 79, 3) := by decide +kernel
theorem dX9_costs_46 : decode cX9_costs 46 = .ok (.aload_n 0, 1) := by decide +kernel
theorem dX9_costs_47 : decode cX9_costs 47 = .ok (.getfield 28, 3) := by decide +kernel
theorem dX9_costs_50 : decode cX9_costs 50 = .ok (.iload_n 3, 1) := by decide +kernel
theorem dX9_costs_51 : decode cX9_costs 51 = .ok (.putfield 82, 3) := by decide +kernel
theorem dX9_costs_54 : decode cX9_costs 54 = .ok (.iconst 1, 1) := by decide +kernel
theorem dX9_costs_55 : decode cX9_costs 55 = .ok (.ireturn, 1) := by decide +kernel
theorem dX9_place_0 : decode cX9_place 0 = .ok (.aload_n 0, 1) := by decide +kernel
theorem dX9_place_1 : decode cX9_place 1 = .ok (.getfield 19, 3) := by decide +kernel
theorem dX9_place_4 : decode cX9_place 4 = .ok (.invokevirtual 85, 3) := by decide +kernel
theorem dX9_place_7 : decode cX9_place 7 = .ok (.ireturn, 1) := by decide +kernel
theorem dX9_word_0 : decode cX9_word 0 = .ok (.iload_n 1, 1) := by decide +kernel
theorem dX9_word_1 : decode cX9_word 1 = .ok (.bipush 59, 2) := by decide +kernel
theorem dX9_word_3 : decode cX9_word 3 = .ok (.invokestatic 72, 3) := by decide +kernel
theorem dX9_word_6 : decode cX9_word 6 = .ok (.ifCond .eq 12, 3) := by decide +kernel
theorem dX9_word_9 : decode cX9_word 9 = .ok (.iload_n 2, 1) := by decide +kernel
theorem dX9_word_10 : decode cX9_word 10 = .ok (.bipush 99, 2) := by decide +kernel
theorem dX9_word_12 : decode cX9_word 12 = .ok (.invokestatic 72, 3) := by decide +kernel
theorem dX9_word_15 : decode cX9_word 15 = .ok (.ifCond .ne 5, 3) := by decide +kernel
theorem dX9_word_18 : decode cX9_word 18 = .ok (.iconst (-1), 1) := by decide +kernel
theorem dX9_word_19 : decode cX9_word 19 = .ok (.ireturn, 1) := by decide +kernel
theorem dX9_word_20 : decode cX9_word 20 = .ok (.aload_n 0, 1) := by decide +kernel
theorem dX9_word_21 : decode cX9_word 21 = .ok (.getfield 19, 3) := by decide +kernel
theorem dX9_word_24 : decode cX9_word 24 = .ok (.iload_n 1, 1) := by decide +kernel
theorem dX9_word_25 : decode cX9_word 25 = .ok (.iload_n 2, 1) := by decide +kernel
theorem dX9_word_26 : decode cX9_word 26 = .ok (.invokevirtual 88, 3) := by decide +kernel
theorem dX9_word_29 : decode cX9_word 29 = .ok (.ireturn, 1) := by decide +kernel
theorem dX9_say_0 : decode cX9_say 0 = .ok (.aload_n 0, 1) := by decide +kernel
theorem dX9_say_1 : decode cX9_say 1 = .ok (.getfield 37, 3) := by decide +kernel
theorem dX9_say_4 : decode cX9_say 4 = .ok (.iconst 0, 1) := by decide +kernel
theorem dX9_say_5 : decode cX9_say 5 = .ok (.putfield 92, 3) := by decide +kernel
theorem dX9_say_8 : decode cX9_say 8 = .ok (.aload_n 0, 1) := by decide +kernel
theorem dX9_say_9 : decode cX9_say 9 = .ok (.getfield 28, 3) := by decide +kernel
theorem dX9_say_12 : decode cX9_say 12 = .ok (.invokevirtual 95, 3) := by decide +kernel
theorem dX9_say_15 : decode cX9_say 15 = .ok (.aload_n 0, 1) := by decide +kernel
theorem dX9_say_16 : decode cX9_say 16 = .ok (.getfield 37, 3) := by decide +kernel
theorem dX9_say_19 : decode cX9_say 19 = .ok (.getfield 98, 3) := by decide +kernel
theorem dX9_say_22 : decode cX9_say 22 = .ok (.ifCond .ne 24, 3) := by decide +kernel
theorem dX9_say_25 : decode cX9_say 25 = .ok (.aload_n 0, 1) := by decide +kernel
theorem dX9_say_26 : decode cX9_say 26 = .ok (.getfield 28, 3) := by decide +kernel
theorem dX9_say_29 : decode cX9_say 29 = .ok (.aload_n 0, 1) := by decide +kernel
theorem dX9_say_30 : decode cX9_say 30 = .ok (.getfield 37, 3) := by decide +kernel
theorem dX9_say_33 : decode cX9_say 33 = .ok (.getfield 53, 3) := by decide +kernel
theorem dX9_say_36 : decode cX9_say 36 = .ok (.aload_n 0, 1) := by decide +kernel
theorem dX9_say_37 : decode cX9_say 37 = .ok (.getfield 37, 3) := by decide +kernel
theorem dX9_say_40 : decode cX9_say 40 = .ok (.getfield 102, 3) := by decide +kernel
theorem dX9_say_43 : decode cX9_say 43 = .ok (.invokevirtual 105, 3) := by decide +kernel
theorem dX9_say_46 : decode cX9_say 46 = .ok (.aload_n 0, 1) := by decide +kernel
theorem dX9_say_47 : decode cX9_say 47 = .ok (.getfield 28, 3) := by decide +kernel
theorem dX9_say_50 : decode cX9_say 50 = .ok (.iconst 0, 1) := by decide +kernel
theorem dX9_say_51 : decode cX9_say 51 = .ok (.invokevirtual 109, 3) := by decide +kernel
theorem dX9_say_54 : decode cX9_say 54 = .ok (.ifCond .eq 17, 3) := by decide +kernel
theorem dX9_say_57 : decode cX9_say 57 = .ok (.aload_n 0, 1) := by decide +kernel
theorem dX9_say_58 : decode cX9_say 58 = .ok (.aload_n 0, 1) := by decide +kernel
theorem dX9_say_59 : decode cX9_say 59 = .ok (.getfield 37, 3) := by decide +kernel
theorem dX9_say_62 : decode cX9_say 62 = .ok (.invokevirtual 112, 3) := by decide +kernel
theorem dX9_say_65 : decode cX9_say 65 = .ok (.putfield 45, 3) := by decide +kernel
theorem dX9_say_68 : decode cX9_say 68 = .ok (.goto 32, 3) := by decide +kernel
theorem dX9_say_71 : decode cX9_say 71 = .ok (.aload_n 0, 1) := by decide +kernel
theorem dX9_say_72 : decode cX9_say 72 = .ok (.aload_n 0, 1) := by decide +kernel
theorem dX9_say_73 : decode cX9_say 73 = .ok (.getfield 19, 3) := by decide +kernel
theorem dX9_say_76 : decode cX9_say 76 = .ok (.getfield 115, 3) := by decide +kernel
theorem dX9_say_79 : decode cX9_say 79 = .ok (.ifCond .ne 17, 3) := by decide +kernel
theorem dX9_say_82 : decode cX9_say 82 = .ok (.aload_n 0, 1) := by decide +kernel
theorem dX9_say_83 : decode cX9_say 83 = .ok (.getfield 37, 3) := by decide +kernel
theorem dX9_say_86 : decode cX9_say 86 = .ok (.getfield 98, 3) := by decide +kernel
theorem dX9_say_89 : decode cX9_say 89 = .ok (.ifCond .ne 7, 3) := by decide +kernel
theorem dX9_say_92 : decode cX9_say 92 = .ok (.iconst 0, 1) := by decide +kernel
theorem dX9_say_93 : decode cX9_say 93 = .ok (.goto 4, 3) := by decide +kernel
theorem dX9_say_96 : decode cX9_say 96 = .ok (.iconst 1, 1) := by decide +kernel
theorem dX9_say_97 : decode cX9_say 97 = .ok (.putfield 45, 3) := by decide +kernel
theorem dX9_say_100 : decode cX9_say 100 = .ok (.aload_n 0, 1) := by decide +kernel
theorem dX9_say_101 : decode cX9_say 101 = .ok (.getfield 19, 3) := by decide +kernel
theorem dX9_say_104 : decode cX9_say 104 = .ok (.invokevirtual 118, 3) := by decide +kernel
theorem dX9_say_107 : decode cX9_say 107 = .ok (.aload_n 0, 1) := by decide +kernel
theorem dX9_say_108 : decode cX9_say 108 = .ok (.aload_n 0, 1) := by decide +kernel
theorem dX9_say_109 : decode cX9_say 109 = .ok (.getfield 45, 3) := by decide +kernel
theorem dX9_say_112 : decode cX9_say 112 = .ok (.iconst 1, 1) := by decide +kernel
theorem dX9_say_113 : decode cX9_say 113 = .ok (.if_icmp .gt 17, 3) := by decide +kernel
theorem dX9_say_116 : decode cX9_say 116 = .ok (.aload_n 0, 1) := by decide +kernel
theorem dX9_say_117 : decode cX9_say 117 = .ok (.getfield 121, 3) := by decide +kernel
theorem dX9_say_120 : decode cX9_say 120 = .ok (.iconst 1, 1) := by decide +kernel
theorem dX9_say_121 : decode cX9_say 121 = .ok (.iadd, 1) := by decide +kernel
theorem dX9_say_122 : decode cX9_say 122 = .ok (.bipush 9, 2) := by decide +kernel
theorem dX9_say_124 : decode cX9_say 124 = .ok (.invokestatic 124, 3) := by decide +kernel
theorem dX9_say_127 : decode cX9_say 127 = .ok (.goto 4, 3) := by decide +kernel
theorem dX9_say_130 : decode cX9_say 130 = .ok (.iconst 0, 1) := by decide +kernel
theorem dX9_say_131 : decode cX9_say 131 = .ok (.putfield 121, 3) := by decide +kernel
theorem dX9_say_134 : decode cX9_say 134 = .ok (.aload_n 0, 1) := by decide +kernel
theorem dX9_say_135 : decode cX9_say 135 = .ok (.aload_n 0, 1) := by decide +kernel
theorem dX9_say_136 : decode cX9_say 136 = .ok (.getfield 45, 3) := by decide +kernel
theorem dX9_say_139 : decode cX9_say 139 = .ok (.iconst 2, 1) := by decide +kernel
theorem dX9_say_140 : decode cX9_say 140 = .ok (.if_icmp .ne 10, 3) := by decide +kernel
theorem dX9_say_143 : decode cX9_say 143 = .ok (.aload_n 0, 1) := by decide +kernel
theorem dX9_say_144 : decode cX9_say 144 = .ok (.invokevirtual 129, 3) := by decide +kernel
theorem dX9_say_147 : decode cX9_say 147 = .ok (.goto 4, 3) := by decide +kernel
theorem dX9_say_150 : decode cX9_say 150 = .ok (.iconst 0, 1) := by decide +kernel
theorem dX9_say_151 : decode cX9_say 151 = .ok (.putfield 132, 3) := by decide +kernel
theorem dX9_say_154 : decode cX9_say 154 = .ok (.aload_n 0, 1) := by decide +kernel
theorem dX9_say_155 : decode cX9_say 155 = .ok (.getfield 45, 3) := by decide +kernel
theorem dX9_say_158 : decode cX9_say 158 = .ok (.ireturn, 1) := by decide +kernel
theorem dX9_goOn_0 : decode cX9_goOn 0 = .ok (.aload_n 0, 1) := by decide +kernel
theorem dX9_goOn_1 : decode cX9_goOn 1 = .ok (.getfield 37, 3) := by decide +kernel
theorem dX9_goOn_4 : decode cX9_goOn 4 = .ok (.getfield 98, 3) := by decide +kernel
theorem dX9_goOn_7 : decode cX9_goOn 7 = .ok (.istore_n 1, 1) := by decide +kernel
theorem dX9_goOn_8 : decode cX9_goOn 8 = .ok (.aload_n 0, 1) := by decide +kernel
theorem dX9_goOn_9 : decode cX9_goOn 9 = .ok (.getfield 37, 3) := by decide +kernel
theorem dX9_goOn_12 : decode cX9_goOn 12 = .ok (.iconst 0, 1) := by decide +kernel
theorem dX9_goOn_13 : decode cX9_goOn 13 = .ok (.putfield 98, 3) := by decide +kernel
theorem dX9_goOn_16 : decode cX9_goOn 16 = .ok (.iload_n 1, 1) := by decide +kernel
theorem dX9_goOn_17 : decode cX9_goOn 17 = .ok (.ireturn, 1) := by decide +kernel
theorem dX9_told_0 : decode cX9_told 0 = .ok (.aload_n 0, 1) := by decide +kernel
theorem dX9_told_1 : decode cX9_told 1 = .ok (.getfield 45, 3) := by decide +kernel
theorem dX9_told_4 : decode cX9_told 4 = .ok (.iconst (-1), 1) := by decide +kernel
theorem dX9_told_5 : decode cX9_told 5 = .ok (.if_icmp .ne 5, 3) := by decide +kernel
theorem dX9_told_8 : decode cX9_told 8 = .ok (.iconst (-1), 1) := by decide +kernel
theorem dX9_told_9 : decode cX9_told 9 = .ok (.ireturn, 1) := by decide +kernel
theorem dX9_told_10 : decode cX9_told 10 = .ok (.iload_n 1, 1) := by decide +kernel
theorem dX9_told_11 : decode cX9_told 11 = .ok (.tableswitch 121 0 8 #[49, 54, 63, 72, 81, 90, 99, 108, 116], 49) := by decide +kernel
theorem dX9_told_60 : decode cX9_told 60 = .ok (.aload_n 0, 1) := by decide +kernel
theorem dX9_told_61 : decode cX9_told 61 = .ok (.getfield 45, 3) := by decide +kernel
theorem dX9_told_64 : decode cX9_told 64 = .ok (.ireturn, 1) := by decide +kernel
theorem dX9_told_65 : decode cX9_told 65 = .ok (.aload_n 0, 1) := by decide +kernel
theorem dX9_told_66 : decode cX9_told 66 = .ok (.getfield 28, 3) := by decide +kernel
theorem dX9_told_69 : decode cX9_told 69 = .ok (.iconst 0, 1) := by decide +kernel
theorem dX9_told_70 : decode cX9_told 70 = .ok (.invokevirtual 135, 3) := by decide +kernel
theorem dX9_told_73 : decode cX9_told 73 = .ok (.ireturn, 1) := by decide +kernel
theorem dX9_told_74 : decode cX9_told 74 = .ok (.aload_n 0, 1) := by decide +kernel
theorem dX9_told_75 : decode cX9_told 75 = .ok (.getfield 28, 3) := by decide +kernel
theorem dX9_told_78 : decode cX9_told 78 = .ok (.iconst 0, 1) := by decide +kernel
theorem dX9_told_79 : decode cX9_told 79 = .ok (.invokevirtual 139, 3) := by decide +kernel
theorem dX9_told_82 : decode cX9_told 82 = .ok (.ireturn, 1) := by decide +kernel
theorem dX9_told_83 : decode cX9_told 83 = .ok (.aload_n 0, 1) := by decide +kernel
theorem dX9_told_84 : decode cX9_told 84 = .ok (.getfield 28, 3) := by decide +kernel
theorem dX9_told_87 : decode cX9_told 87 = .ok (.iconst 0, 1) := by decide +kernel
theorem dX9_told_88 : decode cX9_told 88 = .ok (.invokevirtual 142, 3) := by decide +kernel
theorem dX9_told_91 : decode cX9_told 91 = .ok (.ireturn, 1) := by decide +kernel
theorem dX9_told_92 : decode cX9_told 92 = .ok (.aload_n 0, 1) := by decide +kernel
theorem dX9_told_93 : decode cX9_told 93 = .ok (.getfield 28, 3) := by decide +kernel
theorem dX9_told_96 : decode cX9_told 96 = .ok (.iconst 1, 1) := by decide +kernel
theorem dX9_told_97 : decode cX9_told 97 = .ok (.invokevirtual 135, 3) := by decide +kernel
theorem dX9_told_100 : decode cX9_told 100 = .ok (.ireturn, 1) := by decide +kernel
theorem dX9_told_101 : decode cX9_told 101 = .ok (.aload_n 0, 1) := by decide +kernel
theorem dX9_told_102 : decode cX9_told 102 = .ok (.getfield 28, 3) := by decide +kernel
theorem dX9_told_105 : decode cX9_told 105 = .ok (.iconst 1, 1) := by decide +kernel
theorem dX9_told_106 : decode cX9_told 106 = .ok (.invokevirtual 139, 3) := by decide +kernel
theorem dX9_told_109 : decode cX9_told 109 = .ok (.ireturn, 1) := by decide +kernel
theorem dX9_told_110 : decode cX9_told 110 = .ok (.aload_n 0, 1) := by decide +kernel
theorem dX9_told_111 : decode cX9_told 111 = .ok (.getfield 28, 3) := by decide +kernel
theorem dX9_told_114 : decode cX9_told 114 = .ok (.iconst 1, 1) := by decide +kernel
theorem dX9_told_115 : decode cX9_told 115 = .ok (.invokevirtual 142, 3) := by decide +kernel
theorem dX9_told_118 : decode cX9_told 118 = .ok (.ireturn, 1) := by decide +kernel
theorem dX9_told_119 : decode cX9_told 119 = .ok (.aload_n 0, 1) := by decide +kernel
theorem dX9_told_120 : decode cX9_told 120 = .ok (.getfield 37, 3) := by decide +kernel
theorem dX9_told_123 : decode cX9_told 123 = .ok (.getfield 92, 3) := by decide +kernel
theorem dX9_told_126 : decode cX9_told 126 = .ok (.ireturn, 1) := by decide +kernel
theorem dX9_told_127 : decode cX9_told 127 = .ok (.aload_n 0, 1) := by decide +kernel
theorem dX9_told_128 : decode cX9_told 128 = .ok (.getfield 132, 3) := by decide +kernel
theorem dX9_told_131 : decode cX9_told 131 = .ok (.ireturn, 1) := by decide +kernel
theorem dX9_told_132 : decode cX9_told 132 = .ok (.iconst (-1), 1) := by decide +kernel
theorem dX9_told_133 : decode cX9_told 133 = .ok (.ireturn, 1) := by decide +kernel
theorem dX9_about_0 : decode cX9_about 0 = .ok (.iload_n 1, 1) := by decide +kernel
theorem dX9_about_1 : decode cX9_about 1 = .ok (.tableswitch 123 0 8 #[51, 59, 67, 75, 83, 94, 99, 107, 115], 51) := by decide +kernel
theorem dX9_about_52 : decode cX9_about 52 = .ok (.aload_n 0, 1) := by decide +kernel
theorem dX9_about_53 : decode cX9_about 53 = .ok (.getfield 37, 3) := by decide +kernel
theorem dX9_about_56 : decode cX9_about 56 = .ok (.getfield 53, 3) := by decide +kernel
theorem dX9_about_59 : decode cX9_about 59 = .ok (.ireturn, 1) := by decide +kernel
theorem dX9_about_60 : decode cX9_about 60 = .ok (.aload_n 0, 1) := by decide +kernel
theorem dX9_about_61 : decode cX9_about 61 = .ok (.getfield 37, 3) := by decide +kernel
theorem dX9_about_64 : decode cX9_about 64 = .ok (.getfield 102, 3) := by decide +kernel
theorem dX9_about_67 : decode cX9_about 67 = .ok (.ireturn, 1) := by decide +kernel
theorem dX9_about_68 : decode cX9_about 68 = .ok (.aload_n 0, 1) := by decide +kernel
theorem dX9_about_69 : decode cX9_about 69 = .ok (.getfield 37, 3) := by decide +kernel
theorem dX9_about_72 : decode cX9_about 72 = .ok (.getfield 145, 3) := by decide +kernel
theorem dX9_about_75 : decode cX9_about 75 = .ok (.ireturn, 1) := by decide +kernel
theorem dX9_about_76 : decode cX9_about 76 = .ok (.aload_n 0, 1) := by decide +kernel
theorem dX9_about_77 : decode cX9_about 77 = .ok (.getfield 10, 3) := by decide +kernel
theorem dX9_about_80 : decode cX9_about 80 = .ok (.invokevirtual 148, 3) := by decide +kernel
theorem dX9_about_83 : decode cX9_about 83 = .ok (.ireturn, 1) := by decide +kernel
theorem dX9_about_84 : decode cX9_about 84 = .ok (.aload_n 0, 1) := by decide +kernel
theorem dX9_about_85 : decode cX9_about 85 = .ok (.getfield 37, 3) := by decide +kernel
theorem dX9_about_88 : decode cX9_about 88 = .ok (.getfield 98, 3) := by decide +kernel
theorem dX9_about_91 : decode cX9_about 91 = .ok (.invokestatic 151, 3) := by decide +kernel
theorem dX9_about_94 : decode cX9_about 94 = .ok (.ireturn, 1) := by decide +kernel
theorem dX9_about_95 : decode cX9_about 95 = .ok (.aload_n 0, 1) := by decide +kernel
theorem dX9_about_96 : decode cX9_about 96 = .ok (.getfield 121, 3) := by decide +kernel
theorem dX9_about_99 : decode cX9_about 99 = .ok (.ireturn, 1) := by decide +kernel
theorem dX9_about_100 : decode cX9_about 100 = .ok (.aload_n 0, 1) := by decide +kernel
theorem dX9_about_101 : decode cX9_about 101 = .ok (.getfield 10, 3) := by decide +kernel
theorem dX9_about_104 : decode cX9_about 104 = .ok (.getfield 155, 3) := by decide +kernel
theorem dX9_about_107 : decode cX9_about 107 = .ok (.ireturn, 1) := by decide +kernel
theorem dX9_about_108 : decode cX9_about 108 = .ok (.aload_n 0, 1) := by decide +kernel
theorem dX9_about_109 : decode cX9_about 109 = .ok (.getfield 10, 3) := by decide +kernel
theorem dX9_about_112 : decode cX9_about 112 = .ok (.invokevirtual 158, 3) := by decide +kernel
theorem dX9_about_115 : decode cX9_about 115 = .ok (.ireturn, 1) := by decide +kernel
theorem dX9_about_116 : decode cX9_about 116 = .ok (.aload_n 0, 1) := by decide +kernel
theorem dX9_about_117 : decode cX9_about 117 = .ok (.getfield 19, 3) := by decide +kernel
theorem dX9_about_120 : decode cX9_about 120 = .ok (.getfield 115, 3) := by decide +kernel
theorem dX9_about_123 : decode cX9_about 123 = .ok (.ireturn, 1) := by decide +kernel
theorem dX9_about_124 : decode cX9_about 124 = .ok (.iconst (-1), 1) := by decide +kernel
theorem dX9_about_125 : decode cX9_about 125 = .ok (.ireturn, 1) := by decide +kernel
theorem dX9_field_0 : decode cX9_field 0 = .ok (.aload_n 0, 1) := by decide +kernel
theorem dX9_field_1 : decode cX9_field 1 = .ok (.getfield 10, 3) := by decide +kernel
theorem dX9_field_4 : decode cX9_field 4 = .ok (.iload_n 1, 1) := by decide +kernel
theorem dX9_field_5 : decode cX9_field 5 = .ok (.invokevirtual 161, 3) := by decide +kernel
theorem dX9_field_8 : decode cX9_field 8 = .ok (.astore_n 3, 1) := by decide +kernel
theorem dX9_field_9 : decode cX9_field 9 = .ok (.aload_n 3, 1) := by decide +kernel
theorem dX9_field_10 : decode cX9_field 10 = .ok (.ifnonnull 5, 3) := by decide +kernel
theorem dX9_field_13 : decode cX9_field 13 = .ok (.iconst (-1), 1) := by decide +kernel
theorem dX9_field_14 : decode cX9_field 14 = .ok (.ireturn, 1) := by decide +kernel
theorem dX9_field_15 : decode cX9_field 15 = .ok (.iload_n 2, 1) := by decide +kernel
theorem dX9_field_16 : decode cX9_field 16 = .ok (.tableswitch 126 0 7 #[48, 53, 58, 63, 71, 79, 102, 110], 48) := by decide +kernel
theorem dX9_field_64 : decode cX9_field 64 = .ok (.aload_n 3, 1) := by decide +kernel
theorem dX9_field_65 : decode cX9_field 65 = .ok (.getfield 165, 3) := by decide +kernel
theorem dX9_field_68 : decode cX9_field 68 = .ok (.ireturn, 1) := by decide +kernel
theorem dX9_field_69 : decode cX9_field 69 = .ok (.aload_n 3, 1) := by decide +kernel
theorem dX9_field_70 : decode cX9_field 70 = .ok (.getfield 170, 3) := by decide +kernel
theorem dX9_field_73 : decode cX9_field 73 = .ok (.ireturn, 1) := by decide +kernel
theorem dX9_field_74 : decode cX9_field 74 = .ok (.aload_n 3, 1) := by decide +kernel
theorem dX9_field_75 : decode cX9_field 75 = .ok (.getfield 173, 3) := by decide +kernel
theorem dX9_field_78 : decode cX9_field 78 = .ok (.ireturn, 1) := by decide +kernel
theorem dX9_field_79 : decode cX9_field 79 = .ok (.aload_n 3, 1) := by decide +kernel
theorem dX9_field_80 : decode cX9_field 80 = .ok (.getfield 176, 3) := by decide +kernel
theorem dX9_field_83 : decode cX9_field 83 = .ok (.invokestatic 151, 3) := by decide +kernel
theorem dX9_field_86 : decode cX9_field 86 = .ok (.ireturn, 1) := by decide +kernel
theorem dX9_field_87 : decode cX9_field 87 = .ok (.aload_n 3, 1) := by decide +kernel
theorem dX9_field_88 : decode cX9_field 88 = .ok (.getfield 179, 3) := by decide +kernel
theorem dX9_field_91 : decode cX9_field 91 = .ok (.invokestatic 151, 3) := by decide +kernel
theorem dX9_field_94 : decode cX9_field 94 = .ok (.ireturn, 1) := by decide +kernel
theorem dX9_field_95 : decode cX9_field 95 = .ok (.aload_n 3, 1) := by decide +kernel
theorem dX9_field_96 : decode cX9_field 96 = .ok (.getfield 179, 3) := by decide +kernel
theorem dX9_field_99 : decode cX9_field 99 = .ok (.ifCond .eq 14, 3) := by decide +kernel
theorem dX9_field_102 : decode cX9_field 102 = .ok (.aload_n 3, 1) := by decide +kernel
theorem dX9_field_103 : decode cX9_field 103 = .ok (.getfield 182, 3) := by decide +kernel
theorem dX9_field_106 : decode cX9_field 106 = .ok (.ifCond .eq 7, 3) := by decide +kernel
theorem dX9_field_109 : decode cX9_field 109 = .ok (.iconst 1, 1) := by decide +kernel
theorem dX9_field_110 : decode cX9_field 110 = .ok (.goto 4, 3) := by decide +kernel
theorem dX9_field_113 : decode cX9_field 113 = .ok (.iconst 0, 1) := by decide +kernel
theorem dX9_field_114 : decode cX9_field 114 = .ok (.invokestatic 151, 3) := by decide +kernel
theorem dX9_field_117 : decode cX9_field 117 = .ok (.ireturn, 1) := by decide +kernel
theorem dX9_field_118 : decode cX9_field 118 = .ok (.aload_n 3, 1) := by decide +kernel
theorem dX9_field_119 : decode cX9_field 119 = .ok (.getfield 185, 3) := by decide +kernel
theorem dX9_field_122 : decode cX9_field 122 = .ok (.invokestatic 151, 3) := by decide +kernel
theorem dX9_field_125 : decode cX9_field 125 = .ok (.ireturn, 1) := by decide +kernel
theorem dX9_field_126 : decode cX9_field 126 = .ok (.aload_n 3, 1) := by decide +kernel
theorem dX9_field_127 : decode cX9_field 127 = .ok (.getfield 179, 3) := by decide +kernel
theorem dX9_field_130 : decode cX9_field 130 = .ok (.ifCond .eq 10, 3) := by decide +kernel
theorem dX9_field_133 : decode cX9_field 133 = .ok (.aload_n 3, 1) := by decide +kernel
theorem dX9_field_134 : decode cX9_field 134 = .ok (.getfield 188, 3) := by decide +kernel
theorem dX9_field_137 : decode cX9_field 137 = .ok (.goto 4, 3) := by decide +kernel
theorem dX9_field_140 : decode cX9_field 140 = .ok (.iconst (-1), 1) := by decide +kernel
theorem dX9_field_141 : decode cX9_field 141 = .ok (.ireturn, 1) := by decide +kernel
theorem dX9_field_142 : decode cX9_field 142 = .ok (.iconst (-1), 1) := by decide +kernel
theorem dX9_field_143 : decode cX9_field 143 = .ok (.ireturn, 1) := by decide +kernel
theorem dX9_hearBack_0 : decode cX9_hearBack 0 = .ok (.aload_n 0, 1) := by decide +kernel
theorem dX9_hearBack_1 : decode cX9_hearBack 1 = .ok (.getfield 10, 3) := by decide +kernel
theorem dX9_hearBack_4 : decode cX9_hearBack 4 = .ok (.invokevirtual 190, 3) := by decide +kernel
theorem dX9_hearBack_7 : decode cX9_hearBack 7 = .ok (.ireturn, 1) := by decide +kernel
theorem dX9_send_0 : decode cX9_send 0 = .ok (.aload_n 0, 1) := by decide +kernel
theorem dX9_send_1 : decode cX9_send 1 = .ok (.getfield 37, 3) := by decide +kernel
theorem dX9_send_4 : decode cX9_send 4 = .ok (.getfield 193, 3) := by decide +kernel
theorem dX9_send_7 : decode cX9_send 7 = .ok (.ifCond .ne 23, 3) := by decide +kernel
theorem dX9_send_10 : decode cX9_send 10 = .ok (.aload_n 0, 1) := by decide +kernel
theorem dX9_send_11 : decode cX9_send 11 = .ok (.getfield 10, 3) := by decide +kernel
theorem dX9_send_14 : decode cX9_send 14 = .ok (.invokevirtual 148, 3) := by decide +kernel
theorem dX9_send_17 : decode cX9_send 17 = .ok (.ifCond .gt 13, 3) := by decide +kernel
theorem dX9_send_20 : decode cX9_send 20 = .ok (.aload_n 0, 1) := by decide +kernel
theorem dX9_send_21 : decode cX9_send 21 = .ok (.getfield 10, 3) := by decide +kernel
theorem dX9_send_24 : decode cX9_send 24 = .ok (.invokevirtual 158, 3) := by decide +kernel
theorem dX9_send_27 : decode cX9_send 27 = .ok (.ifCond .le 5, 3) := by decide +kernel
theorem dX9_send_30 : decode cX9_send 30 = .ok (.iconst 0, 1) := by decide +kernel
theorem dX9_send_31 : decode cX9_send 31 = .ok (.ireturn, 1) := by decide +kernel
theorem dX9_send_32 : decode cX9_send 32 = .ok (.aload_n 0, 1) := by decide +kernel
theorem dX9_send_33 : decode cX9_send 33 = .ok (.getfield 37, 3) := by decide +kernel
theorem dX9_send_36 : decode cX9_send 36 = .ok (.iconst 1, 1) := by decide +kernel
theorem dX9_send_37 : decode cX9_send 37 = .ok (.putfield 193, 3) := by decide +kernel
theorem dX9_send_40 : decode cX9_send 40 = .ok (.iconst 1, 1) := by decide +kernel
theorem dX9_send_41 : decode cX9_send 41 = .ok (.ireturn, 1) := by decide +kernel
theorem dX9_differingDigits_0 : decode cX9_differingDigits 0 = .ok (.aload_n 0, 1) := by decide +kernel
theorem dX9_differingDigits_1 : decode cX9_differingDigits 1 = .ok (.getfield 10, 3) := by decide +kernel
theorem dX9_differingDigits_4 : decode cX9_differingDigits 4 = .ok (.aload_n 0, 1) := by decide +kernel
theorem dX9_differingDigits_5 : decode cX9_differingDigits 5 = .ok (.getfield 37, 3) := by decide +kernel
theorem dX9_differingDigits_8 : decode cX9_differingDigits 8 = .ok (.getfield 53, 3) := by decide +kernel
theorem dX9_differingDigits_11 : decode cX9_differingDigits 11 = .ok (.invokevirtual 161, 3) := by decide +kernel
theorem dX9_differingDigits_14 : decode cX9_differingDigits 14 = .ok (.astore_n 1, 1) := by decide +kernel
theorem dX9_differingDigits_15 : decode cX9_differingDigits 15 = .ok (.aload_n 1, 1) := by decide +kernel
theorem dX9_differingDigits_16 : decode cX9_differingDigits 16 = .ok (.ifnull 25, 3) := by decide +kernel
theorem dX9_differingDigits_19 : decode cX9_differingDigits 19 = .ok (.aload_n 0, 1) := by decide +kernel
theorem dX9_differingDigits_20 : decode cX9_differingDigits 20 = .ok (.getfield 28, 3) := by decide +kernel
theorem dX9_differingDigits_23 : decode cX9_differingDigits 23 = .ok (.iconst 0, 1) := by decide +kernel
theorem dX9_differingDigits_24 : decode cX9_differingDigits 24 = .ok (.invokevirtual 135, 3) := by decide +kernel
theorem dX9_differingDigits_27 : decode cX9_differingDigits 27 = .ok (.ifCond .ne 14, 3) := by decide +kernel
theorem dX9_differingDigits_30 : decode cX9_differingDigits 30 = .ok (.aload_n 0, 1) := by decide +kernel
theorem dX9_differingDigits_31 : decode cX9_differingDigits 31 = .ok (.getfield 28, 3) := by decide +kernel
theorem dX9_differingDigits_34 : decode cX9_differingDigits 34 = .ok (.iconst 1, 1) := by decide +kernel
theorem dX9_differingDigits_35 : decode cX9_differingDigits 35 = .ok (.invokevirtual 135, 3) := by decide +kernel
theorem dX9_differingDigits_38 : decode cX9_differingDigits 38 = .ok (.ifCond .eq 5, 3) := by decide +kernel
theorem dX9_differingDigits_41 : decode cX9_differingDigits 41 = .ok (.iconst 0, 1) := by decide +kernel
theorem dX9_differingDigits_42 : decode cX9_differingDigits 42 = .ok (.ireturn, 1) := by decide +kernel
theorem dX9_differingDigits_43 : decode cX9_differingDigits 43 = .ok (.iconst 0, 1) := by decide +kernel
theorem dX9_differingDigits_44 : decode cX9_differingDigits 44 = .ok (.istore_n 2, 1) := by decide +kernel
theorem dX9_differingDigits_45 : decode cX9_differingDigits 45 = .ok (.aload_n 0, 1) := by decide +kernel
theorem dX9_differingDigits_46 : decode cX9_differingDigits 46 = .ok (.getfield 28, 3) := by decide +kernel
theorem dX9_differingDigits_49 : decode cX9_differingDigits 49 = .ok (.iconst 0, 1) := by decide +kernel
theorem dX9_differingDigits_50 : decode cX9_differingDigits 50 = .ok (.invokevirtual 139, 3) := by decide +kernel
theorem dX9_differingDigits_53 : decode cX9_differingDigits 53 = .ok (.istore_n 3, 1) := by decide +kernel
theorem dX9_differingDigits_54 : decode cX9_differingDigits 54 = .ok (.aload_n 0, 1) := by decide +kernel
theorem dX9_differingDigits_55 : decode cX9_differingDigits 55 = .ok (.getfield 28, 3) := by decide +kernel
theorem dX9_differingDigits_58 : decode cX9_differingDigits 58 = .ok (.iconst 1, 1) := by decide +kernel
theorem dX9_differingDigits_59 : decode cX9_differingDigits 59 = .ok (.invokevirtual 139, 3) := by decide +kernel
theorem dX9_differingDigits_62 : decode cX9_differingDigits 62 = .ok (.istore 4, 2) := by decide +kernel
theorem dX9_differingDigits_64 : decode cX9_differingDigits 64 = .ok (.aload_n 1, 1) := by decide +kernel
theorem dX9_differingDigits_65 : decode cX9_differingDigits 65 = .ok (.getfield 170, 3) := by decide +kernel
theorem dX9_differingDigits_68 : decode cX9_differingDigits 68 = .ok (.iconst 1, 1) := by decide +kernel
theorem dX9_differingDigits_69 : decode cX9_differingDigits 69 = .ok (.isub, 1) := by decide +kernel
theorem dX9_differingDigits_70 : decode cX9_differingDigits 70 = .ok (.istore 5, 2) := by decide +kernel
theorem dX9_differingDigits_72 : decode cX9_differingDigits 72 = .ok (.iload 5, 2) := by decide +kernel
theorem dX9_differingDigits_74 : decode cX9_differingDigits 74 = .ok (.ifCond .lt 40, 3) := by decide +kernel
theorem dX9_differingDigits_77 : decode cX9_differingDigits 77 = .ok (.iload_n 3, 1) := by decide +kernel
theorem dX9_differingDigits_78 : decode cX9_differingDigits 78 = .ok (.bipush 10, 2) := by decide +kernel
theorem dX9_differingDigits_80 : decode cX9_differingDigits 80 = .ok (.irem, 1) := by decide +kernel
theorem dX9_differingDigits_81 : decode cX9_differingDigits 81 = .ok (.iload 4, 2) := by decide +kernel
theorem dX9_differingDigits_83 : decode cX9_differingDigits 83 = .ok (.bipush 10, 2) := by decide +kernel
theorem dX9_differingDigits_85 : decode cX9_differingDigits 85 = .ok (.irem, 1) := by decide +kernel
theorem dX9_differingDigits_86 : decode cX9_differingDigits 86 = .ok (.if_icmp .eq 10, 3) := by decide +kernel
theorem dX9_differingDigits_89 : decode cX9_differingDigits 89 = .ok (.iload_n 2, 1) := by decide +kernel
theorem dX9_differingDigits_90 : decode cX9_differingDigits 90 = .ok (.iconst 1, 1) := by decide +kernel
theorem dX9_differingDigits_91 : decode cX9_differingDigits 91 = .ok (.iload 5, 2) := by decide +kernel
theorem dX9_differingDigits_93 : decode cX9_differingDigits 93 = .ok (.ishl, 1) := by decide +kernel
theorem dX9_differingDigits_94 : decode cX9_differingDigits 94 = .ok (.ior, 1) := by decide +kernel
theorem dX9_differingDigits_95 : decode cX9_differingDigits 95 = .ok (.istore_n 2, 1) := by decide +kernel
theorem dX9_differingDigits_96 : decode cX9_differingDigits 96 = .ok (.iload_n 3, 1) := by decide +kernel
theorem dX9_differingDigits_97 : decode cX9_differingDigits 97 = .ok (.bipush 10, 2) := by decide +kernel
theorem dX9_differingDigits_99 : decode cX9_differingDigits 99 = .ok (.idiv, 1) := by decide +kernel
theorem dX9_differingDigits_100 : decode cX9_differingDigits 100 = .ok (.istore_n 3, 1) := by decide +kernel
theorem dX9_differingDigits_101 : decode cX9_differingDigits 101 = .ok (.iload 4, 2) := by decide +kernel
theorem dX9_differingDigits_103 : decode cX9_differingDigits 103 = .ok (.bipush 10, 2) := by decide +kernel
theorem dX9_differingDigits_105 : decode cX9_differingDigits 105 = .ok (.idiv, 1) := by decide +kernel
theorem dX9_differingDigits_106 : decode cX9_differingDigits 106 = .ok (.istore 4, 2) := by decide +kernel
theorem dX9_differingDigits_108 : decode cX9_differingDigits 108 = .ok (.iinc 5 (-1), 3) := by decide +kernel
theorem dX9_differingDigits_111 : decode cX9_differingDigits 111 = .ok (.goto (-39), 3) := by decide +kernel
theorem dX9_differingDigits_114 : decode cX9_differingDigits 114 = .ok (.iload_n 2, 1) := by decide +kernel
theorem dX9_differingDigits_115 : decode cX9_differingDigits 115 = .ok (.ireturn, 1) := by decide +kernel
theorem dX9_countOffered_0 : decode cX9_countOffered 0 = .ok (.iconst 0, 1) := by decide +kernel
theorem dX9_countOffered_1 : decode cX9_countOffered 1 = .ok (.istore_n 1, 1) := by decide +kernel
theorem dX9_countOffered_2 : decode cX9_countOffered 2 = .ok (.iload_n 1, 1) := by decide +kernel
theorem dX9_countOffered_3 : decode cX9_countOffered 3 = .ok (.bipush 6, 2) := by decide +kernel
theorem dX9_countOffered_5 : decode cX9_countOffered 5 = .ok (.if_icmp .ge 63, 3) := by decide +kernel
theorem dX9_countOffered_8 : decode cX9_countOffered 8 = .ok (.aload_n 0, 1) := by decide +kernel
theorem dX9_countOffered_9 : decode cX9_countOffered 9 = .ok (.getfield 41, 3) := by decide +kernel
theorem dX9_countOffered_12 : decode cX9_countOffered 12 = .ok (.iload_n 1, 1) := by decide +kernel
theorem dX9_countOffered_13 : decode cX9_countOffered 13 = .ok (.iaload, 1) := by decide +kernel
theorem dX9_countOffered_14 : decode cX9_countOffered 14 = .ok (.iconst (-1), 1) := by decide +kernel
theorem dX9_countOffered_15 : decode cX9_countOffered 15 = .ok (.if_icmp .eq 53, 3) := by decide +kernel
theorem dX9_countOffered_18 : decode cX9_countOffered 18 = .ok (.aload_n 0, 1) := by decide +kernel
theorem dX9_countOffered_19 : decode cX9_countOffered 19 = .ok (.getfield 41, 3) := by decide +kernel
theorem dX9_countOffered_22 : decode cX9_countOffered 22 = .ok (.iload_n 1, 1) := by decide +kernel
theorem dX9_countOffered_23 : decode cX9_countOffered 23 = .ok (.iaload, 1) := by decide +kernel
theorem dX9_countOffered_24 : decode cX9_countOffered 24 = .ok (.invokestatic 196, 3) := by decide +kernel
theorem dX9_countOffered_27 : decode cX9_countOffered 27 = .ok (.ifCond .ne 5, 3) := by decide +kernel
theorem dX9_countOffered_30 : decode cX9_countOffered 30 = .ok (.iconst 0, 1) := by decide +kernel
theorem dX9_countOffered_31 : decode cX9_countOffered 31 = .ok (.ireturn, 1) := by decide +kernel
theorem dX9_countOffered_32 : decode cX9_countOffered 32 = .ok (.iconst 0, 1) := by decide +kernel
theorem dX9_countOffered_33 : decode cX9_countOffered 33 = .ok (.istore_n 2, 1) := by decide +kernel
theorem dX9_countOffered_34 : decode cX9_countOffered 34 = .ok (.iload_n 2, 1) := by decide +kernel
theorem dX9_countOffered_35 : decode cX9_countOffered 35 = .ok (.iload_n 1, 1) := by decide +kernel
theorem dX9_countOffered_36 : decode cX9_countOffered 36 = .ok (.if_icmp .ge 26, 3) := by decide +kernel
theorem dX9_countOffered_39 : decode cX9_countOffered 39 = .ok (.aload_n 0, 1) := by decide +kernel
theorem dX9_countOffered_40 : decode cX9_countOffered 40 = .ok (.getfield 41, 3) := by decide +kernel
theorem dX9_countOffered_43 : decode cX9_countOffered 43 = .ok (.iload_n 2, 1) := by decide +kernel
theorem dX9_countOffered_44 : decode cX9_countOffered 44 = .ok (.iaload, 1) := by decide +kernel
theorem dX9_countOffered_45 : decode cX9_countOffered 45 = .ok (.aload_n 0, 1) := by decide +kernel
theorem dX9_countOffered_46 : decode cX9_countOffered 46 = .ok (.getfield 41, 3) := by decide +kernel
theorem dX9_countOffered_49 : decode cX9_countOffered 49 = .ok (.iload_n 1, 1) := by decide +kernel
theorem dX9_countOffered_50 : decode cX9_countOffered 50 = .ok (.iaload, 1) := by decide +kernel
theorem dX9_countOffered_51 : decode cX9_countOffered 51 = .ok (.if_icmp .ne 5, 3) := by decide +kernel
theorem dX9_countOffered_54 : decode cX9_countOffered 54 = .ok (.iconst 0, 1) := by decide +kernel
theorem dX9_countOffered_55 : decode cX9_countOffered 55 = .ok (.ireturn, 1) := by decide +kernel
theorem dX9_countOffered_56 : decode cX9_countOffered 56 = .ok (.iinc 2 1, 3) := by decide +kernel
theorem dX9_countOffered_59 : decode cX9_countOffered 59 = .ok (.goto (-25), 3) := by decide +kernel
theorem dX9_countOffered_62 : decode cX9_countOffered 62 = .ok (.iinc 1 1, 3) := by decide +kernel
theorem dX9_countOffered_65 : decode cX9_countOffered 65 = .ok (.goto (-63), 3) := by decide +kernel
theorem dX9_countOffered_68 : decode cX9_countOffered 68 = .ok (.iload_n 1, 1) := by decide +kernel
theorem dX9_countOffered_69 : decode cX9_countOffered 69 = .ok (.ireturn, 1) := by decide +kernel
theorem dX9_isWithin_0 : decode cX9_isWithin 0 = .ok (.iload_n 0, 1) := by decide +kernel
theorem dX9_isWithin_1 : decode cX9_isWithin 1 = .ok (.ifCond .lt 12, 3) := by decide +kernel
theorem dX9_isWithin_4 : decode cX9_isWithin 4 = .ok (.iload_n 0, 1) := by decide +kernel
theorem dX9_isWithin_5 : decode cX9_isWithin 5 = .ok (.iload_n 1, 1) := by decide +kernel
theorem dX9_isWithin_6 : decode cX9_isWithin 6 = .ok (.if_icmp .gt 7, 3) := by decide +kernel
theorem dX9_isWithin_9 : decode cX9_isWithin 9 = .ok (.iconst 1, 1) := by decide +kernel
theorem dX9_isWithin_10 : decode cX9_isWithin 10 = .ok (.goto 4, 3) := by decide +kernel
theorem dX9_isWithin_13 : decode cX9_isWithin 13 = .ok (.iconst 0, 1) := by decide +kernel
theorem dX9_isWithin_14 : decode cX9_isWithin 14 = .ok (.ireturn, 1) := by decide +kernel
theorem dX9_isName_0 : decode cX9_isName 0 = .ok (.iload_n 0, 1) := by decide +kernel
theorem dX9_isName_1 : decode cX9_isName 1 = .ok (.bipush 20, 2) := by decide +kernel
theorem dX9_isName_3 : decode cX9_isName 3 = .ok (.if_icmp .lt 13, 3) := by decide +kernel
theorem dX9_isName_6 : decode cX9_isName 6 = .ok (.iload_n 0, 1) := by decide +kernel
theorem dX9_isName_7 : decode cX9_isName 7 = .ok (.bipush 59, 2) := by decide +kernel
theorem dX9_isName_9 : decode cX9_isName 9 = .ok (.if_icmp .gt 7, 3) := by decide +kernel
theorem dX9_isName_12 : decode cX9_isName 12 = .ok (.iconst 1, 1) := by decide +kernel
theorem dX9_isName_13 : decode cX9_isName 13 = .ok (.goto 4, 3) := by decide +kernel
theorem dX9_isName_16 : decode cX9_isName 16 = .ok (.iconst 0, 1) := by decide +kernel
theorem dX9_isName_17 : decode cX9_isName 17 = .ok (.ireturn, 1) := by decide +kernel
theorem dX9_oneIf_0 : decode cX9_oneIf 0 = .ok (.iload_n 0, 1) := by decide +kernel
theorem dX9_oneIf_1 : decode cX9_oneIf 1 = .ok (.ifCond .eq 7, 3) := by decide +kernel
theorem dX9_oneIf_4 : decode cX9_oneIf 4 = .ok (.iconst 1, 1) := by decide +kernel
theorem dX9_oneIf_5 : decode cX9_oneIf 5 = .ok (.goto 4, 3) := by decide +kernel
theorem dX9_oneIf_8 : decode cX9_oneIf 8 = .ok (.iconst 0, 1) := by decide +kernel
theorem dX9_oneIf_9 : decode cX9_oneIf 9 = .ok (.ireturn, 1) := by decide +kernel
theorem dX10_init_0 : decode cX10_init 0 = .ok (.aload_n 0, 1) := by decide +kernel
theorem dX10_init_1 : decode cX10_init 1 = .ok (.invokespecial 1, 3) := by decide +kernel
theorem dX10_init_4 : decode cX10_init 4 = .ok (.aload_n 0, 1) := by decide +kernel
theorem dX10_init_5 : decode cX10_init 5 = .ok (.bipush 12, 2) := by decide +kernel
theorem dX10_init_7 : decode cX10_init 7 = .ok (.newarray .int, 2) := by decide +kernel
theorem dX10_init_9 : decode cX10_init 9 = .ok (.putfield 7, 3) := by decide +kernel
theorem dX10_init_12 : decode cX10_init 12 = .ok (.aload_n 0, 1) := by decide +kernel
theorem dX10_init_13 : decode cX10_init 13 = .ok (.bipush 12, 2) := by decide +kernel
theorem dX10_init_15 : decode cX10_init 15 = .ok (.newarray .int, 2) := by decide +kernel
theorem dX10_init_17 : decode cX10_init 17 = .ok (.putfield 13, 3) := by decide +kernel
theorem dX10_init_20 : decode cX10_init 20 = .ok (.aload_n 0, 1) := by decide +kernel
theorem dX10_init_21 : decode cX10_init 21 = .ok (.bipush 12, 2) := by decide +kernel
theorem dX10_init_23 : decode cX10_init 23 = .ok (.newarray .int, 2) := by decide +kernel
theorem dX10_init_25 : decode cX10_init 25 = .ok (.putfield 16, 3) := by decide +kernel
theorem dX10_init_28 : decode cX10_init 28 = .ok (.aload_n 0, 1) := by decide +kernel
theorem dX10_init_29 : decode cX10_init 29 = .ok (.bipush 12, 2) := by decide +kernel
theorem dX10_init_31 : decode cX10_init 31 = .ok (.newarray .boolean, 2) := by decide +kernel
theorem dX10_init_33 : decode cX10_init 33 = .ok (.putfield 19, 3) := by decide +kernel
theorem dX10_init_36 : decode cX10_init 36 = .ok (.aload_n 0, 1) := by decide +kernel
theorem dX10_init_37 : decode cX10_init 37 = .ok (.bipush 12, 2) := by decide +kernel
theorem dX10_init_39 : decode cX10_init 39 = .ok (.newarray .boolean, 2) := by decide +kernel
theorem dX10_init_41 : decode cX10_init 41 = .ok (.putfield 23, 3) := by decide +kernel
theorem dX10_init_44 : decode cX10_init 44 = .ok (.aload_n 0, 1) := by decide +kernel
theorem dX10_init_45 : decode cX10_init 45 = .ok (.bipush 72, 2) := by decide +kernel
theorem dX10_init_47 : decode cX10_init 47 = .ok (.newarray .int, 2) := by decide +kernel
theorem dX10_init_49 : decode cX10_init 49 = .ok (.putfield 26, 3) := by decide +kernel
theorem dX10_init_52 : decode cX10_init 52 = .ok (.aload_n 0, 1) := by decide +kernel
theorem dX10_init_53 : decode cX10_init 53 = .ok (.bipush 12, 2) := by decide +kernel
theorem dX10_init_55 : decode cX10_init 55 = .ok (.newarray .int, 2) := by decide +kernel
theorem dX10_init_57 : decode cX10_init 57 = .ok (.putfield 29, 3) := by decide +kernel
theorem dX10_init_60 : decode cX10_init 60 = .ok (.aload_n 0, 1) := by decide +kernel
theorem dX10_init_61 : decode cX10_init 61 = .ok (.bipush 12, 2) := by decide +kernel
theorem dX10_init_63 : decode cX10_init 63 = .ok (.newarray .int, 2) := by decide +kernel
theorem dX10_init_65 : decode cX10_init 65 = .ok (.putfield 32, 3) := by decide +kernel
theorem dX10_init_68 : decode cX10_init 68 = .ok (.aload_n 0, 1) := by decide +kernel
theorem dX10_init_69 : decode cX10_init 69 = .ok (.bipush 12, 2) := by decide +kernel
theorem dX10_init_71 : decode cX10_init 71 = .ok (.newarray .int, 2) := by decide +kernel
theorem dX10_init_73 : decode cX10_init 73 = .ok (.putfield 35, 3) := by decide +kernel
theorem dX10_init_76 : decode cX10_init 76 = .ok (.aload_n 0, 1) := by decide +kernel
theorem dX10_init_77 : decode cX10_init 77 = .ok (.bipush 12, 2) := by decide +kernel
theorem dX10_init_79 : decode cX10_init 79 = .ok (.newarray .boolean, 2) := by decide +kernel
theorem dX10_init_81 : decode cX10_init 81 = .ok (.putfield 38, 3) := by decide +kernel
theorem dX10_init_84 : decode cX10_init 84 = .ok (.aload_n 0, 1) := by decide +kernel
theorem dX10_init_85 : decode cX10_init 85 = .ok (.bipush 12, 2) := by decide +kernel
theorem dX10_init_87 : decode cX10_init 87 = .ok (.newarray .boolean, 2) := by decide +kernel
theorem dX10_init_89 : decode cX10_init 89 = .ok (.putfield 41, 3) := by decide +kernel
theorem dX10_init_92 : decode cX10_init 92 = .ok (.aload_n 0, 1) := by decide +kernel
theorem dX10_init_93 : decode cX10_init 93 = .ok (.bipush 30, 2) := by decide +kernel
theorem dX10_init_95 : decode cX10_init 95 = .ok (.putfield 44, 3) := by decide +kernel
theorem dX10_init_98 : decode cX10_init 98 = .ok (.aload_n 0, 1) := by decide +kernel
theorem dX10_init_99 : decode cX10_init 99 = .ok (.iconst 5, 1) := by decide +kernel
theorem dX10_init_100 : decode cX10_init 100 = .ok (.putfield 48, 3) := by decide +kernel
theorem dX10_init_103 : decode cX10_init 103 = .ok (.aload_n 0, 1) := by decide +kernel
theorem dX10_init_104 : decode cX10_init 104 = .ok (.bipush 10, 2) := by decide +kernel
theorem dX10_init_106 : decode cX10_init 106 = .ok (.putfield 51, 3) := by decide +kernel
theorem dX10_init_109 : decode cX10_init 109 = .ok (.aload_n 0, 1) := by decide +kernel
theorem dX10_init_110 : decode cX10_init 110 = .ok (.bipush 6, 2) := by decide +kernel
theorem dX10_init_112 : decode cX10_init 112 = .ok (.newarray .int, 2) := by decide +kernel
theorem dX10_init_114 : decode cX10_init 114 = .ok (.putfield 54, 3) := by decide +kernel
theorem dX10_init_117 : decode cX10_init 117 = .ok (.aload_n 0, 1) := by decide +kernel
theorem dX10_init_118 : decode cX10_init 118 = .ok (.bipush 8, 2) := by decide +kernel
theorem dX10_init_120 : decode cX10_init 120 = .ok (.newarray .int, 2) := by decide +kernel
theorem dX10_init_122 : decode cX10_init 122 = .ok (.putfield 57, 3) := by decide +kernel
theorem dX10_init_125 : decode cX10_init 125 = .ok (.aload_n 0, 1) := by decide +kernel
theorem dX10_init_126 : decode cX10_init 126 = .ok (.bipush 32, 2) := by decide +kernel
theorem dX10_init_128 : decode cX10_init 128 = .ok (.newarray .int, 2) := by decide +kernel
theorem dX10_init_130 : decode cX10_init 130 = .ok (.putfield 60, 3) := by decide +kernel
theorem dX10_init_133 : decode cX10_init 133 = .ok (.aload_n 0, 1) := by decide +kernel
theorem dX10_init_134 : decode cX10_init 134 = .ok (.bipush 32, 2) := by decide +kernel
theorem dX10_init_136 : decode cX10_init 136 = .ok (.newarray .int, 2) := by decide +kernel
theorem dX10_init_138 : decode cX10_init 138 = .ok (.putfield 63, 3) := by decide +kernel
theorem dX10_init_141 : decode cX10_init 141 = .ok (.aload_n 0, 1) := by decide +kernel
theorem dX10_init_142 : decode cX10_init 142 = .ok (.iconst 2, 1) := by decide +kernel
theorem dX10_init_143 : decode cX10_init 143 = .ok (.newarray .int, 2) := by decide +kernel
theorem dX10_init_145 : decode cX10_init 145 = .ok (.putfield 66, 3) := by decide +kernel
theorem dX10_init_148 : decode cX10_init 148 = .ok (.aload_n 0, 1) := by decide +kernel
theorem dX10_init_149 : decode cX10_init 149 = .ok (.iconst 2, 1) := by decide +kernel
theorem dX10_init_150 : decode cX10_init 150 = .ok (.newarray .int, 2) := by decide +kernel
theorem dX10_init_152 : decode cX10_init 152 = .ok (.putfield 69, 3) := by decide +kernel
theorem dX10_init_155 : decode cX10_init 155 = .ok (.aload_n 0, 1) := by decide +kernel
theorem dX10_init_156 : decode cX10_init 156 = .ok (.iconst 2, 1) := by decide +kernel
theorem dX10_init_157 : decode cX10_init 157 = .ok (.newarray .int, 2) := by decide +kernel
theorem dX10_init_159 : decode cX10_init 159 = .ok (.putfield 72, 3) := by decide +kernel
theorem dX10_init_162 : decode cX10_init 162 = .ok (.aload_n 0, 1) := by decide +kernel
theorem dX10_init_163 : decode cX10_init 163 = .ok (.bipush 8, 2) := by decide +kernel
theorem dX10_init_165 : decode cX10_init 165 = .ok (.newarray .int, 2) := by decide +kernel
theorem dX10_init_167 : decode cX10_init 167 = .ok (.putfield 75, 3) := by decide +kernel
theorem dX10_init_170 : decode cX10_init 170 = .ok (.aload_n 0, 1) := by decide +kernel
theorem dX10_init_171 : decode cX10_init 171 = .ok (.bipush 8, 2) := by decide +kernel
theorem dX10_init_173 : decode cX10_init 173 = .ok (.newarray .int, 2) := by decide +kernel
theorem dX10_init_175 : decode cX10_init 175 = .ok (.putfield 78, 3) := by decide +kernel
theorem dX10_init_178 : decode cX10_init 178 = .ok (.aload_n 0, 1) := by decide +kernel
theorem dX10_init_179 : decode cX10_init 179 = .ok (.iconst (-1), 1) := by decide +kernel
theorem dX10_init_180 : decode cX10_init 180 = .ok (.putfield 81, 3) := by decide +kernel
theorem dX10_init_183 : decode cX10_init 183 = .ok (.aload_n 0, 1) := by decide +kernel
theorem dX10_init_184 : decode cX10_init 184 = .ok (.iconst (-1), 1) := by decide +kernel
theorem dX10_init_185 : decode cX10_init 185 = .ok (.putfield 84, 3) := by decide +kernel
theorem dX10_init_188 : decode cX10_init 188 = .ok (.aload_n 0, 1) := by decide +kernel
theorem dX10_init_189 : decode cX10_init 189 = .ok (.bipush 20, 2) := by decide +kernel
theorem dX10_init_191 : decode cX10_init 191 = .ok (.newarray .int, 2) := by decide +kernel
theorem dX10_init_193 : decode cX10_init 193 = .ok (.putfield 87, 3) := by decide +kernel
theorem dX10_init_196 : decode cX10_init 196 = .ok (.aload_n 0, 1) := by decide +kernel
theorem dX10_init_197 : decode cX10_init 197 = .ok (.iconst 2, 1) := by decide +kernel
theorem dX10_init_198 : decode cX10_init 198 = .ok (.newarray .int, 2) := by decide +kernel
theorem dX10_init_200 : decode cX10_init 200 = .ok (.putfield 90, 3) := by decide +kernel
theorem dX10_init_203 : decode cX10_init 203 = .ok (.aload_n 0, 1) := by decide +kernel
theorem dX10_init_204 : decode cX10_init 204 = .ok (.iconst 2, 1) := by decide +kernel
theorem dX10_init_205 : decode cX10_init 205 = .ok (.newarray .int, 2) := by decide +kernel
theorem dX10_init_207 : decode cX10_init 207 = .ok (.putfield 93, 3) := by decide +kernel
theorem dX10_init_210 : decode cX10_init 210 = .ok (.aload_n 0, 1) := by decide +kernel
theorem dX10_init_211 : decode cX10_init 211 = .ok (.bipush 9, 2) := by decide +kernel
theorem dX10_init_213 : decode cX10_init 213 = .ok (.newarray .int, 2) := by decide +kernel
theorem dX10_init_215 : decode cX10_init 215 = .ok (.putfield 96, 3) := by decide +kernel
theorem dX10_init_218 : decode cX10_init 218 = .ok (.return_, 1) := by decide +kernel
theorem dX10_isIn_0 : decode cX10_isIn 0 = .ok (.iload_n 0, 1) := by decide +kernel
theorem dX10_isIn_1 : decode cX10_isIn 1 = .ok (.iload_n 1, 1) := by decide +kernel
theorem dX10_isIn_2 : decode cX10_isIn 2 = .ok (.if_icmp .lt 12, 3) := by decide +kernel
theorem dX10_isIn_5 : decode cX10_isIn 5 = .ok (.iload_n 0, 1) := by decide +kernel
theorem dX10_isIn_6 : decode cX10_isIn 6 = .ok (.iload_n 2, 1) := by decide +kernel
theorem dX10_isIn_7 : decode cX10_isIn 7 = .ok (.if_icmp .gt 7, 3) := by decide +kernel
theorem dX10_isIn_10 : decode cX10_isIn 10 = .ok (.iconst 1, 1) := by decide +kernel
theorem dX10_isIn_11 : decode cX10_isIn 11 = .ok (.goto 4, 3) := by decide +kernel
theorem dX10_isIn_14 : decode cX10_isIn 14 = .ok (.iconst 0, 1) := by decide +kernel
theorem dX10_isIn_15 : decode cX10_isIn 15 = .ok (.ireturn, 1) := by decide +kernel
theorem dX10_isField_0 : decode cX10_isField 0 = .ok (.iload_n 1, 1) := by decide +kernel
theorem dX10_isField_1 : decode cX10_isField 1 = .ok (.iconst 0, 1) := by decide +kernel
theorem dX10_isField_2 : decode cX10_isField 2 = .ok (.aload_n 0, 1) := by decide +kernel
theorem dX10_isField_3 : decode cX10_isField 3 = .ok (.getfield 99, 3) := by decide +kernel
theorem dX10_isField_6 : decode cX10_isField 6 = .ok (.iconst 1, 1) := by decide +kernel
theorem dX10_isField_7 : decode cX10_isField 7 = .ok (.isub, 1) := by decide +kernel
theorem dX10_isField_8 : decode cX10_isField 8 = .ok (.invokestatic 102, 3) := by decide +kernel
theorem dX10_isField_11 : decode cX10_isField 11 = .ok (.ireturn, 1) := by decide +kernel
theorem dX10_isNew_0 : decode cX10_isNew 0 = .ok (.iload_n 1, 1) := by decide +kernel
theorem dX10_isNew_1 : decode cX10_isNew 1 = .ok (.bipush 20, 2) := by decide +kernel
theorem dX10_isNew_3 : decode cX10_isNew 3 = .ok (.bipush 59, 2) := by decide +kernel
theorem dX10_isNew_5 : decode cX10_isNew 5 = .ok (.invokestatic 102, 3) := by decide +kernel
theorem dX10_isNew_8 : decode cX10_isNew 8 = .ok (.ifCond .eq 19, 3) := by decide +kernel
theorem dX10_isNew_11 : decode cX10_isNew 11 = .ok (.aload_n 0, 1) := by decide +kernel
theorem dX10_isNew_12 : decode cX10_isNew 12 = .ok (.getfield 99, 3) := by decide +kernel
theorem dX10_isNew_15 : decode cX10_isNew 15 = .ok (.bipush 12, 2) := by decide +kernel
theorem dX10_isNew_17 : decode cX10_isNew 17 = .ok (.if_icmp .eq 10, 3) := by decide +kernel
theorem dX10_isNew_20 : decode cX10_isNew 20 = .ok (.aload_n 0, 1) := by decide +kernel
theorem dX10_isNew_21 : decode cX10_isNew 21 = .ok (.getfield 106, 3) := by decide +kernel
theorem dX10_isNew_24 : decode cX10_isNew 24 = .ok (.ifCond .eq 5, 3) := by decide +kernel
theorem dX10_isNew_27 : decode cX10_isNew 27 = .ok (.iconst 0, 1) := by decide +kernel
theorem dX10_isNew_28 : decode cX10_isNew 28 = .ok (.ireturn, 1) := by decide +kernel
theorem dX10_isNew_29 : decode cX10_isNew 29 = .ok (.iconst 0, 1) := by decide +kernel
theorem dX10_isNew_30 : decode cX10_isNew 30 = .ok (.istore_n 2, 1) := by decide +kernel
theorem dX10_isNew_31 : decode cX10_isNew 31 = .ok (.iload_n 2, 1) := by decide +kernel
theorem dX10_isNew_32 : decode cX10_isNew 32 = .ok (.aload_n 0, 1) := by decide +kernel
theorem dX10_isNew_33 : decode cX10_isNew 33 = .ok (.getfield 99, 3) := by decide +kernel
theorem dX10_isNew_36 : decode cX10_isNew 36 = .ok (.if_icmp .ge 21, 3) := by decide +kernel
theorem dX10_isNew_39 : decode cX10_isNew 39 = .ok (.aload_n 0, 1) := by decide +kernel
theorem dX10_isNew_40 : decode cX10_isNew 40 = .ok (.getfield 7, 3) := by decide +kernel
theorem dX10_isNew_43 : decode cX10_isNew 43 = .ok (.iload_n 2, 1) := by decide +kernel
theorem dX10_isNew_44 : decode cX10_isNew 44 = .ok (.iaload, 1) := by decide +kernel
theorem dX10_isNew_45 : decode cX10_isNew 45 = .ok (.iload_n 1, 1) := by decide +kernel
theorem dX10_isNew_46 : decode cX10_isNew 46 = .ok (.if_icmp .ne 5, 3) := by decide +kernel
theorem dX10_isNew_49 : decode cX10_isNew 49 = .ok (.iconst 0, 1) := by decide +kernel
theorem dX10_isNew_50 : decode cX10_isNew 50 = .ok (.ireturn, 1) := by decide +kernel
theorem dX10_isNew_51 : decode cX10_isNew 51 = .ok (.iinc 2 1, 3) := by decide +kernel
theorem dX10_isNew_54 : decode cX10_isNew 54 = .ok (.goto (-23), 3) := by decide +kernel
theorem dX10_isNew_57 : decode cX10_isNew 57 = .ok (.iconst 1, 1) := by decide +kernel
theorem dX10_isNew_58 : decode cX10_isNew 58 = .ok (.ireturn, 1) := by decide +kernel
theorem dX10_comes_0 : decode cX10_comes 0 = .ok (.aload_n 0, 1) := by decide +kernel
theorem dX10_comes_1 : decode cX10_comes 1 = .ok (.getfield 7, 3) := by decide +kernel
theorem dX10_comes_4 : decode cX10_comes 4 = .ok (.aload_n 0, 1) := by decide +kernel
theorem dX10_comes_5 : decode cX10_comes 5 = .ok (.getfield 99, 3) := by decide +kernel
theorem dX10_comes_8 : decode cX10_comes 8 = .ok (.iload_n 1, 1) := by decide +kernel
theorem dX10_comes_9 : decode cX10_comes 9 = .ok (.iastore, 1) := by decide +kernel
theorem dX10_comes_10 : decode cX10_comes 10 = .ok (.aload_n 0, 1) := by decide +kernel
theorem dX10_comes_11 : decode cX10_comes 11 = .ok (.getfield 23, 3) := by decide +kernel
theorem dX10_comes_14 : decode cX10_comes 14 = .ok (.aload_n 0, 1) := by decide +kernel
theorem dX10_comes_15 : decode cX10_comes 15 = .ok (.getfield 99, 3) := by decide +kernel
theorem dX10_comes_18 : decode cX10_comes 18 = .ok (.iload_n 2, 1) := by decide +kernel
theorem dX10_comes_19 : decode cX10_comes 19 = .ok (.bastore, 1) := by decide +kernel
theorem dX10_comes_20 : decode cX10_comes 20 = .ok (.aload_n 0, 1) := by decide +kernel
theorem dX10_comes_21 : decode cX10_comes 21 = .ok (.getfield 29, 3) := by decide +kernel
theorem dX10_comes_24 : decode cX10_comes 24 = .ok (.aload_n 0, 1) := by decide +kernel
theorem dX10_comes_25 : decode cX10_comes 25 = .ok (.getfield 99, 3) := by decide +kernel
theorem dX10_comes_28 : decode cX10_comes 28 = .ok (.iconst (-1), 1) := by decide +kernel
theorem dX10_comes_29 : decode cX10_comes 29 = .ok (.iastore, 1) := by decide +kernel
theorem dX10_comes_30 : decode cX10_comes 30 = .ok (.aload_n 0, 1) := by decide +kernel
theorem dX10_comes_31 : decode cX10_comes 31 = .ok (.getfield 35, 3) := by decide +kernel
theorem dX10_comes_34 : decode cX10_comes 34 = .ok (.aload_n 0, 1) := by decide +kernel
theorem dX10_comes_35 : decode cX10_comes 35 = .ok (.getfield 99, 3) := by decide +kernel
theorem dX10_comes_38 : decode cX10_comes 38 = .ok (.iconst (-1), 1) := by decide +kernel
theorem dX10_comes_39 : decode cX10_comes 39 = .ok (.iastore, 1) := by decide +kernel
theorem dX10_comes_40 : decode cX10_comes 40 = .ok (.aload_n 0, 1) := by decide +kernel
theorem dX10_comes_41 : decode cX10_comes 41 = .ok (.getfield 99, 3) := by decide +kernel
theorem dX10_comes_44 : decode cX10_comes 44 = .ok (.ifCond .ne 8, 3) := by decide +kernel
theorem dX10_comes_47 : decode cX10_comes 47 = .ok (.aload_n 0, 1) := by decide +kernel
theorem dX10_comes_48 : decode cX10_comes 48 = .ok (.iconst 0, 1) := by decide +kernel
theorem dX10_comes_49 : decode cX10_comes 49 = .ok (.putfield 81, 3) := by decide +kernel
theorem dX10_comes_52 : decode cX10_comes 52 = .ok (.aload_n 0, 1) := by decide +kernel
theorem dX10_comes_53 : decode cX10_comes 53 = .ok (.dup, 1) := by decide +kernel
theorem dX10_comes_54 : decode cX10_comes 54 = .ok (.getfield 99, 3) := by decide +kernel
theorem dX10_comes_57 : decode cX10_comes 57 = .ok (.iconst 1, 1) := by decide +kernel
theorem dX10_comes_58 : decode cX10_comes 58 = .ok (.iadd, 1) := by decide +kernel
theorem dX10_comes_59 : decode cX10_comes 59 = .ok (.putfield 99, 3) := by decide +kernel
theorem dX10_comes_62 : decode cX10_comes 62 = .ok (.aload_n 0, 1) := by decide +kernel
theorem dX10_comes_63 : decode cX10_comes 63 = .ok (.getfield 99, 3) := by decide +kernel
theorem dX10_comes_66 : decode cX10_comes 66 = .ok (.iconst 1, 1) := by decide +kernel
theorem dX10_comes_67 : decode cX10_comes 67 = .ok (.isub, 1) := by decide +kernel
theorem dX10_comes_68 : decode cX10_comes 68 = .ok (.ireturn, 1) := by decide +kernel
theorem dX10_digits_0 : decode cX10_digits 0 = .ok (.aload_n 0, 1) := by decide +kernel
theorem dX10_digits_1 : decode cX10_digits 1 = .ok (.iload_n 1, 1) := by decide +kernel
theorem dX10_digits_2 : decode cX10_digits 2 = .ok (.invokevirtual 110, 3) := by decide +kernel
theorem dX10_digits_5 : decode cX10_digits 5 = .ok (.ifCond .eq 13, 3) := by decide +kernel
theorem dX10_digits_8 : decode cX10_digits 8 = .ok (.iload_n 2, 1) := by decide +kernel
theorem dX10_digits_9 : decode cX10_digits 9 = .ok (.iconst 1, 1) := by decide +kernel
theorem dX10_digits_10 : decode cX10_digits 10 = .ok (.bipush 8, 2) := by decide +kernel
theorem dX10_digits_12 : decode cX10_digits 12 = .ok (.invokestatic 102, 3) := by decide +kernel
theorem dX10_digits_15 : decode cX10_digits 15 = .ok (.ifCond .ne 5, 3) := by decide +kernel
theorem dX10_digits_18 : decode cX10_digits 18 = .ok (.iconst (-1), 1) := by decide +kernel
theorem dX10_digits_19 : decode cX10_digits 19 = .ok (.ireturn, 1) := by decide +kernel
theorem dX10_digits_20 : decode cX10_digits 20 = .ok (.aload_n 0, 1) := by decide +kernel
theorem dX10_digits_21 : decode cX10_digits 21 = .ok (.getfield 13, 3) := by decide +kernel
theorem dX10_digits_24 : decode cX10_digits 24 = .ok (.aload_n 0, 1) := by decide +kernel
theorem dX10_digits_25 : decode cX10_digits 25 = .ok (.getfield 99, 3) := by decide +kernel
theorem dX10_digits_28 : decode cX10_digits 28 = .ok (.iload_n 2, 1) := by decide +kernel
theorem dX10_digits_29 : decode cX10_digits 29 = .ok (.iastore, 1) := by decide +kernel
theorem dX10_digits_30 : decode cX10_digits 30 = .ok (.aload_n 0, 1) := by decide +kernel
theorem dX10_digits_31 : decode cX10_digits 31 = .ok (.getfield 19, 3) := by decide +kernel
theorem dX10_digits_34 : decode cX10_digits 34 = .ok (.aload_n 0, 1) := by decide +kernel
theorem dX10_digits_35 : decode cX10_digits 35 = .ok (.getfield 99, 3) := by decide +kernel
theorem dX10_digits_38 : decode cX10_digits 38 = .ok (.iload_n 3, 1) := by decide +kernel
theorem dX10_digits_39 : decode cX10_digits 39 = .ok (.bastore, 1) := by decide +kernel
theorem dX10_digits_40 : decode cX10_digits 40 = .ok (.aload_n 0, 1) := by decide +kernel
theorem dX10_digits_41 : decode cX10_digits 41 = .ok (.iload_n 1, 1) := by decide +kernel
theorem dX10_digits_42 : decode cX10_digits 42 = .ok (.iload 4, 2) := by decide +kernel
theorem dX10_digits_44 : decode cX10_digits 44 = .ok (.invokevirtual 114, 3) := by decide +kernel
theorem dX10_digits_47 : decode cX10_digits 47 = .ok (.ireturn, 1) := by decide +kernel
theorem dX10_choice_0 : decode cX10_choice 0 = .ok (.aload_n 0, 1) := by decide +kernel
theorem dX10_choice_1 : decode cX10_choice 1 = .ok (.getfield 54, 3) := by decide +kernel
theorem dX10_choice_4 : decode cX10_choice 4 = .ok (.iconst 0, 1) := by decide +kernel
theorem dX10_choice_5 : decode cX10_choice 5 = .ok (.iload_n 3, 1) := by decide +kernel
theorem dX10_choice_6 : decode cX10_choice 6 = .ok (.iastore, 1) := by decide +kernel
theorem dX10_choice_7 : decode cX10_choice 7 = .ok (.aload_n 0, 1) := by decide +kernel
theorem dX10_choice_8 : decode cX10_choice 8 = .ok (.getfield 54, 3) := by decide +kernel
theorem dX10_choice_11 : decode cX10_choice 11 = .ok (.iconst 1, 1) := by decide +kernel
theorem dX10_choice_12 : decode cX10_choice 12 = .ok (.iload 4, 2) := by decide +kernel
theorem dX10_choice_14 : decode cX10_choice 14 = .ok (.iastore, 1) := by decide +kernel
theorem dX10_choice_15 : decode cX10_choice 15 = .ok (.aload_n 0, 1) := by decide +kernel
theorem dX10_choice_16 : decode cX10_choice 16 = .ok (.getfield 54, 3) := by decide +kernel
theorem dX10_choice_19 : decode cX10_choice 19 = .ok (.iconst 2, 1) := by decide +kernel
theorem dX10_choice_20 : decode cX10_choice 20 = .ok (.iload 5, 2) := by decide +kernel
theorem dX10_choice_22 : decode cX10_choice 22 = .ok (.iastore, 1) := by decide +kernel
theorem dX10_choice_23 : decode cX10_choice 23 = .ok (.aload_n 0, 1) := by decide +kernel
theorem dX10_choice_24 : decode cX10_choice 24 = .ok (.getfield 54, 3) := by decide +kernel
theorem dX10_choice_27 : decode cX10_choice 27 = .ok (.iconst 3, 1) := by decide +kernel
theorem dX10_choice_28 : decode cX10_choice 28 = .ok (.iload 6, 2) := by decide +kernel
theorem dX10_choice_30 : decode cX10_choice 30 = .ok (.iastore, 1) := by decide +kernel
theorem dX10_choice_31 : decode cX10_choice 31 = .ok (.aload_n 0, 1) := by decide +kernel
theorem dX10_choice_32 : decode cX10_choice 32 = .ok (.getfield 54, 3) := by decide +kernel
theorem dX10_choice_35 : decode cX10_choice 35 = .ok (.iconst 4, 1) := by decide +kernel
theorem dX10_choice_36 : decode cX10_choice 36 = .ok (.iload 7, 2) := by decide +kernel
theorem dX10_choice_38 : decode cX10_choice 38 = .ok (.iastore, 1) := by decide +kernel
theorem dX10_choice_39 : decode cX10_choice 39 = .ok (.aload_n 0, 1) := by decide +kernel
theorem dX10_choice_40 : decode cX10_choice 40 = .ok (.getfield 54, 3) := by decide +kernel
theorem dX10_choice_43 : decode cX10_choice 43 = .ok (.iconst 5, 1) := by decide +kernel
theorem dX10_choice_44 : decode cX10_choice 44 = .ok (.iload 8, 2) := by decide +kernel
theorem dX10_choice_46 : decode cX10_choice 46 = .ok (.iastore, 1) := by decide +kernel
theorem dX10_choice_47 : decode cX10_choice 47 = .ok (.iconst 0, 1) := by decide +kernel
theorem dX10_choice_48 : decode cX10_choice 48 = .ok (.istore 9, 2) := by decide +kernel
theorem dX10_choice_50 : decode cX10_choice 50 = .ok (.iload 9, 2) := by decide +kernel
theorem dX10_choice_52 : decode cX10_choice 52 = .ok (.bipush 6, 2) := by decide +kernel
theorem dX10_choice_54 : decode cX10_choice 54 = .ok (.if_icmp .ge 20, 3) := by decide +kernel
theorem dX10_choice_57 : decode cX10_choice 57 = .ok (.aload_n 0, 1) := by decide +kernel
theorem dX10_choice_58 : decode cX10_choice 58 = .ok (.getfield 54, 3) := by decide +kernel
theorem dX10_choice_61 : decode cX10_choice 61 = .ok (.iload 9, 2) := by decide +kernel
theorem dX10_choice_63 : decode cX10_choice 63 = .ok (.iaload, 1) := by decide +kernel
theorem dX10_choice_64 : decode cX10_choice 64 = .ok (.iconst (-1), 1) := by decide +kernel
theorem dX10_choice_65 : decode cX10_choice 65 = .ok (.if_icmp .eq 9, 3) := by decide +kernel
theorem dX10_choice_68 : decode cX10_choice 68 = .ok (.iinc 9 1, 3) := by decide +kernel
theorem dX10_choice_71 : decode cX10_choice 71 = .ok (.goto (-21), 3) := by decide +kernel
theorem dX10_choice_74 : decode cX10_choice 74 = .ok (.aload_n 0, 1) := by decide +kernel
theorem dX10_choice_75 : decode cX10_choice 75 = .ok (.iload_n 1, 1) := by decide +kernel
theorem dX10_choice_76 : decode cX10_choice 76 = .ok (.invokevirtual 110, 3) := by decide +kernel
theorem dX10_choice_79 : decode cX10_choice 79 = .ok (.ifCond .eq 12, 3) := by decide +kernel
theorem dX10_choice_82 : decode cX10_choice 82 = .ok (.iload 9, 2) := by decide +kernel
theorem dX10_choice_84 : decode cX10_choice 84 = .ok (.ifCond .le 7, 3) := by decide +kernel
theorem dX10_choice_87 : decode cX10_choice 87 = .ok (.iconst 1, 1) := by decide +kernel
theorem dX10_choice_88 : decode cX10_choice 88 = .ok (.goto 4, 3) := by decide +kernel
theorem dX10_choice_91 : decode cX10_choice 91 = .ok (.iconst 0, 1) := by decide +kernel
theorem dX10_choice_92 : decode cX10_choice 92 = .ok (.istore 10, 2) := by decide +kernel
theorem dX10_choice_94 : decode cX10_choice 94 = .ok (.iconst 0, 1) := by decide +kernel
theorem dX10_choice_95 : decode cX10_choice 95 = .ok (.istore 11, 2) := by decide +kernel
theorem dX10_choice_97 : decode cX10_choice 97 = .ok (.iload 11, 2) := by decide +kernel
theorem dX10_choice_99 : decode cX10_choice 99 = .ok (.iload 9, 2) := by decide +kernel
theorem dX10_choice_101 : decode cX10_choice 101 = .ok (.if_icmp .ge 83, 3) := by decide +kernel
theorem dX10_choice_104 : decode cX10_choice 104 = .ok (.iload 10, 2) := by decide +kernel
theorem dX10_choice_106 : decode cX10_choice 106 = .ok (.ifCond .eq 24, 3) := by decide +kernel
theorem dX10_choice_109 : decode cX10_choice 109 = .ok (.aload_n 0, 1) := by decide +kernel
theorem dX10_choice_110 : decode cX10_choice 110 = .ok (.getfield 54, 3) := by decide +kernel
theorem dX10_choice_113 : decode cX10_choice 113 = .ok (.iload 11, 2) := by decide +kernel
theorem dX10_choice_115 : decode cX10_choice 115 = .ok (.iaload, 1) := by decide +kernel
theorem dX10_choice_116 : decode cX10_choice 116 = .ok (.bipush 20, 2) := by decide +kernel
theorem dX10_choice_118 : decode cX10_choice 118 = .ok (.bipush 59, 2) := by decide +kernel
theorem dX10_choice_120 : decode cX10_choice 120 = .ok (.invokestatic 102, 3) := by decide +kernel
theorem dX10_choice_123 : decode cX10_choice 123 = .ok (.ifCond .eq 7, 3) := by decide +kernel
theorem dX10_choice_126 : decode cX10_choice 126 = .ok (.iconst 1, 1) := by decide +kernel
theorem dX10_choice_127 : decode cX10_choice 127 = .ok (.goto 4, 3) := by decide +kernel
theorem dX10_choice_130 : decode cX10_choice 130 = .ok (.iconst 0, 1) := by decide +kernel
theorem dX10_choice_131 : decode cX10_choice 131 = .ok (.istore 10, 2) := by decide +kernel
theorem dX10_choice_133 : decode cX10_choice 133 = .ok (.iconst 0, 1) := by decide +kernel
theorem dX10_choice_134 : decode cX10_choice 134 = .ok (.istore 12, 2) := by decide +kernel
theorem dX10_choice_136 : decode cX10_choice 136 = .ok (.iload 12, 2) := by decide +kernel
theorem dX10_choice_138 : decode cX10_choice 138 = .ok (.iload 11, 2) := by decide +kernel
theorem dX10_choice_140 : decode cX10_choice 140 = .ok (.if_icmp .ge 38, 3) := by decide +kernel
theorem dX10_choice_143 : decode cX10_choice 143 = .ok (.iload 10, 2) := by decide +kernel
theorem dX10_choice_145 : decode cX10_choice 145 = .ok (.ifCond .eq 24, 3) := by decide +kernel
theorem dX10_choice_148 : decode cX10_choice 148 = .ok (.aload_n 0, 1) := by decide +kernel
theorem dX10_choice_149 : decode cX10_choice 149 = .ok (.getfield 54, 3) := by decide +kernel
theorem dX10_choice_152 : decode cX10_choice 152 = .ok (.iload 12, 2) := by decide +kernel
theorem dX10_choice_154 : decode cX10_choice 154 = .ok (.iaload, 1) := by decide +kernel
theorem dX10_choice_155 : decode cX10_choice 155 = .ok (.aload_n 0, 1) := by decide +kernel
theorem dX10_choice_156 : decode cX10_choice 156 = .ok (.getfield 54, 3) := by decide +kernel
theorem dX10_choice_159 : decode cX10_choice 159 = .ok (.iload 11, 2) := by decide +kernel
theorem dX10_choice_161 : decode cX10_choice 161 = .ok (.iaload, 1) := by decide +kernel
theorem dX10_choice_162 : decode cX10_choice 162 = .ok (.if_icmp .eq 7, 3) := by decide +kernel
theorem dX10_choice_165 : decode cX10_choice 165 = .ok (.iconst 1, 1) := by decide +kernel
theorem dX10_choice_166 : decode cX10_choice 166 = .ok (.goto 4, 3) := by decide +kernel
theorem dX10_choice_169 : decode cX10_choice 169 = .ok (.iconst 0, 1) := by decide +kernel
theorem dX10_choice_170 : decode cX10_choice 170 = .ok (.istore 10, 2) := by decide +kernel
theorem dX10_choice_172 : decode cX10_choice 172 = .ok (.iinc 12 1, 3) := by decide +kernel
theorem dX10_choice_175 : decode cX10_choice 175 = .ok (.goto (-39), 3) := by decide +kernel
theorem dX10_choice_178 : decode cX10_choice 178 = .ok (.iinc 11 1, 3) := by decide +kernel
theorem dX10_choice_181 : decode cX10_choice 181 = .ok (.goto (-84), 3) := by decide +kernel
theorem dX10_choice_184 : decode cX10_choice 184 = .ok (.iload 10, 2) := by decide +kernel
theorem dX10_choice_186 : decode cX10_choice 186 = .ok (.ifCond .ne 5, 3) := by decide +kernel
theorem dX10_choice_189 : decode cX10_choice 189 = .ok (.iconst (-1), 1) := by decide +kernel
theorem dX10_choice_190 : decode cX10_choice 190 = .ok (.ireturn, 1) := by decide +kernel
theorem dX10_choice_191 : decode cX10_choice 191 = .ok (.iconst 0, 1) := by decide +kernel
theorem dX10_choice_192 : decode cX10_choice 192 = .ok (.istore 11, 2) := by decide +kernel
theorem dX10_choice_194 : decode cX10_choice 194 = .ok (.iload 11, 2) := by decide +kernel
theorem dX10_choice_196 : decode cX10_choice 196 = .ok (.iload 9, 2) := by decide +kernel
theorem dX10_choice_198 : decode cX10_choice 198 = .ok (.if_icmp .ge 31, 3) := by decide +kernel
theorem dX10_choice_201 : decode cX10_choice 201 = .ok (.aload_n 0, 1) := by decide +kernel
theorem dX10_choice_202 : decode cX10_choice 202 = .ok (.getfield 26, 3) := by decide +kernel
theorem dX10_choice_205 : decode cX10_choice 205 = .ok (.bipush 6, 2) := by decide +kernel
theorem dX10_choice_207 : decode cX10_choice 207 = .ok (.aload_n 0, 1) := by decide +kernel
theorem dX10_choice_208 : decode cX10_choice 208 = .ok (.getfield 99, 3) := by decide +kernel
theorem dX10_choice_211 : decode cX10_choice 211 = .ok (.imul, 1) := by decide +kernel
theorem dX10_choice_212 : decode cX10_choice 212 = .ok (.iload 11, 2) := by decide +kernel
theorem dX10_choice_214 : decode cX10_choice 214 = .ok (.iadd, 1) := by decide +kernel
theorem dX10_choice_215 : decode cX10_choice 215 = .ok (.aload_n 0, 1) := by decide +kernel
theorem dX10_choice_216 : decode cX10_choice 216 = .ok (.getfield 54, 3) := by decide +kernel
theorem dX10_choice_219 : decode cX10_choice 219 = .ok (.iload 11, 2) := by decide +kernel
theorem dX10_choice_221 : decode cX10_choice 221 = .ok (.iaload, 1) := by decide +kernel
theorem dX10_choice_222 : decode cX10_choice 222 = .ok (.iastore, 1) := by decide +kernel
theorem dX10_choice_223 : decode cX10_choice 223 = .ok (.iinc 11 1, 3) := by decide +kernel
theorem dX10_choice_226 : decode cX10_choice 226 = .ok (.goto (-32), 3) := by decide +kernel
theorem dX10_choice_229 : decode cX10_choice 229 = .ok (.aload_n 0, 1) := by decide +kernel
theorem dX10_choice_230 : decode cX10_choice 230 = .ok (.getfield 16, 3) := by decide +kernel
theorem dX10_choice_233 : decode cX10_choice 233 = .ok (.aload_n 0, 1) := by decide +kernel
theorem dX10_choice_234 : decode cX10_choice 234 = .ok (.getfield 99, 3) := by decide +kernel
theorem dX10_choice_237 : decode cX10_choice 237 = .ok (.iload 9, 2) := by decide +kernel
theorem dX10_choice_239 : decode cX10_choice 239 = .ok (.iastore, 1) := by decide +kernel
theorem dX10_choice_240 : decode cX10_choice 240 = .ok (.aload_n 0, 1) := by decide +kernel
theorem dX10_choice_241 : decode cX10_choice 241 = .ok (.iload_n 1, 1) := by decide +kernel
theorem dX10_choice_242 : decode cX10_choice 242 = .ok (.iload_n 2, 1) := by decide +kernel
theorem dX10_choice_243 : decode cX10_choice 243 = .ok (.invokevirtual 114, 3) := by decide +kernel
theorem dX10_choice_246 : decode cX10_choice 246 = .ok (.ireturn, 1) := by decide +kernel
theorem dX10_needs_0 : decode cX10_needs 0 = .ok (.aload_n 0, 1) := by decide +kernel
theorem dX10_needs_1 : decode cX10_needs 1 = .ok (.iload_n 1, 1) := by decide +kernel
theorem dX10_needs_2 : decode cX10_needs 2 = .ok (.invokevirtual 118, 3) := by decide +kernel
theorem dX10_needs_5 : decode cX10_needs 5 = .ok (.ifCond .eq 46, 3) := by decide +kernel
theorem dX10_needs_8 : decode cX10_needs 8 = .ok (.iload_n 2, 1) := by decide +kernel
theorem dX10_needs_9 : decode cX10_needs 9 = .ok (.iconst 0, 1) := by decide +kernel
theorem dX10_needs_10 : decode cX10_needs 10 = .ok (.iload_n 1, 1) := by decide +kernel
theorem dX10_needs_11 : decode cX10_needs 11 = .ok (.iconst 1, 1) := by decide +kernel
theorem dX10_needs_12 : decode cX10_needs 12 = .ok (.isub, 1) := by decide +kernel
theorem dX10_needs_13 : decode cX10_needs 13 = .ok (.invokestatic 102, 3) := by decide +kernel
theorem dX10_needs_16 : decode cX10_needs 16 = .ok (.ifCond .eq 35, 3) := by decide +kernel
theorem dX10_needs_19 : decode cX10_needs 19 = .ok (.aload_n 0, 1) := by decide +kernel
theorem dX10_needs_20 : decode cX10_needs 20 = .ok (.getfield 16, 3) := by decide +kernel
theorem dX10_needs_23 : decode cX10_needs 23 = .ok (.iload_n 2, 1) := by decide +kernel
theorem dX10_needs_24 : decode cX10_needs 24 = .ok (.iaload, 1) := by decide +kernel
theorem dX10_needs_25 : decode cX10_needs 25 = .ok (.ifCond .eq 26, 3) := by decide +kernel
theorem dX10_needs_28 : decode cX10_needs 28 = .ok (.iload_n 3, 1) := by decide +kernel
theorem dX10_needs_29 : decode cX10_needs 29 = .ok (.iconst 0, 1) := by decide +kernel
theorem dX10_needs_30 : decode cX10_needs 30 = .ok (.aload_n 0, 1) := by decide +kernel
theorem dX10_needs_31 : decode cX10_needs 31 = .ok (.getfield 16, 3) := by decide +kernel
theorem dX10_needs_34 : decode cX10_needs 34 = .ok (.iload_n 2, 1) := by decide +kernel
theorem dX10_needs_35 : decode cX10_needs 35 = .ok (.iaload, 1) := by decide +kernel
theorem dX10_needs_36 : decode cX10_needs 36 = .ok (.iconst 1, 1) := by decide +kernel
theorem dX10_needs_37 : decode cX10_needs 37 = .ok (.isub, 1) := by decide +kernel
theorem dX10_needs_38 : decode cX10_needs 38 = .ok (.invokestatic 102, 3) := by decide +kernel
theorem dX10_needs_41 : decode cX10_needs 41 = .ok (.ifCond .eq 10, 3) := by decide +kernel
theorem dX10_needs_44 : decode cX10_needs 44 = .ok (.aload_n 0, 1) := by decide +kernel
theorem dX10_needs_45 : decode cX10_needs 45 = .ok (.getfield 106, 3) := by decide +kernel
theorem dX10_needs_48 : decode cX10_needs 48 = .ok (.ifCond .eq 5, 3) := by decide +kernel
theorem dX10_needs_51 : decode cX10_needs 51 = .ok (.iconst 0, 1) := by decide +kernel
theorem dX10_needs_52 : decode cX10_needs 52 = .ok (.ireturn, 1) := by decide +kernel
theorem dX10_needs_53 : decode cX10_needs 53 = .ok (.aload_n 0, 1) := by decide +kernel
theorem dX10_needs_54 : decode cX10_needs 54 = .ok (.getfield 29, 3) := by decide +kernel
theorem dX10_needs_57 : decode cX10_needs 57 = .ok (.iload_n 1, 1) := by decide +kernel
theorem dX10_needs_58 : decode cX10_needs 58 = .ok (.iload_n 2, 1) := by decide +kernel
theorem dX10_needs_59 : decode cX10_needs 59 = .ok (.iastore, 1) := by decide +kernel
theorem dX10_needs_60 : decode cX10_needs 60 = .ok (.aload_n 0, 1) := by decide +kernel
theorem dX10_needs_61 : decode cX10_needs 61 = .ok (.getfield 32, 3) := by decide +kernel
theorem dX10_needs_64 : decode cX10_needs 64 = .ok (.iload_n 1, 1) := by decide +kernel
theorem dX10_needs_65 : decode cX10_needs 65 = .ok (.iload_n 3, 1) := by decide +kernel
theorem dX10_needs_66 : decode cX10_needs 66 = .ok (.iastore, 1) := by decide +kernel
theorem dX10_needs_67 : decode cX10_needs 67 = .ok (.iconst 1, 1) := by decide +kernel
theorem dX10_needs_68 : decode cX10_needs 68 = .ok (.ireturn, 1) := by decide +kernel
theorem dX10_costs_0 : decode cX10_costs 0 = .ok (.iload_n 1, 1) := by decide +kernel
theorem dX10_costs_1 : decode cX10_costs 1 = .ok (.iconst 0, 1) := by decide +kernel
theorem dX10_costs_2 : decode cX10_costs 2 = .ok (.bipush 99, 2) := by decide +kernel
theorem dX10_costs_4 : decode cX10_costs 4 = .ok (.invokestatic 102, 3) := by decide +kernel
theorem dX10_costs_7 : decode cX10_costs 7 = .ok (.ifCond .eq 24, 3) := by decide +kernel
theorem dX10_costs_10 : decode cX10_costs 10 = .ok (.iload_n 2, 1) := by decide +kernel
theorem dX10_costs_11 : decode cX10_costs 11 = .ok (.iconst 0, 1) := by decide +kernel
theorem dX10_costs_12 : decode cX10_costs 12 = .ok (.bipush 99, 2) := by decide +kernel
theorem dX10_costs_14 : decode cX10_costs 14 = .ok (.invokestatic 102, 3) := by decide +kernel
theorem dX10_costs_17 : decode cX10_costs 17 = .ok (.ifCond .eq 14, 3) := by decide +kernel
theorem dX10_costs_20 : decode cX10_costs 20 = .ok (.iload_n 3, 1) := by decide +kernel
theorem dX10_costs_21 : decode cX10_costs 21 = .ok (.iconst 0, 1) := by decide +kernel
theorem dX10_costs_22 : decode cX10_costs 22 = .ok (.sipush 200, 3) := by decide +kernel
theorem dX10_costs_25 : decode cX10_costs 25 = .ok (.invokestatic 102, 3) := by decide +kernel
theorem dX10_costs_28 : decode cX10_costs 28 = .ok (.ifCond .ne 5, 3) := by decide +kernel
theorem dX10_costs_31 : decode cX10_costs 31 = .ok (.iconst 0, 1) := by decide +kernel
theorem dX10_costs_32 : decode cX10_costs 32 = .ok (.ireturn, 1) := by decide +kernel
theorem dX10_costs_33 : decode cX10_costs 33 = .ok (.aload_n 0, 1) := by decide +kernel
theorem dX10_costs_34 : decode cX10_costs 34 = .ok (.iload_n 1, 1) := by decide +kernel
theorem dX10_costs_35 : decode cX10_costs 35 = .ok (.putfield 44, 3) := by decide +kernel
theorem dX10_costs_38 : decode cX10_costs 38 = .ok (.aload_n 0, 1) := by decide +kernel
theorem dX10_costs_39 : decode cX10_costs 39 = .ok (.iload_n 2, 1) := by decide +kernel
theorem dX10_costs_40 : decode cX10_costs 40 = .ok (.putfield 48, 3) := by decide +kernel
theorem dX10_costs_43 : decode cX10_costs 43 = .ok (.aload_n 0, 1) := by decide +kernel
theorem dX10_costs_44 : decode cX10_costs 44 = .ok (.iload_n 3, 1) := by decide +kernel
theorem dX10_costs_45 : decode cX10_costs 45 = .ok (.putfield 51, 3) := by decide +kernel
theorem dX10_costs_48 : decode cX10_costs 48 = .ok (.iconst 1, 1) := by decide +kernel
theorem dX10_costs_49 : decode cX10_costs 49 = .ok (.ireturn, 1) := by decide +kernel
theorem dX10_isAsked_0 : decode cX10_isAsked 0 = .ok (.iload_n 1, 1) := by decide +kernel
theorem dX10_isAsked_1 : decode cX10_isAsked 1 = .ok (.istore_n 2, 1) := by decide +kernel
theorem dX10_isAsked_2 : decode cX10_isAsked 2 = .ok (.aload_n 0, 1) := by decide +kernel
theorem dX10_isAsked_3 : decode cX10_isAsked 3 = .ok (.getfield 29, 3) := by decide +kernel
theorem dX10_isAsked_6 : decode cX10_isAsked 6 = .ok (.iload_n 2, 1) := by decide +kernel
theorem dX10_isAsked_7 : decode cX10_isAsked 7 = .ok (.iaload, 1) := by decide +kernel
theorem dX10_isAsked_8 : decode cX10_isAsked 8 = .ok (.ifCond .lt 35, 3) := by decide +kernel
theorem dX10_isAsked_11 : decode cX10_isAsked 11 = .ok (.aload_n 0, 1) := by decide +kernel
theorem dX10_isAsked_12 : decode cX10_isAsked 12 = .ok (.getfield 35, 3) := by decide +kernel
theorem dX10_isAsked_15 : decode cX10_isAsked 15 = .ok (.aload_n 0, 1) := by decide +kernel
theorem dX10_isAsked_16 : decode cX10_isAsked 16 = .ok (.getfield 29, 3) := by decide +kernel
theorem dX10_isAsked_19 : decode cX10_isAsked 19 = .ok (.iload_n 2, 1) := by decide +kernel
theorem dX10_isAsked_20 : decode cX10_isAsked 20 = .ok (.iaload, 1) := by decide +kernel
theorem dX10_isAsked_21 : decode cX10_isAsked 21 = .ok (.iaload, 1) := by decide +kernel
theorem dX10_isAsked_22 : decode cX10_isAsked 22 = .ok (.aload_n 0, 1) := by decide +kernel
theorem dX10_isAsked_23 : decode cX10_isAsked 23 = .ok (.getfield 32, 3) := by decide +kernel
theorem dX10_isAsked_26 : decode cX10_isAsked 26 = .ok (.iload_n 2, 1) := by decide +kernel
theorem dX10_isAsked_27 : decode cX10_isAsked 27 = .ok (.iaload, 1) := by decide +kernel
theorem dX10_isAsked_28 : decode cX10_isAsked 28 = .ok (.if_icmp .eq 5, 3) := by decide +kernel
theorem dX10_isAsked_31 : decode cX10_isAsked 31 = .ok (.iconst 0, 1) := by decide +kernel
theorem dX10_isAsked_32 : decode cX10_isAsked 32 = .ok (.ireturn, 1) := by decide +kernel
theorem dX10_isAsked_33 : decode cX10_isAsked 33 = .ok (.aload_n 0, 1) := by decide +kernel
theorem dX10_isAsked_34 : decode cX10_isAsked 34 = .ok (.getfield 29, 3) := by decide +kernel
theorem dX10_isAsked_37 : decode cX10_isAsked 37 = .ok (.iload_n 2, 1) := by decide +kernel
theorem dX10_isAsked_38 : decode cX10_isAsked 38 = .ok (.iaload, 1) := by decide +kernel
theorem dX10_isAsked_39 : decode cX10_isAsked 39 = .ok (.istore_n 2, 1) := by decide +kernel
theorem dX10_isAsked_40 : decode cX10_isAsked 40 = .ok (.goto (-38), 3) := by decide +kernel
theorem dX10_isAsked_43 : decode cX10_isAsked 43 = .ok (.iconst 1, 1) := by decide +kernel
theorem dX10_isAsked_44 : decode cX10_isAsked 44 = .ok (.ireturn, 1) := by decide +kernel
theorem dX10_place_0 : decode cX10_place 0 = .ok (.aload_n 0, 1) := by decide +kernel
theorem dX10_place_1 : decode cX10_place 1 = .ok (.getfield 121, 3) := by decide +kernel
theorem dX10_place_4 : decode cX10_place 4 = .ok (.bipush 8, 2) := by decide +kernel
theorem dX10_place_6 : decode cX10_place 6 = .ok (.if_icmp .ne 5, 3) := by decide +kernel
theorem dX10_place_9 : decode cX10_place 9 = .ok (.iconst (-1), 1) := by decide +kernel
theorem dX10_place_10 : decode cX10_place 10 = .ok (.ireturn, 1) := by decide +kernel
theorem dX10_place_11 : decode cX10_place 11 = .ok (.aload_n 0, 1) := by decide +kernel
theorem dX10_place_12 : decode cX10_place 12 = .ok (.getfield 57, 3) := by decide +kernel
theorem dX10_place_15 : decode cX10_place 15 = .ok (.aload_n 0, 1) := by decide +kernel
theorem dX10_place_16 : decode cX10_place 16 = .ok (.getfield 121, 3) := by decide +kernel
theorem dX10_place_19 : decode cX10_place 19 = .ok (.iconst 0, 1) := by decide +kernel
theorem dX10_place_20 : decode cX10_place 20 = .ok (.iastore, 1) := by decide +kernel
theorem dX10_place_21 : decode cX10_place 21 = .ok (.aload_n 0, 1) := by decide +kernel
theorem dX10_place_22 : decode cX10_place 22 = .ok (.dup, 1) := by decide +kernel
theorem dX10_place_23 : decode cX10_place 23 = .ok (.getfield 121, 3) := by decide +kernel
theorem dX10_place_26 : decode cX10_place 26 = .ok (.iconst 1, 1) := by decide +kernel
theorem dX10_place_27 : decode cX10_place 27 = .ok (.iadd, 1) := by decide +kernel
end
section
/-! printed: decode rows -/
theorem dX10_place_28 : decode cX10_place 28 = .ok (.putfield 121, 3) := by decide +kernel
theorem dX10_place_31 : decode cX10_place 31 = .ok (.aload_n 0, 1) := by decide +kernel
theorem dX10_place_32 : decode cX10_place 32 = .ok (.getfield 121, 3) := by decide +kernel
theorem dX10_place_35 : decode cX10_place 35 = .ok (.ireturn, 1) := by decide +kernel
theorem dX10_word_0 : decode cX10_word 0 = .ok (.aload_n 0, 1) := by decide +kernel
theorem dX10_word_1 : decode cX10_word 1 = .ok (.getfield 121, 3) := by decide +kernel
theorem dX10_word_4 : decode cX10_word 4 = .ok (.ifCond .eq 23, 3) := by decide +kernel
theorem dX10_word_7 : decode cX10_word 7 = .ok (.iload_n 1, 1) := by decide +kernel
theorem dX10_word_8 : decode cX10_word 8 = .ok (.iconst 0, 1) := by decide +kernel
theorem dX10_word_9 : decode cX10_word 9 = .ok (.bipush 59, 2) := by decide +kernel
theorem dX10_word_11 : decode cX10_word 11 = .ok (.invokestatic 102, 3) := by decide +kernel
theorem dX10_word_14 : decode cX10_word 14 = .ok (.ifCond .eq 13, 3) := by decide +kernel
theorem dX10_word_17 : decode cX10_word 17 = .ok (.iload_n 2, 1) := by decide +kernel
theorem dX10_word_18 : decode cX10_word 18 = .ok (.iconst 0, 1) := by decide +kernel
theorem dX10_word_19 : decode cX10_word 19 = .ok (.bipush 99, 2) := by decide +kernel
theorem dX10_word_21 : decode cX10_word 21 = .ok (.invokestatic 102, 3) := by decide +kernel
theorem dX10_word_24 : decode cX10_word 24 = .ok (.ifCond .ne 5, 3) := by decide +kernel
theorem dX10_word_27 : decode cX10_word 27 = .ok (.iconst (-1), 1) := by decide +kernel
theorem dX10_word_28 : decode cX10_word 28 = .ok (.ireturn, 1) := by decide +kernel
theorem dX10_word_29 : decode cX10_word 29 = .ok (.aload_n 0, 1) := by decide +kernel
theorem dX10_word_30 : decode cX10_word 30 = .ok (.getfield 121, 3) := by decide +kernel
theorem dX10_word_33 : decode cX10_word 33 = .ok (.iconst 1, 1) := by decide +kernel
theorem dX10_word_34 : decode cX10_word 34 = .ok (.isub, 1) := by decide +kernel
theorem dX10_word_35 : decode cX10_word 35 = .ok (.istore_n 3, 1) := by decide +kernel
theorem dX10_word_36 : decode cX10_word 36 = .ok (.iconst 0, 1) := by decide +kernel
theorem dX10_word_37 : decode cX10_word 37 = .ok (.istore 4, 2) := by decide +kernel
theorem dX10_word_39 : decode cX10_word 39 = .ok (.iload 4, 2) := by decide +kernel
theorem dX10_word_41 : decode cX10_word 41 = .ok (.aload_n 0, 1) := by decide +kernel
theorem dX10_word_42 : decode cX10_word 42 = .ok (.getfield 57, 3) := by decide +kernel
theorem dX10_word_45 : decode cX10_word 45 = .ok (.iload_n 3, 1) := by decide +kernel
theorem dX10_word_46 : decode cX10_word 46 = .ok (.iaload, 1) := by decide +kernel
theorem dX10_word_47 : decode cX10_word 47 = .ok (.if_icmp .ge 26, 3) := by decide +kernel
theorem dX10_word_50 : decode cX10_word 50 = .ok (.aload_n 0, 1) := by decide +kernel
theorem dX10_word_51 : decode cX10_word 51 = .ok (.getfield 60, 3) := by decide +kernel
theorem dX10_word_54 : decode cX10_word 54 = .ok (.iconst 4, 1) := by decide +kernel
theorem dX10_word_55 : decode cX10_word 55 = .ok (.iload_n 3, 1) := by decide +kernel
theorem dX10_word_56 : decode cX10_word 56 = .ok (.imul, 1) := by decide +kernel
theorem dX10_word_57 : decode cX10_word 57 = .ok (.iload 4, 2) := by decide +kernel
theorem dX10_word_59 : decode cX10_word 59 = .ok (.iadd, 1) := by decide +kernel
theorem dX10_word_60 : decode cX10_word 60 = .ok (.iaload, 1) := by decide +kernel
theorem dX10_word_61 : decode cX10_word 61 = .ok (.iload_n 1, 1) := by decide +kernel
theorem dX10_word_62 : decode cX10_word 62 = .ok (.if_icmp .ne 5, 3) := by decide +kernel
theorem dX10_word_65 : decode cX10_word 65 = .ok (.iconst (-1), 1) := by decide +kernel
theorem dX10_word_66 : decode cX10_word 66 = .ok (.ireturn, 1) := by decide +kernel
theorem dX10_word_67 : decode cX10_word 67 = .ok (.iinc 4 1, 3) := by decide +kernel
theorem dX10_word_70 : decode cX10_word 70 = .ok (.goto (-31), 3) := by decide +kernel
theorem dX10_word_73 : decode cX10_word 73 = .ok (.aload_n 0, 1) := by decide +kernel
theorem dX10_word_74 : decode cX10_word 74 = .ok (.getfield 57, 3) := by decide +kernel
theorem dX10_word_77 : decode cX10_word 77 = .ok (.iload_n 3, 1) := by decide +kernel
theorem dX10_word_78 : decode cX10_word 78 = .ok (.iaload, 1) := by decide +kernel
theorem dX10_word_79 : decode cX10_word 79 = .ok (.iconst 4, 1) := by decide +kernel
theorem dX10_word_80 : decode cX10_word 80 = .ok (.if_icmp .ne 5, 3) := by decide +kernel
theorem dX10_word_83 : decode cX10_word 83 = .ok (.iconst (-1), 1) := by decide +kernel
theorem dX10_word_84 : decode cX10_word 84 = .ok (.ireturn, 1) := by decide +kernel
theorem dX10_word_85 : decode cX10_word 85 = .ok (.aload_n 0, 1) := by decide +kernel
theorem dX10_word_86 : decode cX10_word 86 = .ok (.getfield 60, 3) := by decide +kernel
theorem dX10_word_89 : decode cX10_word 89 = .ok (.iconst 4, 1) := by decide +kernel
theorem dX10_word_90 : decode cX10_word 90 = .ok (.iload_n 3, 1) := by decide +kernel
theorem dX10_word_91 : decode cX10_word 91 = .ok (.imul, 1) := by decide +kernel
theorem dX10_word_92 : decode cX10_word 92 = .ok (.aload_n 0, 1) := by decide +kernel
theorem dX10_word_93 : decode cX10_word 93 = .ok (.getfield 57, 3) := by decide +kernel
theorem dX10_word_96 : decode cX10_word 96 = .ok (.iload_n 3, 1) := by decide +kernel
theorem dX10_word_97 : decode cX10_word 97 = .ok (.iaload, 1) := by decide +kernel
theorem dX10_word_98 : decode cX10_word 98 = .ok (.iadd, 1) := by decide +kernel
theorem dX10_word_99 : decode cX10_word 99 = .ok (.iload_n 1, 1) := by decide +kernel
theorem dX10_word_100 : decode cX10_word 100 = .ok (.iastore, 1) := by decide +kernel
theorem dX10_word_101 : decode cX10_word 101 = .ok (.aload_n 0, 1) := by decide +kernel
theorem dX10_word_102 : decode cX10_word 102 = .ok (.getfield 63, 3) := by decide +kernel
theorem dX10_word_105 : decode cX10_word 105 = .ok (.iconst 4, 1) := by decide +kernel
theorem dX10_word_106 : decode cX10_word 106 = .ok (.iload_n 3, 1) := by decide +kernel
theorem dX10_word_107 : decode cX10_word 107 = .ok (.imul, 1) := by decide +kernel
theorem dX10_word_108 : decode cX10_word 108 = .ok (.aload_n 0, 1) := by decide +kernel
theorem dX10_word_109 : decode cX10_word 109 = .ok (.getfield 57, 3) := by decide +kernel
theorem dX10_word_112 : decode cX10_word 112 = .ok (.iload_n 3, 1) := by decide +kernel
theorem dX10_word_113 : decode cX10_word 113 = .ok (.iaload, 1) := by decide +kernel
theorem dX10_word_114 : decode cX10_word 114 = .ok (.iadd, 1) := by decide +kernel
theorem dX10_word_115 : decode cX10_word 115 = .ok (.iload_n 2, 1) := by decide +kernel
theorem dX10_word_116 : decode cX10_word 116 = .ok (.iastore, 1) := by decide +kernel
theorem dX10_word_117 : decode cX10_word 117 = .ok (.aload_n 0, 1) := by decide +kernel
theorem dX10_word_118 : decode cX10_word 118 = .ok (.getfield 57, 3) := by decide +kernel
theorem dX10_word_121 : decode cX10_word 121 = .ok (.iload_n 3, 1) := by decide +kernel
theorem dX10_word_122 : decode cX10_word 122 = .ok (.dup2, 1) := by decide +kernel
theorem dX10_word_123 : decode cX10_word 123 = .ok (.iaload, 1) := by decide +kernel
theorem dX10_word_124 : decode cX10_word 124 = .ok (.iconst 1, 1) := by decide +kernel
theorem dX10_word_125 : decode cX10_word 125 = .ok (.iadd, 1) := by decide +kernel
theorem dX10_word_126 : decode cX10_word 126 = .ok (.iastore, 1) := by decide +kernel
theorem dX10_word_127 : decode cX10_word 127 = .ok (.aload_n 0, 1) := by decide +kernel
theorem dX10_word_128 : decode cX10_word 128 = .ok (.getfield 57, 3) := by decide +kernel
theorem dX10_word_131 : decode cX10_word 131 = .ok (.iload_n 3, 1) := by decide +kernel
theorem dX10_word_132 : decode cX10_word 132 = .ok (.iaload, 1) := by decide +kernel
theorem dX10_word_133 : decode cX10_word 133 = .ok (.ireturn, 1) := by decide +kernel
theorem dX10_isAhead_0 : decode cX10_isAhead 0 = .ok (.iload_n 0, 1) := by decide +kernel
theorem dX10_isAhead_1 : decode cX10_isAhead 1 = .ok (.iload_n 3, 1) := by decide +kernel
theorem dX10_isAhead_2 : decode cX10_isAhead 2 = .ok (.if_icmp .eq 16, 3) := by decide +kernel
theorem dX10_isAhead_5 : decode cX10_isAhead 5 = .ok (.iload_n 0, 1) := by decide +kernel
theorem dX10_isAhead_6 : decode cX10_isAhead 6 = .ok (.iload_n 3, 1) := by decide +kernel
theorem dX10_isAhead_7 : decode cX10_isAhead 7 = .ok (.if_icmp .ge 7, 3) := by decide +kernel
theorem dX10_isAhead_10 : decode cX10_isAhead 10 = .ok (.iconst 1, 1) := by decide +kernel
theorem dX10_isAhead_11 : decode cX10_isAhead 11 = .ok (.goto 38, 3) := by decide +kernel
theorem dX10_isAhead_14 : decode cX10_isAhead 14 = .ok (.iconst 0, 1) := by decide +kernel
theorem dX10_isAhead_15 : decode cX10_isAhead 15 = .ok (.goto 34, 3) := by decide +kernel
theorem dX10_isAhead_18 : decode cX10_isAhead 18 = .ok (.iload_n 1, 1) := by decide +kernel
theorem dX10_isAhead_19 : decode cX10_isAhead 19 = .ok (.iload 4, 2) := by decide +kernel
theorem dX10_isAhead_21 : decode cX10_isAhead 21 = .ok (.if_icmp .eq 17, 3) := by decide +kernel
theorem dX10_isAhead_24 : decode cX10_isAhead 24 = .ok (.iload_n 1, 1) := by decide +kernel
theorem dX10_isAhead_25 : decode cX10_isAhead 25 = .ok (.iload 4, 2) := by decide +kernel
theorem dX10_isAhead_27 : decode cX10_isAhead 27 = .ok (.if_icmp .ge 7, 3) := by decide +kernel
theorem dX10_isAhead_30 : decode cX10_isAhead 30 = .ok (.iconst 1, 1) := by decide +kernel
theorem dX10_isAhead_31 : decode cX10_isAhead 31 = .ok (.goto 18, 3) := by decide +kernel
theorem dX10_isAhead_34 : decode cX10_isAhead 34 = .ok (.iconst 0, 1) := by decide +kernel
theorem dX10_isAhead_35 : decode cX10_isAhead 35 = .ok (.goto 14, 3) := by decide +kernel
theorem dX10_isAhead_38 : decode cX10_isAhead 38 = .ok (.iload_n 2, 1) := by decide +kernel
theorem dX10_isAhead_39 : decode cX10_isAhead 39 = .ok (.iload 5, 2) := by decide +kernel
theorem dX10_isAhead_41 : decode cX10_isAhead 41 = .ok (.if_icmp .ge 7, 3) := by decide +kernel
theorem dX10_isAhead_44 : decode cX10_isAhead 44 = .ok (.iconst 1, 1) := by decide +kernel
theorem dX10_isAhead_45 : decode cX10_isAhead 45 = .ok (.goto 4, 3) := by decide +kernel
theorem dX10_isAhead_48 : decode cX10_isAhead 48 = .ok (.iconst 0, 1) := by decide +kernel
theorem dX10_isAhead_49 : decode cX10_isAhead 49 = .ok (.ireturn, 1) := by decide +kernel
theorem dX10_set_0 : decode cX10_set 0 = .ok (.aload_n 0, 1) := by decide +kernel
theorem dX10_set_1 : decode cX10_set 1 = .ok (.getfield 72, 3) := by decide +kernel
theorem dX10_set_4 : decode cX10_set 4 = .ok (.iload_n 1, 1) := by decide +kernel
theorem dX10_set_5 : decode cX10_set 5 = .ok (.iload_n 2, 1) := by decide +kernel
theorem dX10_set_6 : decode cX10_set 6 = .ok (.iastore, 1) := by decide +kernel
theorem dX10_set_7 : decode cX10_set 7 = .ok (.aload_n 0, 1) := by decide +kernel
theorem dX10_set_8 : decode cX10_set 8 = .ok (.getfield 66, 3) := by decide +kernel
theorem dX10_set_11 : decode cX10_set 11 = .ok (.iload_n 1, 1) := by decide +kernel
theorem dX10_set_12 : decode cX10_set 12 = .ok (.iload_n 3, 1) := by decide +kernel
theorem dX10_set_13 : decode cX10_set 13 = .ok (.iastore, 1) := by decide +kernel
theorem dX10_set_14 : decode cX10_set 14 = .ok (.aload_n 0, 1) := by decide +kernel
theorem dX10_set_15 : decode cX10_set 15 = .ok (.getfield 69, 3) := by decide +kernel
theorem dX10_set_18 : decode cX10_set 18 = .ok (.iload_n 1, 1) := by decide +kernel
theorem dX10_set_19 : decode cX10_set 19 = .ok (.iload 4, 2) := by decide +kernel
theorem dX10_set_21 : decode cX10_set 21 = .ok (.iastore, 1) := by decide +kernel
theorem dX10_set_22 : decode cX10_set 22 = .ok (.return_, 1) := by decide +kernel
theorem dX10_found_0 : decode cX10_found 0 = .ok (.aload_n 0, 1) := by decide +kernel
theorem dX10_found_1 : decode cX10_found 1 = .ok (.getfield 72, 3) := by decide +kernel
theorem dX10_found_4 : decode cX10_found 4 = .ok (.iconst 0, 1) := by decide +kernel
theorem dX10_found_5 : decode cX10_found 5 = .ok (.iaload, 1) := by decide +kernel
theorem dX10_found_6 : decode cX10_found 6 = .ok (.ldc 124, 2) := by decide +kernel
theorem dX10_found_8 : decode cX10_found 8 = .ok (.if_icmp .ge 41, 3) := by decide +kernel
theorem dX10_found_11 : decode cX10_found 11 = .ok (.aload_n 0, 1) := by decide +kernel
theorem dX10_found_12 : decode cX10_found 12 = .ok (.getfield 66, 3) := by decide +kernel
theorem dX10_found_15 : decode cX10_found 15 = .ok (.iconst 0, 1) := by decide +kernel
theorem dX10_found_16 : decode cX10_found 16 = .ok (.iaload, 1) := by decide +kernel
theorem dX10_found_17 : decode cX10_found 17 = .ok (.iload_n 2, 1) := by decide +kernel
theorem dX10_found_18 : decode cX10_found 18 = .ok (.if_icmp .ne 31, 3) := by decide +kernel
theorem dX10_found_21 : decode cX10_found 21 = .ok (.aload_n 0, 1) := by decide +kernel
theorem dX10_found_22 : decode cX10_found 22 = .ok (.getfield 69, 3) := by decide +kernel
theorem dX10_found_25 : decode cX10_found 25 = .ok (.iconst 0, 1) := by decide +kernel
theorem dX10_found_26 : decode cX10_found 26 = .ok (.iaload, 1) := by decide +kernel
theorem dX10_found_27 : decode cX10_found 27 = .ok (.iload_n 3, 1) := by decide +kernel
theorem dX10_found_28 : decode cX10_found 28 = .ok (.if_icmp .ne 21, 3) := by decide +kernel
theorem dX10_found_31 : decode cX10_found 31 = .ok (.iload_n 1, 1) := by decide +kernel
theorem dX10_found_32 : decode cX10_found 32 = .ok (.aload_n 0, 1) := by decide +kernel
theorem dX10_found_33 : decode cX10_found 33 = .ok (.getfield 72, 3) := by decide +kernel
theorem dX10_found_36 : decode cX10_found 36 = .ok (.iconst 0, 1) := by decide +kernel
theorem dX10_found_37 : decode cX10_found 37 = .ok (.iaload, 1) := by decide +kernel
theorem dX10_found_38 : decode cX10_found 38 = .ok (.if_icmp .ge 10, 3) := by decide +kernel
theorem dX10_found_41 : decode cX10_found 41 = .ok (.aload_n 0, 1) := by decide +kernel
theorem dX10_found_42 : decode cX10_found 42 = .ok (.getfield 72, 3) := by decide +kernel
theorem dX10_found_45 : decode cX10_found 45 = .ok (.iconst 0, 1) := by decide +kernel
theorem dX10_found_46 : decode cX10_found 46 = .ok (.iload_n 1, 1) := by decide +kernel
theorem dX10_found_47 : decode cX10_found 47 = .ok (.iastore, 1) := by decide +kernel
theorem dX10_found_48 : decode cX10_found 48 = .ok (.return_, 1) := by decide +kernel
theorem dX10_found_49 : decode cX10_found 49 = .ok (.iload_n 1, 1) := by decide +kernel
theorem dX10_found_50 : decode cX10_found 50 = .ok (.iload_n 2, 1) := by decide +kernel
theorem dX10_found_51 : decode cX10_found 51 = .ok (.iload_n 3, 1) := by decide +kernel
theorem dX10_found_52 : decode cX10_found 52 = .ok (.aload_n 0, 1) := by decide +kernel
theorem dX10_found_53 : decode cX10_found 53 = .ok (.getfield 72, 3) := by decide +kernel
theorem dX10_found_56 : decode cX10_found 56 = .ok (.iconst 0, 1) := by decide +kernel
theorem dX10_found_57 : decode cX10_found 57 = .ok (.iaload, 1) := by decide +kernel
theorem dX10_found_58 : decode cX10_found 58 = .ok (.aload_n 0, 1) := by decide +kernel
theorem dX10_found_59 : decode cX10_found 59 = .ok (.getfield 66, 3) := by decide +kernel
theorem dX10_found_62 : decode cX10_found 62 = .ok (.iconst 0, 1) := by decide +kernel
theorem dX10_found_63 : decode cX10_found 63 = .ok (.iaload, 1) := by decide +kernel
theorem dX10_found_64 : decode cX10_found 64 = .ok (.aload_n 0, 1) := by decide +kernel
theorem dX10_found_65 : decode cX10_found 65 = .ok (.getfield 69, 3) := by decide +kernel
theorem dX10_found_68 : decode cX10_found 68 = .ok (.iconst 0, 1) := by decide +kernel
theorem dX10_found_69 : decode cX10_found 69 = .ok (.iaload, 1) := by decide +kernel
theorem dX10_found_70 : decode cX10_found 70 = .ok (.invokestatic 125, 3) := by decide +kernel
theorem dX10_found_73 : decode cX10_found 73 = .ok (.ifCond .eq 37, 3) := by decide +kernel
theorem dX10_found_76 : decode cX10_found 76 = .ok (.aload_n 0, 1) := by decide +kernel
theorem dX10_found_77 : decode cX10_found 77 = .ok (.iconst 1, 1) := by decide +kernel
theorem dX10_found_78 : decode cX10_found 78 = .ok (.aload_n 0, 1) := by decide +kernel
theorem dX10_found_79 : decode cX10_found 79 = .ok (.getfield 72, 3) := by decide +kernel
theorem dX10_found_82 : decode cX10_found 82 = .ok (.iconst 0, 1) := by decide +kernel
theorem dX10_found_83 : decode cX10_found 83 = .ok (.iaload, 1) := by decide +kernel
theorem dX10_found_84 : decode cX10_found 84 = .ok (.aload_n 0, 1) := by decide +kernel
theorem dX10_found_85 : decode cX10_found 85 = .ok (.getfield 66, 3) := by decide +kernel
theorem dX10_found_88 : decode cX10_found 88 = .ok (.iconst 0, 1) := by decide +kernel
theorem dX10_found_89 : decode cX10_found 89 = .ok (.iaload, 1) := by decide +kernel
theorem dX10_found_90 : decode cX10_found 90 = .ok (.aload_n 0, 1) := by decide +kernel
theorem dX10_found_91 : decode cX10_found 91 = .ok (.getfield 69, 3) := by decide +kernel
theorem dX10_found_94 : decode cX10_found 94 = .ok (.iconst 0, 1) := by decide +kernel
theorem dX10_found_95 : decode cX10_found 95 = .ok (.iaload, 1) := by decide +kernel
theorem dX10_found_96 : decode cX10_found 96 = .ok (.invokevirtual 129, 3) := by decide +kernel
theorem dX10_found_99 : decode cX10_found 99 = .ok (.aload_n 0, 1) := by decide +kernel
theorem dX10_found_100 : decode cX10_found 100 = .ok (.iconst 0, 1) := by decide +kernel
theorem dX10_found_101 : decode cX10_found 101 = .ok (.iload_n 1, 1) := by decide +kernel
theorem dX10_found_102 : decode cX10_found 102 = .ok (.iload_n 2, 1) := by decide +kernel
theorem dX10_found_103 : decode cX10_found 103 = .ok (.iload_n 3, 1) := by decide +kernel
theorem dX10_found_104 : decode cX10_found 104 = .ok (.invokevirtual 129, 3) := by decide +kernel
theorem dX10_found_107 : decode cX10_found 107 = .ok (.goto 38, 3) := by decide +kernel
theorem dX10_found_110 : decode cX10_found 110 = .ok (.iload_n 1, 1) := by decide +kernel
theorem dX10_found_111 : decode cX10_found 111 = .ok (.iload_n 2, 1) := by decide +kernel
theorem dX10_found_112 : decode cX10_found 112 = .ok (.iload_n 3, 1) := by decide +kernel
theorem dX10_found_113 : decode cX10_found 113 = .ok (.aload_n 0, 1) := by decide +kernel
theorem dX10_found_114 : decode cX10_found 114 = .ok (.getfield 72, 3) := by decide +kernel
theorem dX10_found_117 : decode cX10_found 117 = .ok (.iconst 1, 1) := by decide +kernel
theorem dX10_found_118 : decode cX10_found 118 = .ok (.iaload, 1) := by decide +kernel
theorem dX10_found_119 : decode cX10_found 119 = .ok (.aload_n 0, 1) := by decide +kernel
theorem dX10_found_120 : decode cX10_found 120 = .ok (.getfield 66, 3) := by decide +kernel
theorem dX10_found_123 : decode cX10_found 123 = .ok (.iconst 1, 1) := by decide +kernel
theorem dX10_found_124 : decode cX10_found 124 = .ok (.iaload, 1) := by decide +kernel
theorem dX10_found_125 : decode cX10_found 125 = .ok (.aload_n 0, 1) := by decide +kernel
theorem dX10_found_126 : decode cX10_found 126 = .ok (.getfield 69, 3) := by decide +kernel
theorem dX10_found_129 : decode cX10_found 129 = .ok (.iconst 1, 1) := by decide +kernel
theorem dX10_found_130 : decode cX10_found 130 = .ok (.iaload, 1) := by decide +kernel
theorem dX10_found_131 : decode cX10_found 131 = .ok (.invokestatic 125, 3) := by decide +kernel
theorem dX10_found_134 : decode cX10_found 134 = .ok (.ifCond .eq 11, 3) := by decide +kernel
theorem dX10_found_137 : decode cX10_found 137 = .ok (.aload_n 0, 1) := by decide +kernel
theorem dX10_found_138 : decode cX10_found 138 = .ok (.iconst 1, 1) := by decide +kernel
theorem dX10_found_139 : decode cX10_found 139 = .ok (.iload_n 1, 1) := by decide +kernel
theorem dX10_found_140 : decode cX10_found 140 = .ok (.iload_n 2, 1) := by decide +kernel
theorem dX10_found_141 : decode cX10_found 141 = .ok (.iload_n 3, 1) := by decide +kernel
theorem dX10_found_142 : decode cX10_found 142 = .ok (.invokevirtual 129, 3) := by decide +kernel
theorem dX10_found_145 : decode cX10_found 145 = .ok (.return_, 1) := by decide +kernel
theorem dX10_holds_0 : decode cX10_holds 0 = .ok (.iconst 0, 1) := by decide +kernel
theorem dX10_holds_1 : decode cX10_holds 1 = .ok (.istore_n 3, 1) := by decide +kernel
theorem dX10_holds_2 : decode cX10_holds 2 = .ok (.iload_n 1, 1) := by decide +kernel
theorem dX10_holds_3 : decode cX10_holds 3 = .ok (.istore 4, 2) := by decide +kernel
theorem dX10_holds_5 : decode cX10_holds 5 = .ok (.iconst 0, 1) := by decide +kernel
theorem dX10_holds_6 : decode cX10_holds 6 = .ok (.istore 5, 2) := by decide +kernel
theorem dX10_holds_8 : decode cX10_holds 8 = .ok (.iload 5, 2) := by decide +kernel
theorem dX10_holds_10 : decode cX10_holds 10 = .ok (.iload_n 2, 1) := by decide +kernel
theorem dX10_holds_11 : decode cX10_holds 11 = .ok (.if_icmp .ge 62, 3) := by decide +kernel
theorem dX10_holds_14 : decode cX10_holds 14 = .ok (.iload 4, 2) := by decide +kernel
theorem dX10_holds_16 : decode cX10_holds 16 = .ok (.bipush 10, 2) := by decide +kernel
theorem dX10_holds_18 : decode cX10_holds 18 = .ok (.irem, 1) := by decide +kernel
theorem dX10_holds_19 : decode cX10_holds 19 = .ok (.istore 6, 2) := by decide +kernel
theorem dX10_holds_21 : decode cX10_holds 21 = .ok (.iload 4, 2) := by decide +kernel
theorem dX10_holds_23 : decode cX10_holds 23 = .ok (.bipush 10, 2) := by decide +kernel
theorem dX10_holds_25 : decode cX10_holds 25 = .ok (.idiv, 1) := by decide +kernel
theorem dX10_holds_26 : decode cX10_holds 26 = .ok (.istore 4, 2) := by decide +kernel
theorem dX10_holds_28 : decode cX10_holds 28 = .ok (.iload 5, 2) := by decide +kernel
theorem dX10_holds_30 : decode cX10_holds 30 = .ok (.iconst 2, 1) := by decide +kernel
theorem dX10_holds_31 : decode cX10_holds 31 = .ok (.irem, 1) := by decide +kernel
theorem dX10_holds_32 : decode cX10_holds 32 = .ok (.iconst 1, 1) := by decide +kernel
theorem dX10_holds_33 : decode cX10_holds 33 = .ok (.if_icmp .ne 10, 3) := by decide +kernel
theorem dX10_holds_36 : decode cX10_holds 36 = .ok (.iconst 2, 1) := by decide +kernel
theorem dX10_holds_37 : decode cX10_holds 37 = .ok (.iload 6, 2) := by decide +kernel
theorem dX10_holds_39 : decode cX10_holds 39 = .ok (.imul, 1) := by decide +kernel
theorem dX10_holds_40 : decode cX10_holds 40 = .ok (.goto 5, 3) := by decide +kernel
theorem dX10_holds_43 : decode cX10_holds 43 = .ok (.iload 6, 2) := by decide +kernel
theorem dX10_holds_45 : decode cX10_holds 45 = .ok (.istore 7, 2) := by decide +kernel
theorem dX10_holds_47 : decode cX10_holds 47 = .ok (.iload_n 3, 1) := by decide +kernel
theorem dX10_holds_48 : decode cX10_holds 48 = .ok (.iload 7, 2) := by decide +kernel
theorem dX10_holds_50 : decode cX10_holds 50 = .ok (.bipush 9, 2) := by decide +kernel
theorem dX10_holds_52 : decode cX10_holds 52 = .ok (.if_icmp .le 11, 3) := by decide +kernel
theorem dX10_holds_55 : decode cX10_holds 55 = .ok (.iload 7, 2) := by decide +kernel
theorem dX10_holds_57 : decode cX10_holds 57 = .ok (.bipush 9, 2) := by decide +kernel
theorem dX10_holds_59 : decode cX10_holds 59 = .ok (.isub, 1) := by decide +kernel
theorem dX10_holds_60 : decode cX10_holds 60 = .ok (.goto 5, 3) := by decide +kernel
theorem dX10_holds_63 : decode cX10_holds 63 = .ok (.iload 7, 2) := by decide +kernel
theorem dX10_holds_65 : decode cX10_holds 65 = .ok (.iadd, 1) := by decide +kernel
theorem dX10_holds_66 : decode cX10_holds 66 = .ok (.istore_n 3, 1) := by decide +kernel
theorem dX10_holds_67 : decode cX10_holds 67 = .ok (.iinc 5 1, 3) := by decide +kernel
theorem dX10_holds_70 : decode cX10_holds 70 = .ok (.goto (-62), 3) := by decide +kernel
theorem dX10_holds_73 : decode cX10_holds 73 = .ok (.iload_n 3, 1) := by decide +kernel
theorem dX10_holds_74 : decode cX10_holds 74 = .ok (.bipush 10, 2) := by decide +kernel
theorem dX10_holds_76 : decode cX10_holds 76 = .ok (.irem, 1) := by decide +kernel
theorem dX10_holds_77 : decode cX10_holds 77 = .ok (.ifCond .ne 7, 3) := by decide +kernel
theorem dX10_holds_80 : decode cX10_holds 80 = .ok (.iconst 1, 1) := by decide +kernel
theorem dX10_holds_81 : decode cX10_holds 81 = .ok (.goto 4, 3) := by decide +kernel
theorem dX10_holds_84 : decode cX10_holds 84 = .ok (.iconst 0, 1) := by decide +kernel
theorem dX10_holds_85 : decode cX10_holds 85 = .ok (.ireturn, 1) := by decide +kernel
theorem dX10_answer_0 : decode cX10_answer 0 = .ok (.aload_n 0, 1) := by decide +kernel
theorem dX10_answer_1 : decode cX10_answer 1 = .ok (.getfield 13, 3) := by decide +kernel
theorem dX10_answer_4 : decode cX10_answer 4 = .ok (.iload_n 1, 1) := by decide +kernel
theorem dX10_answer_5 : decode cX10_answer 5 = .ok (.iaload, 1) := by decide +kernel
theorem dX10_answer_6 : decode cX10_answer 6 = .ok (.ifCond .ne 57, 3) := by decide +kernel
theorem dX10_answer_9 : decode cX10_answer 9 = .ok (.aload_n 0, 1) := by decide +kernel
theorem dX10_answer_10 : decode cX10_answer 10 = .ok (.getfield 133, 3) := by decide +kernel
theorem dX10_answer_13 : decode cX10_answer 13 = .ok (.iload_n 2, 1) := by decide +kernel
theorem dX10_answer_14 : decode cX10_answer 14 = .ok (.iconst 1, 1) := by decide +kernel
theorem dX10_answer_15 : decode cX10_answer 15 = .ok (.iadd, 1) := by decide +kernel
theorem dX10_answer_16 : decode cX10_answer 16 = .ok (.if_icmp .eq 5, 3) := by decide +kernel
theorem dX10_answer_19 : decode cX10_answer 19 = .ok (.iconst (-1), 1) := by decide +kernel
theorem dX10_answer_20 : decode cX10_answer 20 = .ok (.ireturn, 1) := by decide +kernel
theorem dX10_answer_21 : decode cX10_answer 21 = .ok (.iconst 0, 1) := by decide +kernel
theorem dX10_answer_22 : decode cX10_answer 22 = .ok (.istore_n 3, 1) := by decide +kernel
theorem dX10_answer_23 : decode cX10_answer 23 = .ok (.iload_n 3, 1) := by decide +kernel
theorem dX10_answer_24 : decode cX10_answer 24 = .ok (.aload_n 0, 1) := by decide +kernel
theorem dX10_answer_25 : decode cX10_answer 25 = .ok (.getfield 16, 3) := by decide +kernel
theorem dX10_answer_28 : decode cX10_answer 28 = .ok (.iload_n 1, 1) := by decide +kernel
theorem dX10_answer_29 : decode cX10_answer 29 = .ok (.iaload, 1) := by decide +kernel
theorem dX10_answer_30 : decode cX10_answer 30 = .ok (.if_icmp .ge 31, 3) := by decide +kernel
theorem dX10_answer_33 : decode cX10_answer 33 = .ok (.aload_n 0, 1) := by decide +kernel
theorem dX10_answer_34 : decode cX10_answer 34 = .ok (.getfield 26, 3) := by decide +kernel
theorem dX10_answer_37 : decode cX10_answer 37 = .ok (.bipush 6, 2) := by decide +kernel
theorem dX10_answer_39 : decode cX10_answer 39 = .ok (.iload_n 1, 1) := by decide +kernel
theorem dX10_answer_40 : decode cX10_answer 40 = .ok (.imul, 1) := by decide +kernel
theorem dX10_answer_41 : decode cX10_answer 41 = .ok (.iload_n 3, 1) := by decide +kernel
theorem dX10_answer_42 : decode cX10_answer 42 = .ok (.iadd, 1) := by decide +kernel
theorem dX10_answer_43 : decode cX10_answer 43 = .ok (.iaload, 1) := by decide +kernel
theorem dX10_answer_44 : decode cX10_answer 44 = .ok (.aload_n 0, 1) := by decide +kernel
theorem dX10_answer_45 : decode cX10_answer 45 = .ok (.getfield 75, 3) := by decide +kernel
theorem dX10_answer_48 : decode cX10_answer 48 = .ok (.iload_n 2, 1) := by decide +kernel
theorem dX10_answer_49 : decode cX10_answer 49 = .ok (.iaload, 1) := by decide +kernel
theorem dX10_answer_50 : decode cX10_answer 50 = .ok (.if_icmp .ne 5, 3) := by decide +kernel
theorem dX10_answer_53 : decode cX10_answer 53 = .ok (.iload_n 3, 1) := by decide +kernel
theorem dX10_answer_54 : decode cX10_answer 54 = .ok (.ireturn, 1) := by decide +kernel
theorem dX10_answer_55 : decode cX10_answer 55 = .ok (.iinc 3 1, 3) := by decide +kernel
theorem dX10_answer_58 : decode cX10_answer 58 = .ok (.goto (-35), 3) := by decide +kernel
theorem dX10_answer_61 : decode cX10_answer 61 = .ok (.iconst (-1), 1) := by decide +kernel
theorem dX10_answer_62 : decode cX10_answer 62 = .ok (.ireturn, 1) := by decide +kernel
theorem dX10_answer_63 : decode cX10_answer 63 = .ok (.iconst 0, 1) := by decide +kernel
theorem dX10_answer_64 : decode cX10_answer 64 = .ok (.istore_n 3, 1) := by decide +kernel
theorem dX10_answer_65 : decode cX10_answer 65 = .ok (.iconst 0, 1) := by decide +kernel
theorem dX10_answer_66 : decode cX10_answer 66 = .ok (.istore 4, 2) := by decide +kernel
theorem dX10_answer_68 : decode cX10_answer 68 = .ok (.iload_n 2, 1) := by decide +kernel
theorem dX10_answer_69 : decode cX10_answer 69 = .ok (.istore 5, 2) := by decide +kernel
theorem dX10_answer_71 : decode cX10_answer 71 = .ok (.iload 5, 2) := by decide +kernel
theorem dX10_answer_73 : decode cX10_answer 73 = .ok (.aload_n 0, 1) := by decide +kernel
theorem dX10_answer_74 : decode cX10_answer 74 = .ok (.getfield 133, 3) := by decide +kernel
theorem dX10_answer_77 : decode cX10_answer 77 = .ok (.if_icmp .ge 116, 3) := by decide +kernel
theorem dX10_answer_80 : decode cX10_answer 80 = .ok (.iload 4, 2) := by decide +kernel
theorem dX10_answer_82 : decode cX10_answer 82 = .ok (.aload_n 0, 1) := by decide +kernel
theorem dX10_answer_83 : decode cX10_answer 83 = .ok (.getfield 13, 3) := by decide +kernel
theorem dX10_answer_86 : decode cX10_answer 86 = .ok (.iload_n 1, 1) := by decide +kernel
theorem dX10_answer_87 : decode cX10_answer 87 = .ok (.iaload, 1) := by decide +kernel
theorem dX10_answer_88 : decode cX10_answer 88 = .ok (.if_icmp .ge 105, 3) := by decide +kernel
theorem dX10_answer_91 : decode cX10_answer 91 = .ok (.aload_n 0, 1) := by decide +kernel
theorem dX10_answer_92 : decode cX10_answer 92 = .ok (.getfield 75, 3) := by decide +kernel
theorem dX10_answer_95 : decode cX10_answer 95 = .ok (.iload 5, 2) := by decide +kernel
theorem dX10_answer_97 : decode cX10_answer 97 = .ok (.iaload, 1) := by decide +kernel
theorem dX10_answer_98 : decode cX10_answer 98 = .ok (.bipush 10, 2) := by decide +kernel
theorem dX10_answer_100 : decode cX10_answer 100 = .ok (.if_icmp .ne 7, 3) := by decide +kernel
theorem dX10_answer_103 : decode cX10_answer 103 = .ok (.iconst 1, 1) := by decide +kernel
theorem dX10_answer_104 : decode cX10_answer 104 = .ok (.goto 4, 3) := by decide +kernel
theorem dX10_answer_107 : decode cX10_answer 107 = .ok (.iconst 0, 1) := by decide +kernel
theorem dX10_answer_108 : decode cX10_answer 108 = .ok (.istore 6, 2) := by decide +kernel
theorem dX10_answer_110 : decode cX10_answer 110 = .ok (.iload 6, 2) := by decide +kernel
theorem dX10_answer_112 : decode cX10_answer 112 = .ok (.ifCond .eq 6, 3) := by decide +kernel
theorem dX10_answer_115 : decode cX10_answer 115 = .ok (.iinc 5 1, 3) := by decide +kernel
theorem dX10_answer_118 : decode cX10_answer 118 = .ok (.iload 5, 2) := by decide +kernel
theorem dX10_answer_120 : decode cX10_answer 120 = .ok (.aload_n 0, 1) := by decide +kernel
theorem dX10_answer_121 : decode cX10_answer 121 = .ok (.getfield 133, 3) := by decide +kernel
theorem dX10_answer_124 : decode cX10_answer 124 = .ok (.if_icmp .eq 15, 3) := by decide +kernel
theorem dX10_answer_127 : decode cX10_answer 127 = .ok (.aload_n 0, 1) := by decide +kernel
theorem dX10_answer_128 : decode cX10_answer 128 = .ok (.getfield 75, 3) := by decide +kernel
theorem dX10_answer_131 : decode cX10_answer 131 = .ok (.iload 5, 2) := by decide +kernel
theorem dX10_answer_133 : decode cX10_answer 133 = .ok (.iaload, 1) := by decide +kernel
theorem dX10_answer_134 : decode cX10_answer 134 = .ok (.bipush 9, 2) := by decide +kernel
theorem dX10_answer_136 : decode cX10_answer 136 = .ok (.if_icmp .le 5, 3) := by decide +kernel
theorem dX10_answer_139 : decode cX10_answer 139 = .ok (.iconst (-1), 1) := by decide +kernel
theorem dX10_answer_140 : decode cX10_answer 140 = .ok (.ireturn, 1) := by decide +kernel
theorem dX10_answer_141 : decode cX10_answer 141 = .ok (.bipush 10, 2) := by decide +kernel
theorem dX10_answer_143 : decode cX10_answer 143 = .ok (.iload_n 3, 1) := by decide +kernel
theorem dX10_answer_144 : decode cX10_answer 144 = .ok (.imul, 1) := by decide +kernel
theorem dX10_answer_145 : decode cX10_answer 145 = .ok (.aload_n 0, 1) := by decide +kernel
theorem dX10_answer_146 : decode cX10_answer 146 = .ok (.getfield 75, 3) := by decide +kernel
theorem dX10_answer_149 : decode cX10_answer 149 = .ok (.iload 5, 2) := by decide +kernel
theorem dX10_answer_151 : decode cX10_answer 151 = .ok (.iaload, 1) := by decide +kernel
theorem dX10_answer_152 : decode cX10_answer 152 = .ok (.iadd, 1) := by decide +kernel
theorem dX10_answer_153 : decode cX10_answer 153 = .ok (.istore_n 3, 1) := by decide +kernel
theorem dX10_answer_154 : decode cX10_answer 154 = .ok (.iload 6, 2) := by decide +kernel
theorem dX10_answer_156 : decode cX10_answer 156 = .ok (.ifCond .eq 16, 3) := by decide +kernel
theorem dX10_answer_159 : decode cX10_answer 159 = .ok (.bipush 10, 2) := by decide +kernel
theorem dX10_answer_161 : decode cX10_answer 161 = .ok (.iload_n 3, 1) := by decide +kernel
theorem dX10_answer_162 : decode cX10_answer 162 = .ok (.imul, 1) := by decide +kernel
theorem dX10_answer_163 : decode cX10_answer 163 = .ok (.aload_n 0, 1) := by decide +kernel
theorem dX10_answer_164 : decode cX10_answer 164 = .ok (.getfield 75, 3) := by decide +kernel
theorem dX10_answer_167 : decode cX10_answer 167 = .ok (.iload 5, 2) := by decide +kernel
theorem dX10_answer_169 : decode cX10_answer 169 = .ok (.iaload, 1) := by decide +kernel
theorem dX10_answer_170 : decode cX10_answer 170 = .ok (.iadd, 1) := by decide +kernel
theorem dX10_answer_171 : decode cX10_answer 171 = .ok (.istore_n 3, 1) := by decide +kernel
theorem dX10_answer_172 : decode cX10_answer 172 = .ok (.iload 4, 2) := by decide +kernel
theorem dX10_answer_174 : decode cX10_answer 174 = .ok (.iload 6, 2) := by decide +kernel
theorem dX10_answer_176 : decode cX10_answer 176 = .ok (.ifCond .eq 7, 3) := by decide +kernel
theorem dX10_answer_179 : decode cX10_answer 179 = .ok (.iconst 2, 1) := by decide +kernel
theorem dX10_answer_180 : decode cX10_answer 180 = .ok (.goto 4, 3) := by decide +kernel
theorem dX10_answer_183 : decode cX10_answer 183 = .ok (.iconst 1, 1) := by decide +kernel
theorem dX10_answer_184 : decode cX10_answer 184 = .ok (.iadd, 1) := by decide +kernel
theorem dX10_answer_185 : decode cX10_answer 185 = .ok (.istore 4, 2) := by decide +kernel
theorem dX10_answer_187 : decode cX10_answer 187 = .ok (.iinc 5 1, 3) := by decide +kernel
theorem dX10_answer_190 : decode cX10_answer 190 = .ok (.goto (-119), 3) := by decide +kernel
theorem dX10_answer_193 : decode cX10_answer 193 = .ok (.iload 5, 2) := by decide +kernel
theorem dX10_answer_195 : decode cX10_answer 195 = .ok (.aload_n 0, 1) := by decide +kernel
theorem dX10_answer_196 : decode cX10_answer 196 = .ok (.getfield 133, 3) := by decide +kernel
theorem dX10_answer_199 : decode cX10_answer 199 = .ok (.if_icmp .lt 33, 3) := by decide +kernel
theorem dX10_answer_202 : decode cX10_answer 202 = .ok (.iload 4, 2) := by decide +kernel
theorem dX10_answer_204 : decode cX10_answer 204 = .ok (.aload_n 0, 1) := by decide +kernel
theorem dX10_answer_205 : decode cX10_answer 205 = .ok (.getfield 13, 3) := by decide +kernel
theorem dX10_answer_208 : decode cX10_answer 208 = .ok (.iload_n 1, 1) := by decide +kernel
theorem dX10_answer_209 : decode cX10_answer 209 = .ok (.iaload, 1) := by decide +kernel
theorem dX10_answer_210 : decode cX10_answer 210 = .ok (.if_icmp .ne 22, 3) := by decide +kernel
theorem dX10_answer_213 : decode cX10_answer 213 = .ok (.aload_n 0, 1) := by decide +kernel
theorem dX10_answer_214 : decode cX10_answer 214 = .ok (.getfield 19, 3) := by decide +kernel
theorem dX10_answer_217 : decode cX10_answer 217 = .ok (.iload_n 1, 1) := by decide +kernel
theorem dX10_answer_218 : decode cX10_answer 218 = .ok (.baload, 1) := by decide +kernel
theorem dX10_answer_219 : decode cX10_answer 219 = .ok (.ifCond .eq 17, 3) := by decide +kernel
theorem dX10_answer_222 : decode cX10_answer 222 = .ok (.aload_n 0, 1) := by decide +kernel
theorem dX10_answer_223 : decode cX10_answer 223 = .ok (.iload_n 3, 1) := by decide +kernel
theorem dX10_answer_224 : decode cX10_answer 224 = .ok (.iload 4, 2) := by decide +kernel
theorem dX10_answer_226 : decode cX10_answer 226 = .ok (.invokevirtual 136, 3) := by decide +kernel
theorem dX10_answer_229 : decode cX10_answer 229 = .ok (.ifCond .ne 7, 3) := by decide +kernel
theorem dX10_answer_232 : decode cX10_answer 232 = .ok (.iconst (-1), 1) := by decide +kernel
theorem dX10_answer_233 : decode cX10_answer 233 = .ok (.goto 4, 3) := by decide +kernel
theorem dX10_answer_236 : decode cX10_answer 236 = .ok (.iload_n 3, 1) := by decide +kernel
theorem dX10_answer_237 : decode cX10_answer 237 = .ok (.ireturn, 1) := by decide +kernel
theorem dX10_fieldNamed_0 : decode cX10_fieldNamed 0 = .ok (.iconst 0, 1) := by decide +kernel
theorem dX10_fieldNamed_1 : decode cX10_fieldNamed 1 = .ok (.istore_n 2, 1) := by decide +kernel
theorem dX10_fieldNamed_2 : decode cX10_fieldNamed 2 = .ok (.iload_n 2, 1) := by decide +kernel
theorem dX10_fieldNamed_3 : decode cX10_fieldNamed 3 = .ok (.aload_n 0, 1) := by decide +kernel
theorem dX10_fieldNamed_4 : decode cX10_fieldNamed 4 = .ok (.getfield 99, 3) := by decide +kernel
theorem dX10_fieldNamed_7 : decode cX10_fieldNamed 7 = .ok (.if_icmp .ge 21, 3) := by decide +kernel
theorem dX10_fieldNamed_10 : decode cX10_fieldNamed 10 = .ok (.aload_n 0, 1) := by decide +kernel
theorem dX10_fieldNamed_11 : decode cX10_fieldNamed 11 = .ok (.getfield 7, 3) := by decide +kernel
theorem dX10_fieldNamed_14 : decode cX10_fieldNamed 14 = .ok (.iload_n 2, 1) := by decide +kernel
theorem dX10_fieldNamed_15 : decode cX10_fieldNamed 15 = .ok (.iaload, 1) := by decide +kernel
theorem dX10_fieldNamed_16 : decode cX10_fieldNamed 16 = .ok (.iload_n 1, 1) := by decide +kernel
theorem dX10_fieldNamed_17 : decode cX10_fieldNamed 17 = .ok (.if_icmp .ne 5, 3) := by decide +kernel
theorem dX10_fieldNamed_20 : decode cX10_fieldNamed 20 = .ok (.iload_n 2, 1) := by decide +kernel
theorem dX10_fieldNamed_21 : decode cX10_fieldNamed 21 = .ok (.ireturn, 1) := by decide +kernel
theorem dX10_fieldNamed_22 : decode cX10_fieldNamed 22 = .ok (.iinc 2 1, 3) := by decide +kernel
theorem dX10_fieldNamed_25 : decode cX10_fieldNamed 25 = .ok (.goto (-23), 3) := by decide +kernel
theorem dX10_fieldNamed_28 : decode cX10_fieldNamed 28 = .ok (.iconst (-1), 1) := by decide +kernel
theorem dX10_fieldNamed_29 : decode cX10_fieldNamed 29 = .ok (.ireturn, 1) := by decide +kernel
theorem dX10_read_0 : decode cX10_read 0 = .ok (.aload_n 0, 1) := by decide +kernel
theorem dX10_read_1 : decode cX10_read 1 = .ok (.getfield 133, 3) := by decide +kernel
theorem dX10_read_4 : decode cX10_read 4 = .ok (.ifCond .ne 4, 3) := by decide +kernel
theorem dX10_read_7 : decode cX10_read 7 = .ok (.return_, 1) := by decide +kernel
theorem dX10_read_8 : decode cX10_read 8 = .ok (.aload_n 0, 1) := by decide +kernel
theorem dX10_read_9 : decode cX10_read 9 = .ok (.getfield 81, 3) := by decide +kernel
theorem dX10_read_12 : decode cX10_read 12 = .ok (.ifCond .ge 7, 3) := by decide +kernel
theorem dX10_read_15 : decode cX10_read 15 = .ok (.iconst (-1), 1) := by decide +kernel
theorem dX10_read_16 : decode cX10_read 16 = .ok (.goto 12, 3) := by decide +kernel
theorem dX10_read_19 : decode cX10_read 19 = .ok (.aload_n 0, 1) := by decide +kernel
theorem dX10_read_20 : decode cX10_read 20 = .ok (.aload_n 0, 1) := by decide +kernel
theorem dX10_read_21 : decode cX10_read 21 = .ok (.getfield 81, 3) := by decide +kernel
theorem dX10_read_24 : decode cX10_read 24 = .ok (.iconst 0, 1) := by decide +kernel
theorem dX10_read_25 : decode cX10_read 25 = .ok (.invokevirtual 140, 3) := by decide +kernel
theorem dX10_read_28 : decode cX10_read 28 = .ok (.istore_n 2, 1) := by decide +kernel
theorem dX10_read_29 : decode cX10_read 29 = .ok (.iload_n 2, 1) := by decide +kernel
theorem dX10_read_30 : decode cX10_read 30 = .ok (.ifCond .lt 10, 3) := by decide +kernel
theorem dX10_read_33 : decode cX10_read 33 = .ok (.aload_n 0, 1) := by decide +kernel
theorem dX10_read_34 : decode cX10_read 34 = .ok (.iload_n 1, 1) := by decide +kernel
theorem dX10_read_35 : decode cX10_read 35 = .ok (.iconst 0, 1) := by decide +kernel
theorem dX10_read_36 : decode cX10_read 36 = .ok (.iload_n 2, 1) := by decide +kernel
theorem dX10_read_37 : decode cX10_read 37 = .ok (.invokevirtual 144, 3) := by decide +kernel
theorem dX10_read_40 : decode cX10_read 40 = .ok (.aload_n 0, 1) := by decide +kernel
theorem dX10_read_41 : decode cX10_read 41 = .ok (.getfield 133, 3) := by decide +kernel
theorem dX10_read_44 : decode cX10_read 44 = .ok (.iconst 1, 1) := by decide +kernel
theorem dX10_read_45 : decode cX10_read 45 = .ok (.if_icmp .ne 39, 3) := by decide +kernel
theorem dX10_read_48 : decode cX10_read 48 = .ok (.aload_n 0, 1) := by decide +kernel
theorem dX10_read_49 : decode cX10_read 49 = .ok (.getfield 75, 3) := by decide +kernel
theorem dX10_read_52 : decode cX10_read 52 = .ok (.iconst 0, 1) := by decide +kernel
theorem dX10_read_53 : decode cX10_read 53 = .ok (.iaload, 1) := by decide +kernel
theorem dX10_read_54 : decode cX10_read 54 = .ok (.bipush 11, 2) := by decide +kernel
theorem dX10_read_56 : decode cX10_read 56 = .ok (.bipush 16, 2) := by decide +kernel
theorem dX10_read_58 : decode cX10_read 58 = .ok (.invokestatic 102, 3) := by decide +kernel
theorem dX10_read_61 : decode cX10_read 61 = .ok (.ifCond .eq 23, 3) := by decide +kernel
theorem dX10_read_64 : decode cX10_read 64 = .ok (.aload_n 0, 1) := by decide +kernel
theorem dX10_read_65 : decode cX10_read 65 = .ok (.iload_n 1, 1) := by decide +kernel
theorem dX10_read_66 : decode cX10_read 66 = .ok (.aload_n 0, 1) := by decide +kernel
theorem dX10_read_67 : decode cX10_read 67 = .ok (.getfield 48, 3) := by decide +kernel
theorem dX10_read_70 : decode cX10_read 70 = .ok (.iadd, 1) := by decide +kernel
theorem dX10_read_71 : decode cX10_read 71 = .ok (.aload_n 0, 1) := by decide +kernel
theorem dX10_read_72 : decode cX10_read 72 = .ok (.getfield 75, 3) := by decide +kernel
theorem dX10_read_75 : decode cX10_read 75 = .ok (.iconst 0, 1) := by decide +kernel
theorem dX10_read_76 : decode cX10_read 76 = .ok (.iaload, 1) := by decide +kernel
theorem dX10_read_77 : decode cX10_read 77 = .ok (.bipush 10, 2) := by decide +kernel
theorem dX10_read_79 : decode cX10_read 79 = .ok (.isub, 1) := by decide +kernel
theorem dX10_read_80 : decode cX10_read 80 = .ok (.iconst 0, 1) := by decide +kernel
theorem dX10_read_81 : decode cX10_read 81 = .ok (.invokevirtual 144, 3) := by decide +kernel
theorem dX10_read_84 : decode cX10_read 84 = .ok (.aload_n 0, 1) := by decide +kernel
theorem dX10_read_85 : decode cX10_read 85 = .ok (.getfield 133, 3) := by decide +kernel
theorem dX10_read_88 : decode cX10_read 88 = .ok (.iconst 2, 1) := by decide +kernel
theorem dX10_read_89 : decode cX10_read 89 = .ok (.if_icmp .ne 27, 3) := by decide +kernel
theorem dX10_read_92 : decode cX10_read 92 = .ok (.aload_n 0, 1) := by decide +kernel
theorem dX10_read_93 : decode cX10_read 93 = .ok (.getfield 75, 3) := by decide +kernel
theorem dX10_read_96 : decode cX10_read 96 = .ok (.iconst 0, 1) := by decide +kernel
theorem dX10_read_97 : decode cX10_read 97 = .ok (.iaload, 1) := by decide +kernel
theorem dX10_read_98 : decode cX10_read 98 = .ok (.bipush 17, 2) := by decide +kernel
theorem dX10_read_100 : decode cX10_read 100 = .ok (.if_icmp .ne 16, 3) := by decide +kernel
theorem dX10_read_103 : decode cX10_read 103 = .ok (.aload_n 0, 1) := by decide +kernel
theorem dX10_read_104 : decode cX10_read 104 = .ok (.aload_n 0, 1) := by decide +kernel
theorem dX10_read_105 : decode cX10_read 105 = .ok (.getfield 75, 3) := by decide +kernel
theorem dX10_read_108 : decode cX10_read 108 = .ok (.iconst 1, 1) := by decide +kernel
theorem dX10_read_109 : decode cX10_read 109 = .ok (.iaload, 1) := by decide +kernel
theorem dX10_read_110 : decode cX10_read 110 = .ok (.invokevirtual 148, 3) := by decide +kernel
theorem dX10_read_113 : decode cX10_read 113 = .ok (.goto 4, 3) := by decide +kernel
theorem dX10_read_116 : decode cX10_read 116 = .ok (.iconst (-1), 1) := by decide +kernel
theorem dX10_read_117 : decode cX10_read 117 = .ok (.istore_n 3, 1) := by decide +kernel
theorem dX10_read_118 : decode cX10_read 118 = .ok (.iload_n 3, 1) := by decide +kernel
theorem dX10_read_119 : decode cX10_read 119 = .ok (.ifCond .lt 16, 3) := by decide +kernel
theorem dX10_read_122 : decode cX10_read 122 = .ok (.aload_n 0, 1) := by decide +kernel
theorem dX10_read_123 : decode cX10_read 123 = .ok (.iload_n 1, 1) := by decide +kernel
theorem dX10_read_124 : decode cX10_read 124 = .ok (.aload_n 0, 1) := by decide +kernel
theorem dX10_read_125 : decode cX10_read 125 = .ok (.getfield 48, 3) := by decide +kernel
theorem dX10_read_128 : decode cX10_read 128 = .ok (.iadd, 1) := by decide +kernel
theorem dX10_read_129 : decode cX10_read 129 = .ok (.bipush 7, 2) := by decide +kernel
theorem dX10_read_131 : decode cX10_read 131 = .ok (.iload_n 3, 1) := by decide +kernel
theorem dX10_read_132 : decode cX10_read 132 = .ok (.invokevirtual 144, 3) := by decide +kernel
theorem dX10_read_135 : decode cX10_read 135 = .ok (.aload_n 0, 1) := by decide +kernel
theorem dX10_read_136 : decode cX10_read 136 = .ok (.getfield 133, 3) := by decide +kernel
theorem dX10_read_139 : decode cX10_read 139 = .ok (.iconst 1, 1) := by decide +kernel
theorem dX10_read_140 : decode cX10_read 140 = .ok (.if_icmp .le 33, 3) := by decide +kernel
theorem dX10_read_143 : decode cX10_read 143 = .ok (.aload_n 0, 1) := by decide +kernel
theorem dX10_read_144 : decode cX10_read 144 = .ok (.getfield 75, 3) := by decide +kernel
theorem dX10_read_147 : decode cX10_read 147 = .ok (.iconst 0, 1) := by decide +kernel
theorem dX10_read_148 : decode cX10_read 148 = .ok (.iaload, 1) := by decide +kernel
theorem dX10_read_149 : decode cX10_read 149 = .ok (.bipush 16, 2) := by decide +kernel
theorem dX10_read_151 : decode cX10_read 151 = .ok (.if_icmp .ne 22, 3) := by decide +kernel
theorem dX10_read_154 : decode cX10_read 154 = .ok (.aload_n 0, 1) := by decide +kernel
theorem dX10_read_155 : decode cX10_read 155 = .ok (.getfield 84, 3) := by decide +kernel
theorem dX10_read_158 : decode cX10_read 158 = .ok (.ifCond .lt 15, 3) := by decide +kernel
theorem dX10_read_161 : decode cX10_read 161 = .ok (.aload_n 0, 1) := by decide +kernel
theorem dX10_read_162 : decode cX10_read 162 = .ok (.aload_n 0, 1) := by decide +kernel
theorem dX10_read_163 : decode cX10_read 163 = .ok (.getfield 84, 3) := by decide +kernel
theorem dX10_read_166 : decode cX10_read 166 = .ok (.iconst 1, 1) := by decide +kernel
theorem dX10_read_167 : decode cX10_read 167 = .ok (.invokevirtual 140, 3) := by decide +kernel
theorem dX10_read_170 : decode cX10_read 170 = .ok (.goto 4, 3) := by decide +kernel
theorem dX10_read_173 : decode cX10_read 173 = .ok (.iconst (-1), 1) := by decide +kernel
theorem dX10_read_174 : decode cX10_read 174 = .ok (.istore 4, 2) := by decide +kernel
theorem dX10_read_176 : decode cX10_read 176 = .ok (.iload 4, 2) := by decide +kernel
theorem dX10_read_178 : decode cX10_read 178 = .ok (.ifCond .lt 17, 3) := by decide +kernel
theorem dX10_read_181 : decode cX10_read 181 = .ok (.aload_n 0, 1) := by decide +kernel
theorem dX10_read_182 : decode cX10_read 182 = .ok (.iload_n 1, 1) := by decide +kernel
theorem dX10_read_183 : decode cX10_read 183 = .ok (.aload_n 0, 1) := by decide +kernel
theorem dX10_read_184 : decode cX10_read 184 = .ok (.getfield 48, 3) := by decide +kernel
theorem dX10_read_187 : decode cX10_read 187 = .ok (.iadd, 1) := by decide +kernel
theorem dX10_read_188 : decode cX10_read 188 = .ok (.bipush 8, 2) := by decide +kernel
theorem dX10_read_190 : decode cX10_read 190 = .ok (.iload 4, 2) := by decide +kernel
theorem dX10_read_192 : decode cX10_read 192 = .ok (.invokevirtual 144, 3) := by decide +kernel
theorem dX10_read_195 : decode cX10_read 195 = .ok (.return_, 1) := by decide +kernel
theorem dX10_readAll_0 : decode cX10_readAll 0 = .ok (.aload_n 0, 1) := by decide +kernel
theorem dX10_readAll_1 : decode cX10_readAll 1 = .ok (.iconst 0, 1) := by decide +kernel
theorem dX10_readAll_2 : decode cX10_readAll 2 = .ok (.ldc 124, 2) := by decide +kernel
theorem dX10_readAll_4 : decode cX10_readAll 4 = .ok (.iconst 0, 1) := by decide +kernel
theorem dX10_readAll_5 : decode cX10_readAll 5 = .ok (.iconst 0, 1) := by decide +kernel
theorem dX10_readAll_6 : decode cX10_readAll 6 = .ok (.invokevirtual 129, 3) := by decide +kernel
theorem dX10_readAll_9 : decode cX10_readAll 9 = .ok (.aload_n 0, 1) := by decide +kernel
theorem dX10_readAll_10 : decode cX10_readAll 10 = .ok (.iconst 1, 1) := by decide +kernel
theorem dX10_readAll_11 : decode cX10_readAll 11 = .ok (.ldc 124, 2) := by decide +kernel
theorem dX10_readAll_13 : decode cX10_readAll 13 = .ok (.iconst 0, 1) := by decide +kernel
theorem dX10_readAll_14 : decode cX10_readAll 14 = .ok (.iconst 0, 1) := by decide +kernel
theorem dX10_readAll_15 : decode cX10_readAll 15 = .ok (.invokevirtual 129, 3) := by decide +kernel
theorem dX10_readAll_18 : decode cX10_readAll 18 = .ok (.iconst 0, 1) := by decide +kernel
theorem dX10_readAll_19 : decode cX10_readAll 19 = .ok (.istore_n 1, 1) := by decide +kernel
theorem dX10_readAll_20 : decode cX10_readAll 20 = .ok (.iload_n 1, 1) := by decide +kernel
theorem dX10_readAll_21 : decode cX10_readAll 21 = .ok (.aload_n 0, 1) := by decide +kernel
theorem dX10_readAll_22 : decode cX10_readAll 22 = .ok (.getfield 121, 3) := by decide +kernel
theorem dX10_readAll_25 : decode cX10_readAll 25 = .ok (.if_icmp .ge 16, 3) := by decide +kernel
theorem dX10_readAll_28 : decode cX10_readAll 28 = .ok (.aload_n 0, 1) := by decide +kernel
theorem dX10_readAll_29 : decode cX10_readAll 29 = .ok (.getfield 78, 3) := by decide +kernel
theorem dX10_readAll_32 : decode cX10_readAll 32 = .ok (.iload_n 1, 1) := by decide +kernel
theorem dX10_readAll_33 : decode cX10_readAll 33 = .ok (.iconst 0, 1) := by decide +kernel
theorem dX10_readAll_34 : decode cX10_readAll 34 = .ok (.iastore, 1) := by decide +kernel
theorem dX10_readAll_35 : decode cX10_readAll 35 = .ok (.iinc 1 1, 3) := by decide +kernel
theorem dX10_readAll_38 : decode cX10_readAll 38 = .ok (.goto (-18), 3) := by decide +kernel
theorem dX10_readAll_41 : decode cX10_readAll 41 = .ok (.iconst 1, 1) := by decide +kernel
theorem dX10_readAll_42 : decode cX10_readAll 42 = .ok (.istore_n 1, 1) := by decide +kernel
theorem dX10_readAll_43 : decode cX10_readAll 43 = .ok (.iload_n 1, 1) := by decide +kernel
theorem dX10_readAll_44 : decode cX10_readAll 44 = .ok (.ifCond .eq 191, 3) := by decide +kernel
theorem dX10_readAll_47 : decode cX10_readAll 47 = .ok (.iconst 0, 1) := by decide +kernel
theorem dX10_readAll_48 : decode cX10_readAll 48 = .ok (.istore_n 2, 1) := by decide +kernel
theorem dX10_readAll_49 : decode cX10_readAll 49 = .ok (.aload_n 0, 1) := by decide +kernel
theorem dX10_readAll_50 : decode cX10_readAll 50 = .ok (.iconst 0, 1) := by decide +kernel
theorem dX10_readAll_51 : decode cX10_readAll 51 = .ok (.putfield 133, 3) := by decide +kernel
theorem dX10_readAll_54 : decode cX10_readAll 54 = .ok (.iconst 0, 1) := by decide +kernel
theorem dX10_readAll_55 : decode cX10_readAll 55 = .ok (.istore_n 3, 1) := by decide +kernel
theorem dX10_readAll_56 : decode cX10_readAll 56 = .ok (.iload_n 3, 1) := by decide +kernel
theorem dX10_readAll_57 : decode cX10_readAll 57 = .ok (.aload_n 0, 1) := by decide +kernel
theorem dX10_readAll_58 : decode cX10_readAll 58 = .ok (.getfield 121, 3) := by decide +kernel
theorem dX10_readAll_61 : decode cX10_readAll 61 = .ok (.if_icmp .ge 103, 3) := by decide +kernel
theorem dX10_readAll_64 : decode cX10_readAll 64 = .ok (.aload_n 0, 1) := by decide +kernel
theorem dX10_readAll_65 : decode cX10_readAll 65 = .ok (.getfield 78, 3) := by decide +kernel
theorem dX10_readAll_68 : decode cX10_readAll 68 = .ok (.iload_n 3, 1) := by decide +kernel
theorem dX10_readAll_69 : decode cX10_readAll 69 = .ok (.iaload, 1) := by decide +kernel
theorem dX10_readAll_70 : decode cX10_readAll 70 = .ok (.aload_n 0, 1) := by decide +kernel
theorem dX10_readAll_71 : decode cX10_readAll 71 = .ok (.getfield 57, 3) := by decide +kernel
theorem dX10_readAll_74 : decode cX10_readAll 74 = .ok (.iload_n 3, 1) := by decide +kernel
theorem dX10_readAll_75 : decode cX10_readAll 75 = .ok (.iaload, 1) := by decide +kernel
theorem dX10_readAll_76 : decode cX10_readAll 76 = .ok (.if_icmp .ne 7, 3) := by decide +kernel
theorem dX10_readAll_79 : decode cX10_readAll 79 = .ok (.iconst 1, 1) := by decide +kernel
theorem dX10_readAll_80 : decode cX10_readAll 80 = .ok (.goto 4, 3) := by decide +kernel
theorem dX10_readAll_83 : decode cX10_readAll 83 = .ok (.iconst 0, 1) := by decide +kernel
theorem dX10_readAll_84 : decode cX10_readAll 84 = .ok (.istore 4, 2) := by decide +kernel
theorem dX10_readAll_86 : decode cX10_readAll 86 = .ok (.iload_n 2, 1) := by decide +kernel
theorem dX10_readAll_87 : decode cX10_readAll 87 = .ok (.iload 4, 2) := by decide +kernel
theorem dX10_readAll_89 : decode cX10_readAll 89 = .ok (.ifCond .eq 10, 3) := by decide +kernel
theorem dX10_readAll_92 : decode cX10_readAll 92 = .ok (.aload_n 0, 1) := by decide +kernel
theorem dX10_readAll_93 : decode cX10_readAll 93 = .ok (.getfield 44, 3) := by decide +kernel
theorem dX10_readAll_96 : decode cX10_readAll 96 = .ok (.goto 18, 3) := by decide +kernel
theorem dX10_readAll_99 : decode cX10_readAll 99 = .ok (.aload_n 0, 1) := by decide +kernel
theorem dX10_readAll_100 : decode cX10_readAll 100 = .ok (.getfield 63, 3) := by decide +kernel
theorem dX10_readAll_103 : decode cX10_readAll 103 = .ok (.iconst 4, 1) := by decide +kernel
theorem dX10_readAll_104 : decode cX10_readAll 104 = .ok (.iload_n 3, 1) := by decide +kernel
theorem dX10_readAll_105 : decode cX10_readAll 105 = .ok (.imul, 1) := by decide +kernel
theorem dX10_readAll_106 : decode cX10_readAll 106 = .ok (.aload_n 0, 1) := by decide +kernel
theorem dX10_readAll_107 : decode cX10_readAll 107 = .ok (.getfield 78, 3) := by decide +kernel
theorem dX10_readAll_110 : decode cX10_readAll 110 = .ok (.iload_n 3, 1) := by decide +kernel
theorem dX10_readAll_111 : decode cX10_readAll 111 = .ok (.iaload, 1) := by decide +kernel
theorem dX10_readAll_112 : decode cX10_readAll 112 = .ok (.iadd, 1) := by decide +kernel
theorem dX10_readAll_113 : decode cX10_readAll 113 = .ok (.iaload, 1) := by decide +kernel
theorem dX10_readAll_114 : decode cX10_readAll 114 = .ok (.iadd, 1) := by decide +kernel
theorem dX10_readAll_115 : decode cX10_readAll 115 = .ok (.istore_n 2, 1) := by decide +kernel
theorem dX10_readAll_116 : decode cX10_readAll 116 = .ok (.iload 4, 2) := by decide +kernel
theorem dX10_readAll_118 : decode cX10_readAll 118 = .ok (.ifCond .eq 6, 3) := by decide +kernel
theorem dX10_readAll_121 : decode cX10_readAll 121 = .ok (.goto 37, 3) := by decide +kernel
theorem dX10_readAll_124 : decode cX10_readAll 124 = .ok (.aload_n 0, 1) := by decide +kernel
theorem dX10_readAll_125 : decode cX10_readAll 125 = .ok (.getfield 75, 3) := by decide +kernel
theorem dX10_readAll_128 : decode cX10_readAll 128 = .ok (.aload_n 0, 1) := by decide +kernel
theorem dX10_readAll_129 : decode cX10_readAll 129 = .ok (.getfield 133, 3) := by decide +kernel
theorem dX10_readAll_132 : decode cX10_readAll 132 = .ok (.aload_n 0, 1) := by decide +kernel
theorem dX10_readAll_133 : decode cX10_readAll 133 = .ok (.getfield 60, 3) := by decide +kernel
theorem dX10_readAll_136 : decode cX10_readAll 136 = .ok (.iconst 4, 1) := by decide +kernel
theorem dX10_readAll_137 : decode cX10_readAll 137 = .ok (.iload_n 3, 1) := by decide +kernel
theorem dX10_readAll_138 : decode cX10_readAll 138 = .ok (.imul, 1) := by decide +kernel
theorem dX10_readAll_139 : decode cX10_readAll 139 = .ok (.aload_n 0, 1) := by decide +kernel
theorem dX10_readAll_140 : decode cX10_readAll 140 = .ok (.getfield 78, 3) := by decide +kernel
theorem dX10_readAll_143 : decode cX10_readAll 143 = .ok (.iload_n 3, 1) := by decide +kernel
theorem dX10_readAll_144 : decode cX10_readAll 144 = .ok (.iaload, 1) := by decide +kernel
theorem dX10_readAll_145 : decode cX10_readAll 145 = .ok (.iadd, 1) := by decide +kernel
theorem dX10_readAll_146 : decode cX10_readAll 146 = .ok (.iaload, 1) := by decide +kernel
theorem dX10_readAll_147 : decode cX10_readAll 147 = .ok (.iastore, 1) := by decide +kernel
theorem dX10_readAll_148 : decode cX10_readAll 148 = .ok (.aload_n 0, 1) := by decide +kernel
theorem dX10_readAll_149 : decode cX10_readAll 149 = .ok (.dup, 1) := by decide +kernel
theorem dX10_readAll_150 : decode cX10_readAll 150 = .ok (.getfield 133, 3) := by decide +kernel
theorem dX10_readAll_153 : decode cX10_readAll 153 = .ok (.iconst 1, 1) := by decide +kernel
theorem dX10_readAll_154 : decode cX10_readAll 154 = .ok (.iadd, 1) := by decide +kernel
theorem dX10_readAll_155 : decode cX10_readAll 155 = .ok (.putfield 133, 3) := by decide +kernel
theorem dX10_readAll_158 : decode cX10_readAll 158 = .ok (.iinc 3 1, 3) := by decide +kernel
theorem dX10_readAll_161 : decode cX10_readAll 161 = .ok (.goto (-105), 3) := by decide +kernel
theorem dX10_readAll_164 : decode cX10_readAll 164 = .ok (.aload_n 0, 1) := by decide +kernel
theorem dX10_readAll_165 : decode cX10_readAll 165 = .ok (.iload_n 2, 1) := by decide +kernel
theorem dX10_readAll_166 : decode cX10_readAll 166 = .ok (.invokevirtual 152, 3) := by decide +kernel
theorem dX10_readAll_169 : decode cX10_readAll 169 = .ok (.aload_n 0, 1) := by decide +kernel
theorem dX10_readAll_170 : decode cX10_readAll 170 = .ok (.getfield 121, 3) := by decide +kernel
theorem dX10_readAll_173 : decode cX10_readAll 173 = .ok (.iconst 1, 1) := by decide +kernel
theorem dX10_readAll_174 : decode cX10_readAll 174 = .ok (.isub, 1) := by decide +kernel
theorem dX10_readAll_175 : decode cX10_readAll 175 = .ok (.istore_n 3, 1) := by decide +kernel
theorem dX10_readAll_176 : decode cX10_readAll 176 = .ok (.iload_n 3, 1) := by decide +kernel
theorem dX10_readAll_177 : decode cX10_readAll 177 = .ok (.ifCond .lt 31, 3) := by decide +kernel
theorem dX10_readAll_180 : decode cX10_readAll 180 = .ok (.aload_n 0, 1) := by decide +kernel
theorem dX10_readAll_181 : decode cX10_readAll 181 = .ok (.getfield 78, 3) := by decide +kernel
theorem dX10_readAll_184 : decode cX10_readAll 184 = .ok (.iload_n 3, 1) := by decide +kernel
theorem dX10_readAll_185 : decode cX10_readAll 185 = .ok (.iaload, 1) := by decide +kernel
theorem dX10_readAll_186 : decode cX10_readAll 186 = .ok (.aload_n 0, 1) := by decide +kernel
theorem dX10_readAll_187 : decode cX10_readAll 187 = .ok (.getfield 57, 3) := by decide +kernel
theorem dX10_readAll_190 : decode cX10_readAll 190 = .ok (.iload_n 3, 1) := by decide +kernel
theorem dX10_readAll_191 : decode cX10_readAll 191 = .ok (.iaload, 1) := by decide +kernel
theorem dX10_readAll_192 : decode cX10_readAll 192 = .ok (.if_icmp .ne 16, 3) := by decide +kernel
theorem dX10_readAll_195 : decode cX10_readAll 195 = .ok (.aload_n 0, 1) := by decide +kernel
theorem dX10_readAll_196 : decode cX10_readAll 196 = .ok (.getfield 78, 3) := by decide +kernel
theorem dX10_readAll_199 : decode cX10_readAll 199 = .ok (.iload_n 3, 1) := by decide +kernel
theorem dX10_readAll_200 : decode cX10_readAll 200 = .ok (.iconst 0, 1) := by decide +kernel
theorem dX10_readAll_201 : decode cX10_readAll 201 = .ok (.iastore, 1) := by decide +kernel
theorem dX10_readAll_202 : decode cX10_readAll 202 = .ok (.iinc 3 (-1), 3) := by decide +kernel
theorem dX10_readAll_205 : decode cX10_readAll 205 = .ok (.goto (-29), 3) := by decide +kernel
theorem dX10_readAll_208 : decode cX10_readAll 208 = .ok (.iload_n 3, 1) := by decide +kernel
theorem dX10_readAll_209 : decode cX10_readAll 209 = .ok (.ifCond .lt 7, 3) := by decide +kernel
theorem dX10_readAll_212 : decode cX10_readAll 212 = .ok (.iconst 1, 1) := by decide +kernel
theorem dX10_readAll_213 : decode cX10_readAll 213 = .ok (.goto 4, 3) := by decide +kernel
theorem dX10_readAll_216 : decode cX10_readAll 216 = .ok (.iconst 0, 1) := by decide +kernel
theorem dX10_readAll_217 : decode cX10_readAll 217 = .ok (.istore_n 1, 1) := by decide +kernel
theorem dX10_readAll_218 : decode cX10_readAll 218 = .ok (.iload_n 1, 1) := by decide +kernel
theorem dX10_readAll_219 : decode cX10_readAll 219 = .ok (.ifCond .eq 13, 3) := by decide +kernel
theorem dX10_readAll_222 : decode cX10_readAll 222 = .ok (.aload_n 0, 1) := by decide +kernel
theorem dX10_readAll_223 : decode cX10_readAll 223 = .ok (.getfield 78, 3) := by decide +kernel
theorem dX10_readAll_226 : decode cX10_readAll 226 = .ok (.iload_n 3, 1) := by decide +kernel
theorem dX10_readAll_227 : decode cX10_readAll 227 = .ok (.dup2, 1) := by decide +kernel
theorem dX10_readAll_228 : decode cX10_readAll 228 = .ok (.iaload, 1) := by decide +kernel
theorem dX10_readAll_229 : decode cX10_readAll 229 = .ok (.iconst 1, 1) := by decide +kernel
theorem dX10_readAll_230 : decode cX10_readAll 230 = .ok (.iadd, 1) := by decide +kernel
theorem dX10_readAll_231 : decode cX10_readAll 231 = .ok (.iastore, 1) := by decide +kernel
theorem dX10_readAll_232 : decode cX10_readAll 232 = .ok (.goto (-189), 3) := by decide +kernel
theorem dX10_readAll_235 : decode cX10_readAll 235 = .ok (.return_, 1) := by decide +kernel
theorem dX10_comesNow_0 : decode cX10_comesNow 0 = .ok (.iload_n 1, 1) := by decide +kernel
theorem dX10_comesNow_1 : decode cX10_comesNow 1 = .ok (.aload_n 0, 1) := by decide +kernel
theorem dX10_comesNow_2 : decode cX10_comesNow 2 = .ok (.getfield 81, 3) := by decide +kernel
theorem dX10_comesNow_5 : decode cX10_comesNow 5 = .ok (.if_icmp .ne 4, 3) := by decide +kernel
theorem dX10_comesNow_8 : decode cX10_comesNow 8 = .ok (.return_, 1) := by decide +kernel
theorem dX10_comesNow_9 : decode cX10_comesNow 9 = .ok (.aload_n 0, 1) := by decide +kernel
theorem dX10_comesNow_10 : decode cX10_comesNow 10 = .ok (.getfield 81, 3) := by decide +kernel
theorem dX10_comesNow_13 : decode cX10_comesNow 13 = .ok (.ifCond .lt 73, 3) := by decide +kernel
theorem dX10_comesNow_16 : decode cX10_comesNow 16 = .ok (.aload_n 0, 1) := by decide +kernel
theorem dX10_comesNow_17 : decode cX10_comesNow 17 = .ok (.getfield 156, 3) := by decide +kernel
theorem dX10_comesNow_20 : decode cX10_comesNow 20 = .ok (.bipush 20, 2) := by decide +kernel
theorem dX10_comesNow_22 : decode cX10_comesNow 22 = .ok (.if_icmp .ne 41, 3) := by decide +kernel
theorem dX10_comesNow_25 : decode cX10_comesNow 25 = .ok (.iconst 1, 1) := by decide +kernel
theorem dX10_comesNow_26 : decode cX10_comesNow 26 = .ok (.istore_n 2, 1) := by decide +kernel
theorem dX10_comesNow_27 : decode cX10_comesNow 27 = .ok (.iload_n 2, 1) := by decide +kernel
theorem dX10_comesNow_28 : decode cX10_comesNow 28 = .ok (.bipush 20, 2) := by decide +kernel
theorem dX10_comesNow_30 : decode cX10_comesNow 30 = .ok (.if_icmp .ge 23, 3) := by decide +kernel
theorem dX10_comesNow_33 : decode cX10_comesNow 33 = .ok (.aload_n 0, 1) := by decide +kernel
theorem dX10_comesNow_34 : decode cX10_comesNow 34 = .ok (.getfield 87, 3) := by decide +kernel
theorem dX10_comesNow_37 : decode cX10_comesNow 37 = .ok (.iload_n 2, 1) := by decide +kernel
theorem dX10_comesNow_38 : decode cX10_comesNow 38 = .ok (.iconst 1, 1) := by decide +kernel
theorem dX10_comesNow_39 : decode cX10_comesNow 39 = .ok (.isub, 1) := by decide +kernel
theorem dX10_comesNow_40 : decode cX10_comesNow 40 = .ok (.aload_n 0, 1) := by decide +kernel
theorem dX10_comesNow_41 : decode cX10_comesNow 41 = .ok (.getfield 87, 3) := by decide +kernel
theorem dX10_comesNow_44 : decode cX10_comesNow 44 = .ok (.iload_n 2, 1) := by decide +kernel
theorem dX10_comesNow_45 : decode cX10_comesNow 45 = .ok (.iaload, 1) := by decide +kernel
theorem dX10_comesNow_46 : decode cX10_comesNow 46 = .ok (.iastore, 1) := by decide +kernel
theorem dX10_comesNow_47 : decode cX10_comesNow 47 = .ok (.iinc 2 1, 3) := by decide +kernel
theorem dX10_comesNow_50 : decode cX10_comesNow 50 = .ok (.goto (-23), 3) := by decide +kernel
theorem dX10_comesNow_53 : decode cX10_comesNow 53 = .ok (.aload_n 0, 1) := by decide +kernel
theorem dX10_comesNow_54 : decode cX10_comesNow 54 = .ok (.dup, 1) := by decide +kernel
theorem dX10_comesNow_55 : decode cX10_comesNow 55 = .ok (.getfield 156, 3) := by decide +kernel
theorem dX10_comesNow_58 : decode cX10_comesNow 58 = .ok (.iconst 1, 1) := by decide +kernel
theorem dX10_comesNow_59 : decode cX10_comesNow 59 = .ok (.isub, 1) := by decide +kernel
theorem dX10_comesNow_60 : decode cX10_comesNow 60 = .ok (.putfield 156, 3) := by decide +kernel
theorem dX10_comesNow_63 : decode cX10_comesNow 63 = .ok (.aload_n 0, 1) := by decide +kernel
theorem dX10_comesNow_64 : decode cX10_comesNow 64 = .ok (.getfield 87, 3) := by decide +kernel
theorem dX10_comesNow_67 : decode cX10_comesNow 67 = .ok (.aload_n 0, 1) := by decide +kernel
theorem dX10_comesNow_68 : decode cX10_comesNow 68 = .ok (.getfield 156, 3) := by decide +kernel
theorem dX10_comesNow_71 : decode cX10_comesNow 71 = .ok (.aload_n 0, 1) := by decide +kernel
theorem dX10_comesNow_72 : decode cX10_comesNow 72 = .ok (.getfield 81, 3) := by decide +kernel
theorem dX10_comesNow_75 : decode cX10_comesNow 75 = .ok (.iastore, 1) := by decide +kernel
theorem dX10_comesNow_76 : decode cX10_comesNow 76 = .ok (.aload_n 0, 1) := by decide +kernel
theorem dX10_comesNow_77 : decode cX10_comesNow 77 = .ok (.dup, 1) := by decide +kernel
theorem dX10_comesNow_78 : decode cX10_comesNow 78 = .ok (.getfield 156, 3) := by decide +kernel
theorem dX10_comesNow_81 : decode cX10_comesNow 81 = .ok (.iconst 1, 1) := by decide +kernel
theorem dX10_comesNow_82 : decode cX10_comesNow 82 = .ok (.iadd, 1) := by decide +kernel
theorem dX10_comesNow_83 : decode cX10_comesNow 83 = .ok (.putfield 156, 3) := by decide +kernel
theorem dX10_comesNow_86 : decode cX10_comesNow 86 = .ok (.aload_n 0, 1) := by decide +kernel
theorem dX10_comesNow_87 : decode cX10_comesNow 87 = .ok (.iload_n 1, 1) := by decide +kernel
theorem dX10_comesNow_88 : decode cX10_comesNow 88 = .ok (.putfield 81, 3) := by decide +kernel
theorem dX10_comesNow_91 : decode cX10_comesNow 91 = .ok (.return_, 1) := by decide +kernel
theorem dX10_isOpen_0 : decode cX10_isOpen 0 = .ok (.aload_n 0, 1) := by decide +kernel
theorem dX10_isOpen_1 : decode cX10_isOpen 1 = .ok (.iload_n 1, 1) := by decide +kernel
theorem dX10_isOpen_2 : decode cX10_isOpen 2 = .ok (.invokevirtual 159, 3) := by decide +kernel
theorem dX10_isOpen_5 : decode cX10_isOpen 5 = .ok (.ifCond .eq 25, 3) := by decide +kernel
theorem dX10_isOpen_8 : decode cX10_isOpen 8 = .ok (.aload_n 0, 1) := by decide +kernel
theorem dX10_isOpen_9 : decode cX10_isOpen 9 = .ok (.getfield 35, 3) := by decide +kernel
theorem dX10_isOpen_12 : decode cX10_isOpen 12 = .ok (.iload_n 1, 1) := by decide +kernel
theorem dX10_isOpen_13 : decode cX10_isOpen 13 = .ok (.iaload, 1) := by decide +kernel
theorem dX10_isOpen_14 : decode cX10_isOpen 14 = .ok (.ifCond .ge 16, 3) := by decide +kernel
theorem dX10_isOpen_17 : decode cX10_isOpen 17 = .ok (.aload_n 0, 1) := by decide +kernel
theorem dX10_isOpen_18 : decode cX10_isOpen 18 = .ok (.getfield 41, 3) := by decide +kernel
theorem dX10_isOpen_21 : decode cX10_isOpen 21 = .ok (.iload_n 1, 1) := by decide +kernel
theorem dX10_isOpen_22 : decode cX10_isOpen 22 = .ok (.baload, 1) := by decide +kernel
theorem dX10_isOpen_23 : decode cX10_isOpen 23 = .ok (.ifCond .ne 7, 3) := by decide +kernel
theorem dX10_isOpen_26 : decode cX10_isOpen 26 = .ok (.iconst 1, 1) := by decide +kernel
theorem dX10_isOpen_27 : decode cX10_isOpen 27 = .ok (.goto 4, 3) := by decide +kernel
theorem dX10_isOpen_30 : decode cX10_isOpen 30 = .ok (.iconst 0, 1) := by decide +kernel
theorem dX10_isOpen_31 : decode cX10_isOpen 31 = .ok (.ireturn, 1) := by decide +kernel
theorem dX10_nextBehind_0 : decode cX10_nextBehind 0 = .ok (.iload_n 1, 1) := by decide +kernel
theorem dX10_nextBehind_1 : decode cX10_nextBehind 1 = .ok (.iconst 1, 1) := by decide +kernel
theorem dX10_nextBehind_2 : decode cX10_nextBehind 2 = .ok (.iadd, 1) := by decide +kernel
theorem dX10_nextBehind_3 : decode cX10_nextBehind 3 = .ok (.istore_n 2, 1) := by decide +kernel
theorem dX10_nextBehind_4 : decode cX10_nextBehind 4 = .ok (.iload_n 2, 1) := by decide +kernel
theorem dX10_nextBehind_5 : decode cX10_nextBehind 5 = .ok (.aload_n 0, 1) := by decide +kernel
theorem dX10_nextBehind_6 : decode cX10_nextBehind 6 = .ok (.getfield 99, 3) := by decide +kernel
theorem dX10_nextBehind_9 : decode cX10_nextBehind 9 = .ok (.if_icmp .ge 19, 3) := by decide +kernel
theorem dX10_nextBehind_12 : decode cX10_nextBehind 12 = .ok (.aload_n 0, 1) := by decide +kernel
theorem dX10_nextBehind_13 : decode cX10_nextBehind 13 = .ok (.iload_n 2, 1) := by decide +kernel
theorem dX10_nextBehind_14 : decode cX10_nextBehind 14 = .ok (.invokevirtual 162, 3) := by decide +kernel
theorem dX10_nextBehind_17 : decode cX10_nextBehind 17 = .ok (.ifCond .eq 5, 3) := by decide +kernel
theorem dX10_nextBehind_20 : decode cX10_nextBehind 20 = .ok (.iload_n 2, 1) := by decide +kernel
theorem dX10_nextBehind_21 : decode cX10_nextBehind 21 = .ok (.ireturn, 1) := by decide +kernel
theorem dX10_nextBehind_22 : decode cX10_nextBehind 22 = .ok (.iinc 2 1, 3) := by decide +kernel
theorem dX10_nextBehind_25 : decode cX10_nextBehind 25 = .ok (.goto (-21), 3) := by decide +kernel
theorem dX10_nextBehind_28 : decode cX10_nextBehind 28 = .ok (.iconst 0, 1) := by decide +kernel
theorem dX10_nextBehind_29 : decode cX10_nextBehind 29 = .ok (.istore_n 2, 1) := by decide +kernel
theorem dX10_nextBehind_30 : decode cX10_nextBehind 30 = .ok (.iload_n 2, 1) := by decide +kernel
theorem dX10_nextBehind_31 : decode cX10_nextBehind 31 = .ok (.aload_n 0, 1) := by decide +kernel
theorem dX10_nextBehind_32 : decode cX10_nextBehind 32 = .ok (.getfield 99, 3) := by decide +kernel
theorem dX10_nextBehind_35 : decode cX10_nextBehind 35 = .ok (.if_icmp .ge 19, 3) := by decide +kernel
theorem dX10_nextBehind_38 : decode cX10_nextBehind 38 = .ok (.aload_n 0, 1) := by decide +kernel
theorem dX10_nextBehind_39 : decode cX10_nextBehind 39 = .ok (.iload_n 2, 1) := by decide +kernel
theorem dX10_nextBehind_40 : decode cX10_nextBehind 40 = .ok (.invokevirtual 162, 3) := by decide +kernel
theorem dX10_nextBehind_43 : decode cX10_nextBehind 43 = .ok (.ifCond .eq 5, 3) := by decide +kernel
theorem dX10_nextBehind_46 : decode cX10_nextBehind 46 = .ok (.iload_n 2, 1) := by decide +kernel
theorem dX10_nextBehind_47 : decode cX10_nextBehind 47 = .ok (.ireturn, 1) := by decide +kernel
theorem dX10_nextBehind_48 : decode cX10_nextBehind 48 = .ok (.iinc 2 1, 3) := by decide +kernel
theorem dX10_nextBehind_51 : decode cX10_nextBehind 51 = .ok (.goto (-21), 3) := by decide +kernel
theorem dX10_nextBehind_54 : decode cX10_nextBehind 54 = .ok (.iconst (-1), 1) := by decide +kernel
theorem dX10_nextBehind_55 : decode cX10_nextBehind 55 = .ok (.ireturn, 1) := by decide +kernel
theorem dX10_keep_0 : decode cX10_keep 0 = .ok (.aload_n 0, 1) := by decide +kernel
theorem dX10_keep_1 : decode cX10_keep 1 = .ok (.getfield 35, 3) := by decide +kernel
theorem dX10_keep_4 : decode cX10_keep 4 = .ok (.iload_n 1, 1) := by decide +kernel
theorem dX10_keep_5 : decode cX10_keep 5 = .ok (.iload_n 2, 1) := by decide +kernel
theorem dX10_keep_6 : decode cX10_keep 6 = .ok (.iastore, 1) := by decide +kernel
theorem dX10_keep_7 : decode cX10_keep 7 = .ok (.aload_n 0, 1) := by decide +kernel
theorem dX10_keep_8 : decode cX10_keep 8 = .ok (.getfield 38, 3) := by decide +kernel
theorem dX10_keep_11 : decode cX10_keep 11 = .ok (.iload_n 1, 1) := by decide +kernel
theorem dX10_keep_12 : decode cX10_keep 12 = .ok (.iload_n 3, 1) := by decide +kernel
theorem dX10_keep_13 : decode cX10_keep 13 = .ok (.bastore, 1) := by decide +kernel
theorem dX10_keep_14 : decode cX10_keep 14 = .ok (.aload_n 0, 1) := by decide +kernel
theorem dX10_keep_15 : decode cX10_keep 15 = .ok (.iload_n 1, 1) := by decide +kernel
theorem dX10_keep_16 : decode cX10_keep 16 = .ok (.putfield 84, 3) := by decide +kernel
theorem dX10_keep_19 : decode cX10_keep 19 = .ok (.aload_n 0, 1) := by decide +kernel
theorem dX10_keep_20 : decode cX10_keep 20 = .ok (.iconst 0, 1) := by decide +kernel
theorem dX10_keep_21 : decode cX10_keep 21 = .ok (.putfield 165, 3) := by decide +kernel
theorem dX10_keep_24 : decode cX10_keep 24 = .ok (.iconst 0, 1) := by decide +kernel
theorem dX10_keep_25 : decode cX10_keep 25 = .ok (.istore 4, 2) := by decide +kernel
theorem dX10_keep_27 : decode cX10_keep 27 = .ok (.iload 4, 2) := by decide +kernel
theorem dX10_keep_29 : decode cX10_keep 29 = .ok (.aload_n 0, 1) := by decide +kernel
theorem dX10_keep_30 : decode cX10_keep 30 = .ok (.getfield 99, 3) := by decide +kernel
theorem dX10_keep_33 : decode cX10_keep 33 = .ok (.if_icmp .ge 71, 3) := by decide +kernel
theorem dX10_keep_36 : decode cX10_keep 36 = .ok (.aload_n 0, 1) := by decide +kernel
theorem dX10_keep_37 : decode cX10_keep 37 = .ok (.getfield 35, 3) := by decide +kernel
theorem dX10_keep_40 : decode cX10_keep 40 = .ok (.iload 4, 2) := by decide +kernel
theorem dX10_keep_42 : decode cX10_keep 42 = .ok (.iaload, 1) := by decide +kernel
theorem dX10_keep_43 : decode cX10_keep 43 = .ok (.ifCond .lt 55, 3) := by decide +kernel
theorem dX10_keep_46 : decode cX10_keep 46 = .ok (.aload_n 0, 1) := by decide +kernel
theorem dX10_keep_47 : decode cX10_keep 47 = .ok (.iload 4, 2) := by decide +kernel
theorem dX10_keep_49 : decode cX10_keep 49 = .ok (.invokevirtual 159, 3) := by decide +kernel
theorem dX10_keep_52 : decode cX10_keep 52 = .ok (.ifCond .eq 6, 3) := by decide +kernel
theorem dX10_keep_55 : decode cX10_keep 55 = .ok (.goto 43, 3) := by decide +kernel
theorem dX10_keep_58 : decode cX10_keep 58 = .ok (.aload_n 0, 1) := by decide +kernel
theorem dX10_keep_59 : decode cX10_keep 59 = .ok (.getfield 35, 3) := by decide +kernel
theorem dX10_keep_62 : decode cX10_keep 62 = .ok (.iload 4, 2) := by decide +kernel
theorem dX10_keep_64 : decode cX10_keep 64 = .ok (.iconst (-1), 1) := by decide +kernel
theorem dX10_keep_65 : decode cX10_keep 65 = .ok (.iastore, 1) := by decide +kernel
theorem dX10_keep_66 : decode cX10_keep 66 = .ok (.aload_n 0, 1) := by decide +kernel
theorem dX10_keep_67 : decode cX10_keep 67 = .ok (.getfield 38, 3) := by decide +kernel
theorem dX10_keep_70 : decode cX10_keep 70 = .ok (.iload 4, 2) := by decide +kernel
theorem dX10_keep_72 : decode cX10_keep 72 = .ok (.iconst 0, 1) := by decide +kernel
theorem dX10_keep_73 : decode cX10_keep 73 = .ok (.bastore, 1) := by decide +kernel
theorem dX10_keep_74 : decode cX10_keep 74 = .ok (.aload_n 0, 1) := by decide +kernel
theorem dX10_keep_75 : decode cX10_keep 75 = .ok (.dup, 1) := by decide +kernel
theorem dX10_keep_76 : decode cX10_keep 76 = .ok (.getfield 168, 3) := by decide +kernel
theorem dX10_keep_79 : decode cX10_keep 79 = .ok (.iconst 1, 1) := by decide +kernel
theorem dX10_keep_80 : decode cX10_keep 80 = .ok (.iadd, 1) := by decide +kernel
theorem dX10_keep_81 : decode cX10_keep 81 = .ok (.putfield 168, 3) := by decide +kernel
theorem dX10_keep_84 : decode cX10_keep 84 = .ok (.aload_n 0, 1) := by decide +kernel
theorem dX10_keep_85 : decode cX10_keep 85 = .ok (.getfield 84, 3) := by decide +kernel
theorem dX10_keep_88 : decode cX10_keep 88 = .ok (.iload 4, 2) := by decide +kernel
theorem dX10_keep_90 : decode cX10_keep 90 = .ok (.if_icmp .ne 8, 3) := by decide +kernel
theorem dX10_keep_93 : decode cX10_keep 93 = .ok (.aload_n 0, 1) := by decide +kernel
theorem dX10_keep_94 : decode cX10_keep 94 = .ok (.iconst (-1), 1) := by decide +kernel
theorem dX10_keep_95 : decode cX10_keep 95 = .ok (.putfield 84, 3) := by decide +kernel
theorem dX10_keep_98 : decode cX10_keep 98 = .ok (.iinc 4 1, 3) := by decide +kernel
theorem dX10_keep_101 : decode cX10_keep 101 = .ok (.goto (-74), 3) := by decide +kernel
theorem dX10_keep_104 : decode cX10_keep 104 = .ok (.aload_n 0, 1) := by decide +kernel
theorem dX10_keep_105 : decode cX10_keep 105 = .ok (.getfield 81, 3) := by decide +kernel
theorem dX10_keep_108 : decode cX10_keep 108 = .ok (.ifCond .lt 34, 3) := by decide +kernel
theorem dX10_keep_111 : decode cX10_keep 111 = .ok (.iload_n 1, 1) := by decide +kernel
theorem dX10_keep_112 : decode cX10_keep 112 = .ok (.aload_n 0, 1) := by decide +kernel
theorem dX10_keep_113 : decode cX10_keep 113 = .ok (.getfield 81, 3) := by decide +kernel
theorem dX10_keep_116 : decode cX10_keep 116 = .ok (.if_icmp .eq 14, 3) := by decide +kernel
theorem dX10_keep_119 : decode cX10_keep 119 = .ok (.aload_n 0, 1) := by decide +kernel
theorem dX10_keep_120 : decode cX10_keep 120 = .ok (.aload_n 0, 1) := by decide +kernel
theorem dX10_keep_121 : decode cX10_keep 121 = .ok (.getfield 81, 3) := by decide +kernel
theorem dX10_keep_124 : decode cX10_keep 124 = .ok (.invokevirtual 159, 3) := by decide +kernel
theorem dX10_keep_127 : decode cX10_keep 127 = .ok (.ifCond .ne 15, 3) := by decide +kernel
theorem dX10_keep_130 : decode cX10_keep 130 = .ok (.aload_n 0, 1) := by decide +kernel
theorem dX10_keep_131 : decode cX10_keep 131 = .ok (.aload_n 0, 1) := by decide +kernel
theorem dX10_keep_132 : decode cX10_keep 132 = .ok (.aload_n 0, 1) := by decide +kernel
theorem dX10_keep_133 : decode cX10_keep 133 = .ok (.getfield 81, 3) := by decide +kernel
theorem dX10_keep_136 : decode cX10_keep 136 = .ok (.invokevirtual 171, 3) := by decide +kernel
theorem dX10_keep_139 : decode cX10_keep 139 = .ok (.invokevirtual 174, 3) := by decide +kernel
theorem dX10_keep_142 : decode cX10_keep 142 = .ok (.iconst 4, 1) := by decide +kernel
theorem dX10_keep_143 : decode cX10_keep 143 = .ok (.ireturn, 1) := by decide +kernel
theorem dX10_answered_0 : decode cX10_answered 0 = .ok (.aload_n 0, 1) := by decide +kernel
theorem dX10_answered_1 : decode cX10_answered 1 = .ok (.getfield 23, 3) := by decide +kernel
theorem dX10_answered_4 : decode cX10_answered 4 = .ok (.iload_n 1, 1) := by decide +kernel
theorem dX10_answered_5 : decode cX10_answered 5 = .ok (.baload, 1) := by decide +kernel
theorem dX10_answered_6 : decode cX10_answered 6 = .ok (.ifCond .eq 21, 3) := by decide +kernel
theorem dX10_answered_9 : decode cX10_answered 9 = .ok (.aload_n 0, 1) := by decide +kernel
theorem dX10_answered_10 : decode cX10_answered 10 = .ok (.getfield 13, 3) := by decide +kernel
theorem dX10_answered_13 : decode cX10_answered 13 = .ok (.iload_n 1, 1) := by decide +kernel
theorem dX10_answered_14 : decode cX10_answered 14 = .ok (.iaload, 1) := by decide +kernel
theorem dX10_answered_15 : decode cX10_answered 15 = .ok (.ifCond .le 20, 3) := by decide +kernel
theorem dX10_answered_18 : decode cX10_answered 18 = .ok (.aload_n 0, 1) := by decide +kernel
theorem dX10_answered_19 : decode cX10_answered 19 = .ok (.getfield 19, 3) := by decide +kernel
theorem dX10_answered_22 : decode cX10_answered 22 = .ok (.iload_n 1, 1) := by decide +kernel
theorem dX10_answered_23 : decode cX10_answered 23 = .ok (.baload, 1) := by decide +kernel
theorem dX10_answered_24 : decode cX10_answered 24 = .ok (.ifCond .eq 11, 3) := by decide +kernel
theorem dX10_answered_27 : decode cX10_answered 27 = .ok (.aload_n 0, 1) := by decide +kernel
theorem dX10_answered_28 : decode cX10_answered 28 = .ok (.iload_n 1, 1) := by decide +kernel
theorem dX10_answered_29 : decode cX10_answered 29 = .ok (.iload_n 2, 1) := by decide +kernel
theorem dX10_answered_30 : decode cX10_answered 30 = .ok (.iconst 0, 1) := by decide +kernel
theorem dX10_answered_31 : decode cX10_answered 31 = .ok (.invokevirtual 177, 3) := by decide +kernel
theorem dX10_answered_34 : decode cX10_answered 34 = .ok (.ireturn, 1) := by decide +kernel
theorem dX10_answered_35 : decode cX10_answered 35 = .ok (.aload_n 0, 1) := by decide +kernel
theorem dX10_answered_36 : decode cX10_answered 36 = .ok (.iconst 1, 1) := by decide +kernel
theorem dX10_answered_37 : decode cX10_answered 37 = .ok (.putfield 181, 3) := by decide +kernel
theorem dX10_answered_40 : decode cX10_answered 40 = .ok (.aload_n 0, 1) := by decide +kernel
theorem dX10_answered_41 : decode cX10_answered 41 = .ok (.iload_n 1, 1) := by decide +kernel
theorem dX10_answered_42 : decode cX10_answered 42 = .ok (.putfield 184, 3) := by decide +kernel
theorem dX10_answered_45 : decode cX10_answered 45 = .ok (.aload_n 0, 1) := by decide +kernel
theorem dX10_answered_46 : decode cX10_answered 46 = .ok (.iload_n 2, 1) := by decide +kernel
theorem dX10_answered_47 : decode cX10_answered 47 = .ok (.putfield 187, 3) := by decide +kernel
theorem dX10_answered_50 : decode cX10_answered 50 = .ok (.iconst 3, 1) := by decide +kernel
theorem dX10_answered_51 : decode cX10_answered 51 = .ok (.ireturn, 1) := by decide +kernel
theorem dX10_goBack_0 : decode cX10_goBack 0 = .ok (.aload_n 0, 1) := by decide +kernel
theorem dX10_goBack_1 : decode cX10_goBack 1 = .ok (.getfield 156, 3) := by decide +kernel
theorem dX10_goBack_4 : decode cX10_goBack 4 = .ok (.ifCond .le 47, 3) := by decide +kernel
theorem dX10_goBack_7 : decode cX10_goBack 7 = .ok (.aload_n 0, 1) := by decide +kernel
theorem dX10_goBack_8 : decode cX10_goBack 8 = .ok (.dup, 1) := by decide +kernel
theorem dX10_goBack_9 : decode cX10_goBack 9 = .ok (.getfield 156, 3) := by decide +kernel
theorem dX10_goBack_12 : decode cX10_goBack 12 = .ok (.iconst 1, 1) := by decide +kernel
theorem dX10_goBack_13 : decode cX10_goBack 13 = .ok (.isub, 1) := by decide +kernel
theorem dX10_goBack_14 : decode cX10_goBack 14 = .ok (.putfield 156, 3) := by decide +kernel
theorem dX10_goBack_17 : decode cX10_goBack 17 = .ok (.aload_n 0, 1) := by decide +kernel
theorem dX10_goBack_18 : decode cX10_goBack 18 = .ok (.aload_n 0, 1) := by decide +kernel
theorem dX10_goBack_19 : decode cX10_goBack 19 = .ok (.getfield 87, 3) := by decide +kernel
theorem dX10_goBack_22 : decode cX10_goBack 22 = .ok (.aload_n 0, 1) := by decide +kernel
theorem dX10_goBack_23 : decode cX10_goBack 23 = .ok (.getfield 156, 3) := by decide +kernel
theorem dX10_goBack_26 : decode cX10_goBack 26 = .ok (.iaload, 1) := by decide +kernel
theorem dX10_goBack_27 : decode cX10_goBack 27 = .ok (.invokevirtual 159, 3) := by decide +kernel
theorem dX10_goBack_30 : decode cX10_goBack 30 = .ok (.ifCond .ne 6, 3) := by decide +kernel
theorem dX10_goBack_33 : decode cX10_goBack 33 = .ok (.goto (-33), 3) := by decide +kernel
theorem dX10_goBack_36 : decode cX10_goBack 36 = .ok (.aload_n 0, 1) := by decide +kernel
theorem dX10_goBack_37 : decode cX10_goBack 37 = .ok (.aload_n 0, 1) := by decide +kernel
theorem dX10_goBack_38 : decode cX10_goBack 38 = .ok (.getfield 87, 3) := by decide +kernel
theorem dX10_goBack_41 : decode cX10_goBack 41 = .ok (.aload_n 0, 1) := by decide +kernel
theorem dX10_goBack_42 : decode cX10_goBack 42 = .ok (.getfield 156, 3) := by decide +kernel
theorem dX10_goBack_45 : decode cX10_goBack 45 = .ok (.iaload, 1) := by decide +kernel
theorem dX10_goBack_46 : decode cX10_goBack 46 = .ok (.putfield 81, 3) := by decide +kernel
theorem dX10_goBack_49 : decode cX10_goBack 49 = .ok (.iconst 5, 1) := by decide +kernel
theorem dX10_goBack_50 : decode cX10_goBack 50 = .ok (.ireturn, 1) := by decide +kernel
theorem dX10_goBack_51 : decode cX10_goBack 51 = .ok (.bipush 6, 2) := by decide +kernel
theorem dX10_goBack_53 : decode cX10_goBack 53 = .ok (.ireturn, 1) := by decide +kernel
theorem dX10_skip_0 : decode cX10_skip 0 = .ok (.aload_n 0, 1) := by decide +kernel
theorem dX10_skip_1 : decode cX10_skip 1 = .ok (.getfield 81, 3) := by decide +kernel
theorem dX10_skip_4 : decode cX10_skip 4 = .ok (.ifCond .ge 6, 3) := by decide +kernel
theorem dX10_skip_7 : decode cX10_skip 7 = .ok (.bipush 6, 2) := by decide +kernel
theorem dX10_skip_9 : decode cX10_skip 9 = .ok (.ireturn, 1) := by decide +kernel
theorem dX10_skip_10 : decode cX10_skip 10 = .ok (.aload_n 0, 1) := by decide +kernel
theorem dX10_skip_11 : decode cX10_skip 11 = .ok (.getfield 41, 3) := by decide +kernel
theorem dX10_skip_14 : decode cX10_skip 14 = .ok (.aload_n 0, 1) := by decide +kernel
theorem dX10_skip_15 : decode cX10_skip 15 = .ok (.getfield 81, 3) := by decide +kernel
theorem dX10_skip_18 : decode cX10_skip 18 = .ok (.iconst 1, 1) := by decide +kernel
theorem dX10_skip_19 : decode cX10_skip 19 = .ok (.bastore, 1) := by decide +kernel
theorem dX10_skip_20 : decode cX10_skip 20 = .ok (.aload_n 0, 1) := by decide +kernel
theorem dX10_skip_21 : decode cX10_skip 21 = .ok (.aload_n 0, 1) := by decide +kernel
theorem dX10_skip_22 : decode cX10_skip 22 = .ok (.aload_n 0, 1) := by decide +kernel
theorem dX10_skip_23 : decode cX10_skip 23 = .ok (.getfield 81, 3) := by decide +kernel
theorem dX10_skip_26 : decode cX10_skip 26 = .ok (.invokevirtual 171, 3) := by decide +kernel
theorem dX10_skip_29 : decode cX10_skip 29 = .ok (.invokevirtual 174, 3) := by decide +kernel
theorem dX10_skip_32 : decode cX10_skip 32 = .ok (.iconst 5, 1) := by decide +kernel
theorem dX10_skip_33 : decode cX10_skip 33 = .ok (.ireturn, 1) := by decide +kernel
theorem dX10_go_0 : decode cX10_go 0 = .ok (.aload_n 0, 1) := by decide +kernel
theorem dX10_go_1 : decode cX10_go 1 = .ok (.iload_n 1, 1) := by decide +kernel
theorem dX10_go_2 : decode cX10_go 2 = .ok (.invokevirtual 159, 3) := by decide +kernel
theorem dX10_go_5 : decode cX10_go 5 = .ok (.ifCond .ne 6, 3) := by decide +kernel
theorem dX10_go_8 : decode cX10_go 8 = .ok (.bipush 6, 2) := by decide +kernel
theorem dX10_go_10 : decode cX10_go 10 = .ok (.ireturn, 1) := by decide +kernel
theorem dX10_go_11 : decode cX10_go 11 = .ok (.aload_n 0, 1) := by decide +kernel
theorem dX10_go_12 : decode cX10_go 12 = .ok (.getfield 41, 3) := by decide +kernel
theorem dX10_go_15 : decode cX10_go 15 = .ok (.iload_n 1, 1) := by decide +kernel
theorem dX10_go_16 : decode cX10_go 16 = .ok (.iconst 0, 1) := by decide +kernel
theorem dX10_go_17 : decode cX10_go 17 = .ok (.bastore, 1) := by decide +kernel
theorem dX10_go_18 : decode cX10_go 18 = .ok (.aload_n 0, 1) := by decide +kernel
theorem dX10_go_19 : decode cX10_go 19 = .ok (.iload_n 1, 1) := by decide +kernel
theorem dX10_go_20 : decode cX10_go 20 = .ok (.invokevirtual 174, 3) := by decide +kernel
theorem dX10_go_23 : decode cX10_go 23 = .ok (.iconst 5, 1) := by decide +kernel
theorem dX10_go_24 : decode cX10_go 24 = .ok (.ireturn, 1) := by decide +kernel
theorem dX10_take_0 : decode cX10_take 0 = .ok (.iload_n 1, 1) := by decide +kernel
theorem dX10_take_1 : decode cX10_take 1 = .ok (.tableswitch 96 0 8 #[51, 71, 76, 81, 83, 96, 96, 90, 61], 51) := by decide +kernel
theorem dX10_take_52 : decode cX10_take 52 = .ok (.aload_n 0, 1) := by decide +kernel
theorem dX10_take_53 : decode cX10_take 53 = .ok (.aload_n 0, 1) := by decide +kernel
theorem dX10_take_54 : decode cX10_take 54 = .ok (.getfield 81, 3) := by decide +kernel
theorem dX10_take_57 : decode cX10_take 57 = .ok (.iload_n 2, 1) := by decide +kernel
theorem dX10_take_58 : decode cX10_take 58 = .ok (.invokevirtual 190, 3) := by decide +kernel
theorem dX10_take_61 : decode cX10_take 61 = .ok (.ireturn, 1) := by decide +kernel
theorem dX10_take_62 : decode cX10_take 62 = .ok (.aload_n 0, 1) := by decide +kernel
theorem dX10_take_63 : decode cX10_take 63 = .ok (.aload_n 0, 1) := by decide +kernel
theorem dX10_take_64 : decode cX10_take 64 = .ok (.getfield 84, 3) := by decide +kernel
theorem dX10_take_67 : decode cX10_take 67 = .ok (.iload_n 2, 1) := by decide +kernel
theorem dX10_take_68 : decode cX10_take 68 = .ok (.invokevirtual 190, 3) := by decide +kernel
theorem dX10_take_71 : decode cX10_take 71 = .ok (.ireturn, 1) := by decide +kernel
theorem dX10_take_72 : decode cX10_take 72 = .ok (.aload_n 0, 1) := by decide +kernel
theorem dX10_take_73 : decode cX10_take 73 = .ok (.invokevirtual 193, 3) := by decide +kernel
theorem dX10_take_76 : decode cX10_take 76 = .ok (.ireturn, 1) := by decide +kernel
theorem dX10_take_77 : decode cX10_take 77 = .ok (.aload_n 0, 1) := by decide +kernel
theorem dX10_take_78 : decode cX10_take 78 = .ok (.invokevirtual 197, 3) := by decide +kernel
theorem dX10_take_81 : decode cX10_take 81 = .ok (.ireturn, 1) := by decide +kernel
theorem dX10_take_82 : decode cX10_take 82 = .ok (.iconst 5, 1) := by decide +kernel
theorem dX10_take_83 : decode cX10_take 83 = .ok (.ireturn, 1) := by decide +kernel
theorem dX10_take_84 : decode cX10_take 84 = .ok (.aload_n 0, 1) := by decide +kernel
theorem dX10_take_85 : decode cX10_take 85 = .ok (.iconst 1, 1) := by decide +kernel
theorem dX10_take_86 : decode cX10_take 86 = .ok (.putfield 200, 3) := by decide +kernel
theorem dX10_take_89 : decode cX10_take 89 = .ok (.iconst 5, 1) := by decide +kernel
theorem dX10_take_90 : decode cX10_take 90 = .ok (.ireturn, 1) := by decide +kernel
theorem dX10_take_91 : decode cX10_take 91 = .ok (.aload_n 0, 1) := by decide +kernel
theorem dX10_take_92 : decode cX10_take 92 = .ok (.iload_n 2, 1) := by decide +kernel
theorem dX10_take_93 : decode cX10_take 93 = .ok (.invokevirtual 203, 3) := by decide +kernel
theorem dX10_take_96 : decode cX10_take 96 = .ok (.ireturn, 1) := by decide +kernel
theorem dX10_take_97 : decode cX10_take 97 = .ok (.bipush 6, 2) := by decide +kernel
theorem dX10_take_99 : decode cX10_take 99 = .ok (.ireturn, 1) := by decide +kernel
theorem dX10_act_0 : decode cX10_act 0 = .ok (.aload_n 0, 1) := by decide +kernel
end
section
/-! printed: decode rows -/
theorem dX10_act_1 : decode cX10_act 1 = .ok (.getfield 181, 3) := by decide +kernel
theorem dX10_act_4 : decode cX10_act 4 = .ok (.istore_n 1, 1) := by decide +kernel
theorem dX10_act_5 : decode cX10_act 5 = .ok (.aload_n 0, 1) := by decide +kernel
theorem dX10_act_6 : decode cX10_act 6 = .ok (.getfield 66, 3) := by decide +kernel
theorem dX10_act_9 : decode cX10_act 9 = .ok (.iconst 0, 1) := by decide +kernel
theorem dX10_act_10 : decode cX10_act 10 = .ok (.iaload, 1) := by decide +kernel
theorem dX10_act_11 : decode cX10_act 11 = .ok (.istore_n 2, 1) := by decide +kernel
theorem dX10_act_12 : decode cX10_act 12 = .ok (.aload_n 0, 1) := by decide +kernel
theorem dX10_act_13 : decode cX10_act 13 = .ok (.iconst 0, 1) := by decide +kernel
theorem dX10_act_14 : decode cX10_act 14 = .ok (.putfield 181, 3) := by decide +kernel
theorem dX10_act_17 : decode cX10_act 17 = .ok (.aload_n 0, 1) := by decide +kernel
theorem dX10_act_18 : decode cX10_act 18 = .ok (.getfield 72, 3) := by decide +kernel
theorem dX10_act_21 : decode cX10_act 21 = .ok (.iconst 1, 1) := by decide +kernel
theorem dX10_act_22 : decode cX10_act 22 = .ok (.iaload, 1) := by decide +kernel
theorem dX10_act_23 : decode cX10_act 23 = .ok (.ldc 124, 2) := by decide +kernel
theorem dX10_act_25 : decode cX10_act 25 = .ok (.if_icmp .ge 67, 3) := by decide +kernel
theorem dX10_act_28 : decode cX10_act 28 = .ok (.aload_n 0, 1) := by decide +kernel
theorem dX10_act_29 : decode cX10_act 29 = .ok (.getfield 72, 3) := by decide +kernel
theorem dX10_act_32 : decode cX10_act 32 = .ok (.iconst 1, 1) := by decide +kernel
theorem dX10_act_33 : decode cX10_act 33 = .ok (.iaload, 1) := by decide +kernel
theorem dX10_act_34 : decode cX10_act 34 = .ok (.aload_n 0, 1) := by decide +kernel
theorem dX10_act_35 : decode cX10_act 35 = .ok (.getfield 72, 3) := by decide +kernel
theorem dX10_act_38 : decode cX10_act 38 = .ok (.iconst 0, 1) := by decide +kernel
theorem dX10_act_39 : decode cX10_act 39 = .ok (.iaload, 1) := by decide +kernel
theorem dX10_act_40 : decode cX10_act 40 = .ok (.aload_n 0, 1) := by decide +kernel
theorem dX10_act_41 : decode cX10_act 41 = .ok (.getfield 51, 3) := by decide +kernel
theorem dX10_act_44 : decode cX10_act 44 = .ok (.iadd, 1) := by decide +kernel
theorem dX10_act_45 : decode cX10_act 45 = .ok (.if_icmp .ge 47, 3) := by decide +kernel
theorem dX10_act_48 : decode cX10_act 48 = .ok (.aload_n 0, 1) := by decide +kernel
theorem dX10_act_49 : decode cX10_act 49 = .ok (.iconst 2, 1) := by decide +kernel
theorem dX10_act_50 : decode cX10_act 50 = .ok (.putfield 181, 3) := by decide +kernel
theorem dX10_act_53 : decode cX10_act 53 = .ok (.iconst 0, 1) := by decide +kernel
theorem dX10_act_54 : decode cX10_act 54 = .ok (.istore_n 3, 1) := by decide +kernel
theorem dX10_act_55 : decode cX10_act 55 = .ok (.iload_n 3, 1) := by decide +kernel
theorem dX10_act_56 : decode cX10_act 56 = .ok (.iconst 2, 1) := by decide +kernel
theorem dX10_act_57 : decode cX10_act 57 = .ok (.if_icmp .ge 33, 3) := by decide +kernel
theorem dX10_act_60 : decode cX10_act 60 = .ok (.aload_n 0, 1) := by decide +kernel
theorem dX10_act_61 : decode cX10_act 61 = .ok (.getfield 90, 3) := by decide +kernel
theorem dX10_act_64 : decode cX10_act 64 = .ok (.iload_n 3, 1) := by decide +kernel
theorem dX10_act_65 : decode cX10_act 65 = .ok (.aload_n 0, 1) := by decide +kernel
theorem dX10_act_66 : decode cX10_act 66 = .ok (.getfield 66, 3) := by decide +kernel
theorem dX10_act_69 : decode cX10_act 69 = .ok (.iload_n 3, 1) := by decide +kernel
theorem dX10_act_70 : decode cX10_act 70 = .ok (.iaload, 1) := by decide +kernel
theorem dX10_act_71 : decode cX10_act 71 = .ok (.iastore, 1) := by decide +kernel
theorem dX10_act_72 : decode cX10_act 72 = .ok (.aload_n 0, 1) := by decide +kernel
theorem dX10_act_73 : decode cX10_act 73 = .ok (.getfield 93, 3) := by decide +kernel
theorem dX10_act_76 : decode cX10_act 76 = .ok (.iload_n 3, 1) := by decide +kernel
theorem dX10_act_77 : decode cX10_act 77 = .ok (.aload_n 0, 1) := by decide +kernel
theorem dX10_act_78 : decode cX10_act 78 = .ok (.getfield 69, 3) := by decide +kernel
theorem dX10_act_81 : decode cX10_act 81 = .ok (.iload_n 3, 1) := by decide +kernel
theorem dX10_act_82 : decode cX10_act 82 = .ok (.iaload, 1) := by decide +kernel
theorem dX10_act_83 : decode cX10_act 83 = .ok (.iastore, 1) := by decide +kernel
theorem dX10_act_84 : decode cX10_act 84 = .ok (.iinc 3 1, 3) := by decide +kernel
theorem dX10_act_87 : decode cX10_act 87 = .ok (.goto (-32), 3) := by decide +kernel
theorem dX10_act_90 : decode cX10_act 90 = .ok (.iconst 2, 1) := by decide +kernel
theorem dX10_act_91 : decode cX10_act 91 = .ok (.ireturn, 1) := by decide +kernel
theorem dX10_act_92 : decode cX10_act 92 = .ok (.iload_n 1, 1) := by decide +kernel
theorem dX10_act_93 : decode cX10_act 93 = .ok (.iconst 2, 1) := by decide +kernel
theorem dX10_act_94 : decode cX10_act 94 = .ok (.if_icmp .ne 49, 3) := by decide +kernel
theorem dX10_act_97 : decode cX10_act 97 = .ok (.iload_n 2, 1) := by decide +kernel
theorem dX10_act_98 : decode cX10_act 98 = .ok (.iconst 5, 1) := by decide +kernel
theorem dX10_act_99 : decode cX10_act 99 = .ok (.if_icmp .eq 9, 3) := by decide +kernel
theorem dX10_act_102 : decode cX10_act 102 = .ok (.iload_n 2, 1) := by decide +kernel
theorem dX10_act_103 : decode cX10_act 103 = .ok (.bipush 6, 2) := by decide +kernel
theorem dX10_act_105 : decode cX10_act 105 = .ok (.if_icmp .ne 38, 3) := by decide +kernel
theorem dX10_act_108 : decode cX10_act 108 = .ok (.aload_n 0, 1) := by decide +kernel
theorem dX10_act_109 : decode cX10_act 109 = .ok (.aload_n 0, 1) := by decide +kernel
theorem dX10_act_110 : decode cX10_act 110 = .ok (.getfield 90, 3) := by decide +kernel
theorem dX10_act_113 : decode cX10_act 113 = .ok (.iload_n 2, 1) := by decide +kernel
theorem dX10_act_114 : decode cX10_act 114 = .ok (.iconst 5, 1) := by decide +kernel
theorem dX10_act_115 : decode cX10_act 115 = .ok (.if_icmp .ne 7, 3) := by decide +kernel
theorem dX10_act_118 : decode cX10_act 118 = .ok (.iconst 0, 1) := by decide +kernel
theorem dX10_act_119 : decode cX10_act 119 = .ok (.goto 4, 3) := by decide +kernel
theorem dX10_act_122 : decode cX10_act 122 = .ok (.iconst 1, 1) := by decide +kernel
theorem dX10_act_123 : decode cX10_act 123 = .ok (.iaload, 1) := by decide +kernel
theorem dX10_act_124 : decode cX10_act 124 = .ok (.aload_n 0, 1) := by decide +kernel
theorem dX10_act_125 : decode cX10_act 125 = .ok (.getfield 93, 3) := by decide +kernel
theorem dX10_act_128 : decode cX10_act 128 = .ok (.iload_n 2, 1) := by decide +kernel
theorem dX10_act_129 : decode cX10_act 129 = .ok (.iconst 5, 1) := by decide +kernel
theorem dX10_act_130 : decode cX10_act 130 = .ok (.if_icmp .ne 7, 3) := by decide +kernel
theorem dX10_act_133 : decode cX10_act 133 = .ok (.iconst 0, 1) := by decide +kernel
theorem dX10_act_134 : decode cX10_act 134 = .ok (.goto 4, 3) := by decide +kernel
theorem dX10_act_137 : decode cX10_act 137 = .ok (.iconst 1, 1) := by decide +kernel
theorem dX10_act_138 : decode cX10_act 138 = .ok (.iaload, 1) := by decide +kernel
theorem dX10_act_139 : decode cX10_act 139 = .ok (.invokevirtual 206, 3) := by decide +kernel
theorem dX10_act_142 : decode cX10_act 142 = .ok (.ireturn, 1) := by decide +kernel
theorem dX10_act_143 : decode cX10_act 143 = .ok (.iload_n 1, 1) := by decide +kernel
theorem dX10_act_144 : decode cX10_act 144 = .ok (.iconst 1, 1) := by decide +kernel
theorem dX10_act_145 : decode cX10_act 145 = .ok (.if_icmp .ne 22, 3) := by decide +kernel
theorem dX10_act_148 : decode cX10_act 148 = .ok (.iload_n 2, 1) := by decide +kernel
theorem dX10_act_149 : decode cX10_act 149 = .ok (.iconst 5, 1) := by decide +kernel
theorem dX10_act_150 : decode cX10_act 150 = .ok (.if_icmp .ne 17, 3) := by decide +kernel
theorem dX10_act_153 : decode cX10_act 153 = .ok (.aload_n 0, 1) := by decide +kernel
theorem dX10_act_154 : decode cX10_act 154 = .ok (.aload_n 0, 1) := by decide +kernel
theorem dX10_act_155 : decode cX10_act 155 = .ok (.getfield 184, 3) := by decide +kernel
theorem dX10_act_158 : decode cX10_act 158 = .ok (.aload_n 0, 1) := by decide +kernel
theorem dX10_act_159 : decode cX10_act 159 = .ok (.getfield 187, 3) := by decide +kernel
theorem dX10_act_162 : decode cX10_act 162 = .ok (.iconst 1, 1) := by decide +kernel
theorem dX10_act_163 : decode cX10_act 163 = .ok (.invokevirtual 177, 3) := by decide +kernel
theorem dX10_act_166 : decode cX10_act 166 = .ok (.ireturn, 1) := by decide +kernel
theorem dX10_act_167 : decode cX10_act 167 = .ok (.iload_n 1, 1) := by decide +kernel
theorem dX10_act_168 : decode cX10_act 168 = .ok (.iconst 1, 1) := by decide +kernel
theorem dX10_act_169 : decode cX10_act 169 = .ok (.if_icmp .ne 11, 3) := by decide +kernel
theorem dX10_act_172 : decode cX10_act 172 = .ok (.iload_n 2, 1) := by decide +kernel
theorem dX10_act_173 : decode cX10_act 173 = .ok (.bipush 6, 2) := by decide +kernel
theorem dX10_act_175 : decode cX10_act 175 = .ok (.if_icmp .ne 5, 3) := by decide +kernel
theorem dX10_act_178 : decode cX10_act 178 = .ok (.iconst 5, 1) := by decide +kernel
theorem dX10_act_179 : decode cX10_act 179 = .ok (.ireturn, 1) := by decide +kernel
theorem dX10_act_180 : decode cX10_act 180 = .ok (.aload_n 0, 1) := by decide +kernel
theorem dX10_act_181 : decode cX10_act 181 = .ok (.iload_n 2, 1) := by decide +kernel
theorem dX10_act_182 : decode cX10_act 182 = .ok (.aload_n 0, 1) := by decide +kernel
theorem dX10_act_183 : decode cX10_act 183 = .ok (.getfield 69, 3) := by decide +kernel
theorem dX10_act_186 : decode cX10_act 186 = .ok (.iconst 0, 1) := by decide +kernel
theorem dX10_act_187 : decode cX10_act 187 = .ok (.iaload, 1) := by decide +kernel
theorem dX10_act_188 : decode cX10_act 188 = .ok (.invokevirtual 206, 3) := by decide +kernel
theorem dX10_act_191 : decode cX10_act 191 = .ok (.ireturn, 1) := by decide +kernel
theorem dX10_unlike_0 : decode cX10_unlike 0 = .ok (.iconst 0, 1) := by decide +kernel
theorem dX10_unlike_1 : decode cX10_unlike 1 = .ok (.istore_n 1, 1) := by decide +kernel
theorem dX10_unlike_2 : decode cX10_unlike 2 = .ok (.aload_n 0, 1) := by decide +kernel
theorem dX10_unlike_3 : decode cX10_unlike 3 = .ok (.getfield 69, 3) := by decide +kernel
theorem dX10_unlike_6 : decode cX10_unlike 6 = .ok (.iconst 0, 1) := by decide +kernel
theorem dX10_unlike_7 : decode cX10_unlike 7 = .ok (.iaload, 1) := by decide +kernel
theorem dX10_unlike_8 : decode cX10_unlike 8 = .ok (.istore_n 2, 1) := by decide +kernel
theorem dX10_unlike_9 : decode cX10_unlike 9 = .ok (.aload_n 0, 1) := by decide +kernel
theorem dX10_unlike_10 : decode cX10_unlike 10 = .ok (.getfield 69, 3) := by decide +kernel
theorem dX10_unlike_13 : decode cX10_unlike 13 = .ok (.iconst 1, 1) := by decide +kernel
theorem dX10_unlike_14 : decode cX10_unlike 14 = .ok (.iaload, 1) := by decide +kernel
theorem dX10_unlike_15 : decode cX10_unlike 15 = .ok (.istore_n 3, 1) := by decide +kernel
theorem dX10_unlike_16 : decode cX10_unlike 16 = .ok (.aload_n 0, 1) := by decide +kernel
theorem dX10_unlike_17 : decode cX10_unlike 17 = .ok (.getfield 13, 3) := by decide +kernel
theorem dX10_unlike_20 : decode cX10_unlike 20 = .ok (.aload_n 0, 1) := by decide +kernel
theorem dX10_unlike_21 : decode cX10_unlike 21 = .ok (.getfield 81, 3) := by decide +kernel
theorem dX10_unlike_24 : decode cX10_unlike 24 = .ok (.iaload, 1) := by decide +kernel
theorem dX10_unlike_25 : decode cX10_unlike 25 = .ok (.iconst 1, 1) := by decide +kernel
theorem dX10_unlike_26 : decode cX10_unlike 26 = .ok (.isub, 1) := by decide +kernel
theorem dX10_unlike_27 : decode cX10_unlike 27 = .ok (.istore 4, 2) := by decide +kernel
theorem dX10_unlike_29 : decode cX10_unlike 29 = .ok (.iload 4, 2) := by decide +kernel
theorem dX10_unlike_31 : decode cX10_unlike 31 = .ok (.ifCond .lt 37, 3) := by decide +kernel
theorem dX10_unlike_34 : decode cX10_unlike 34 = .ok (.iload_n 2, 1) := by decide +kernel
theorem dX10_unlike_35 : decode cX10_unlike 35 = .ok (.bipush 10, 2) := by decide +kernel
theorem dX10_unlike_37 : decode cX10_unlike 37 = .ok (.irem, 1) := by decide +kernel
theorem dX10_unlike_38 : decode cX10_unlike 38 = .ok (.iload_n 3, 1) := by decide +kernel
theorem dX10_unlike_39 : decode cX10_unlike 39 = .ok (.bipush 10, 2) := by decide +kernel
theorem dX10_unlike_41 : decode cX10_unlike 41 = .ok (.irem, 1) := by decide +kernel
theorem dX10_unlike_42 : decode cX10_unlike 42 = .ok (.if_icmp .eq 10, 3) := by decide +kernel
theorem dX10_unlike_45 : decode cX10_unlike 45 = .ok (.iload_n 1, 1) := by decide +kernel
theorem dX10_unlike_46 : decode cX10_unlike 46 = .ok (.iconst 1, 1) := by decide +kernel
theorem dX10_unlike_47 : decode cX10_unlike 47 = .ok (.iload 4, 2) := by decide +kernel
theorem dX10_unlike_49 : decode cX10_unlike 49 = .ok (.ishl, 1) := by decide +kernel
theorem dX10_unlike_50 : decode cX10_unlike 50 = .ok (.ior, 1) := by decide +kernel
theorem dX10_unlike_51 : decode cX10_unlike 51 = .ok (.istore_n 1, 1) := by decide +kernel
theorem dX10_unlike_52 : decode cX10_unlike 52 = .ok (.iload_n 2, 1) := by decide +kernel
theorem dX10_unlike_53 : decode cX10_unlike 53 = .ok (.bipush 10, 2) := by decide +kernel
theorem dX10_unlike_55 : decode cX10_unlike 55 = .ok (.idiv, 1) := by decide +kernel
theorem dX10_unlike_56 : decode cX10_unlike 56 = .ok (.istore_n 2, 1) := by decide +kernel
theorem dX10_unlike_57 : decode cX10_unlike 57 = .ok (.iload_n 3, 1) := by decide +kernel
theorem dX10_unlike_58 : decode cX10_unlike 58 = .ok (.bipush 10, 2) := by decide +kernel
theorem dX10_unlike_60 : decode cX10_unlike 60 = .ok (.idiv, 1) := by decide +kernel
theorem dX10_unlike_61 : decode cX10_unlike 61 = .ok (.istore_n 3, 1) := by decide +kernel
theorem dX10_unlike_62 : decode cX10_unlike 62 = .ok (.iinc 4 (-1), 3) := by decide +kernel
theorem dX10_unlike_65 : decode cX10_unlike 65 = .ok (.goto (-36), 3) := by decide +kernel
theorem dX10_unlike_68 : decode cX10_unlike 68 = .ok (.iload_n 1, 1) := by decide +kernel
theorem dX10_unlike_69 : decode cX10_unlike 69 = .ok (.ireturn, 1) := by decide +kernel
theorem dX10_say_0 : decode cX10_say 0 = .ok (.aload_n 0, 1) := by decide +kernel
theorem dX10_say_1 : decode cX10_say 1 = .ok (.iconst 1, 1) := by decide +kernel
theorem dX10_say_2 : decode cX10_say 2 = .ok (.putfield 106, 3) := by decide +kernel
theorem dX10_say_5 : decode cX10_say 5 = .ok (.aload_n 0, 1) := by decide +kernel
theorem dX10_say_6 : decode cX10_say 6 = .ok (.iconst 0, 1) := by decide +kernel
theorem dX10_say_7 : decode cX10_say 7 = .ok (.putfield 168, 3) := by decide +kernel
theorem dX10_say_10 : decode cX10_say 10 = .ok (.iconst 0, 1) := by decide +kernel
theorem dX10_say_11 : decode cX10_say 11 = .ok (.istore_n 1, 1) := by decide +kernel
theorem dX10_say_12 : decode cX10_say 12 = .ok (.iload_n 1, 1) := by decide +kernel
theorem dX10_say_13 : decode cX10_say 13 = .ok (.bipush 9, 2) := by decide +kernel
theorem dX10_say_15 : decode cX10_say 15 = .ok (.if_icmp .ge 26, 3) := by decide +kernel
theorem dX10_say_18 : decode cX10_say 18 = .ok (.aload_n 0, 1) := by decide +kernel
theorem dX10_say_19 : decode cX10_say 19 = .ok (.getfield 96, 3) := by decide +kernel
theorem dX10_say_22 : decode cX10_say 22 = .ok (.iload_n 1, 1) := by decide +kernel
theorem dX10_say_23 : decode cX10_say 23 = .ok (.iload_n 1, 1) := by decide +kernel
theorem dX10_say_24 : decode cX10_say 24 = .ok (.bipush 7, 2) := by decide +kernel
theorem dX10_say_26 : decode cX10_say 26 = .ok (.if_icmp .ge 7, 3) := by decide +kernel
theorem dX10_say_29 : decode cX10_say 29 = .ok (.iconst (-1), 1) := by decide +kernel
theorem dX10_say_30 : decode cX10_say 30 = .ok (.goto 4, 3) := by decide +kernel
theorem dX10_say_33 : decode cX10_say 33 = .ok (.iconst 0, 1) := by decide +kernel
theorem dX10_say_34 : decode cX10_say 34 = .ok (.iastore, 1) := by decide +kernel
theorem dX10_say_35 : decode cX10_say 35 = .ok (.iinc 1 1, 3) := by decide +kernel
theorem dX10_say_38 : decode cX10_say 38 = .ok (.goto (-26), 3) := by decide +kernel
theorem dX10_say_41 : decode cX10_say 41 = .ok (.aload_n 0, 1) := by decide +kernel
theorem dX10_say_42 : decode cX10_say 42 = .ok (.getfield 121, 3) := by decide +kernel
theorem dX10_say_45 : decode cX10_say 45 = .ok (.ifCond .ne 14, 3) := by decide +kernel
theorem dX10_say_48 : decode cX10_say 48 = .ok (.aload_n 0, 1) := by decide +kernel
theorem dX10_say_49 : decode cX10_say 49 = .ok (.getfield 200, 3) := by decide +kernel
theorem dX10_say_52 : decode cX10_say 52 = .ok (.ifCond .ne 7, 3) := by decide +kernel
theorem dX10_say_55 : decode cX10_say 55 = .ok (.iconst 0, 1) := by decide +kernel
theorem dX10_say_56 : decode cX10_say 56 = .ok (.goto 4, 3) := by decide +kernel
theorem dX10_say_59 : decode cX10_say 59 = .ok (.iconst 1, 1) := by decide +kernel
theorem dX10_say_60 : decode cX10_say 60 = .ok (.istore_n 1, 1) := by decide +kernel
theorem dX10_say_61 : decode cX10_say 61 = .ok (.aload_n 0, 1) := by decide +kernel
theorem dX10_say_62 : decode cX10_say 62 = .ok (.getfield 121, 3) := by decide +kernel
theorem dX10_say_65 : decode cX10_say 65 = .ok (.ifCond .le 195, 3) := by decide +kernel
theorem dX10_say_68 : decode cX10_say 68 = .ok (.aload_n 0, 1) := by decide +kernel
theorem dX10_say_69 : decode cX10_say 69 = .ok (.getfield 200, 3) := by decide +kernel
theorem dX10_say_72 : decode cX10_say 72 = .ok (.ifCond .ne 188, 3) := by decide +kernel
theorem dX10_say_75 : decode cX10_say 75 = .ok (.aload_n 0, 1) := by decide +kernel
theorem dX10_say_76 : decode cX10_say 76 = .ok (.invokevirtual 209, 3) := by decide +kernel
theorem dX10_say_79 : decode cX10_say 79 = .ok (.aload_n 0, 1) := by decide +kernel
theorem dX10_say_80 : decode cX10_say 80 = .ok (.getfield 72, 3) := by decide +kernel
theorem dX10_say_83 : decode cX10_say 83 = .ok (.iconst 0, 1) := by decide +kernel
theorem dX10_say_84 : decode cX10_say 84 = .ok (.iaload, 1) := by decide +kernel
theorem dX10_say_85 : decode cX10_say 85 = .ok (.ldc 124, 2) := by decide +kernel
theorem dX10_say_87 : decode cX10_say 87 = .ok (.if_icmp .ge 173, 3) := by decide +kernel
theorem dX10_say_90 : decode cX10_say 90 = .ok (.aload_n 0, 1) := by decide +kernel
theorem dX10_say_91 : decode cX10_say 91 = .ok (.getfield 81, 3) := by decide +kernel
theorem dX10_say_94 : decode cX10_say 94 = .ok (.ifCond .lt 48, 3) := by decide +kernel
theorem dX10_say_97 : decode cX10_say 97 = .ok (.aload_n 0, 1) := by decide +kernel
theorem dX10_say_98 : decode cX10_say 98 = .ok (.getfield 13, 3) := by decide +kernel
theorem dX10_say_101 : decode cX10_say 101 = .ok (.aload_n 0, 1) := by decide +kernel
theorem dX10_say_102 : decode cX10_say 102 = .ok (.getfield 81, 3) := by decide +kernel
theorem dX10_say_105 : decode cX10_say 105 = .ok (.iaload, 1) := by decide +kernel
theorem dX10_say_106 : decode cX10_say 106 = .ok (.ifCond .le 36, 3) := by decide +kernel
theorem dX10_say_109 : decode cX10_say 109 = .ok (.aload_n 0, 1) := by decide +kernel
theorem dX10_say_110 : decode cX10_say 110 = .ok (.getfield 72, 3) := by decide +kernel
theorem dX10_say_113 : decode cX10_say 113 = .ok (.iconst 1, 1) := by decide +kernel
theorem dX10_say_114 : decode cX10_say 114 = .ok (.iaload, 1) := by decide +kernel
theorem dX10_say_115 : decode cX10_say 115 = .ok (.ldc 124, 2) := by decide +kernel
theorem dX10_say_117 : decode cX10_say 117 = .ok (.if_icmp .ge 25, 3) := by decide +kernel
theorem dX10_say_120 : decode cX10_say 120 = .ok (.aload_n 0, 1) := by decide +kernel
theorem dX10_say_121 : decode cX10_say 121 = .ok (.getfield 66, 3) := by decide +kernel
theorem dX10_say_124 : decode cX10_say 124 = .ok (.iconst 0, 1) := by decide +kernel
theorem dX10_say_125 : decode cX10_say 125 = .ok (.iaload, 1) := by decide +kernel
theorem dX10_say_126 : decode cX10_say 126 = .ok (.ifCond .ne 16, 3) := by decide +kernel
theorem dX10_say_129 : decode cX10_say 129 = .ok (.aload_n 0, 1) := by decide +kernel
theorem dX10_say_130 : decode cX10_say 130 = .ok (.getfield 66, 3) := by decide +kernel
theorem dX10_say_133 : decode cX10_say 133 = .ok (.iconst 1, 1) := by decide +kernel
theorem dX10_say_134 : decode cX10_say 134 = .ok (.iaload, 1) := by decide +kernel
theorem dX10_say_135 : decode cX10_say 135 = .ok (.ifCond .ne 7, 3) := by decide +kernel
theorem dX10_say_138 : decode cX10_say 138 = .ok (.iconst 1, 1) := by decide +kernel
theorem dX10_say_139 : decode cX10_say 139 = .ok (.goto 4, 3) := by decide +kernel
theorem dX10_say_142 : decode cX10_say 142 = .ok (.iconst 0, 1) := by decide +kernel
theorem dX10_say_143 : decode cX10_say 143 = .ok (.istore_n 2, 1) := by decide +kernel
theorem dX10_say_144 : decode cX10_say 144 = .ok (.aload_n 0, 1) := by decide +kernel
theorem dX10_say_145 : decode cX10_say 145 = .ok (.getfield 96, 3) := by decide +kernel
theorem dX10_say_148 : decode cX10_say 148 = .ok (.bipush 8, 2) := by decide +kernel
theorem dX10_say_150 : decode cX10_say 150 = .ok (.iload_n 2, 1) := by decide +kernel
theorem dX10_say_151 : decode cX10_say 151 = .ok (.ifCond .eq 30, 3) := by decide +kernel
theorem dX10_say_154 : decode cX10_say 154 = .ok (.aload_n 0, 1) := by decide +kernel
theorem dX10_say_155 : decode cX10_say 155 = .ok (.getfield 72, 3) := by decide +kernel
theorem dX10_say_158 : decode cX10_say 158 = .ok (.iconst 1, 1) := by decide +kernel
theorem dX10_say_159 : decode cX10_say 159 = .ok (.iaload, 1) := by decide +kernel
theorem dX10_say_160 : decode cX10_say 160 = .ok (.aload_n 0, 1) := by decide +kernel
theorem dX10_say_161 : decode cX10_say 161 = .ok (.getfield 72, 3) := by decide +kernel
theorem dX10_say_164 : decode cX10_say 164 = .ok (.iconst 0, 1) := by decide +kernel
theorem dX10_say_165 : decode cX10_say 165 = .ok (.iaload, 1) := by decide +kernel
theorem dX10_say_166 : decode cX10_say 166 = .ok (.aload_n 0, 1) := by decide +kernel
theorem dX10_say_167 : decode cX10_say 167 = .ok (.getfield 51, 3) := by decide +kernel
theorem dX10_say_170 : decode cX10_say 170 = .ok (.iadd, 1) := by decide +kernel
theorem dX10_say_171 : decode cX10_say 171 = .ok (.if_icmp .ge 10, 3) := by decide +kernel
theorem dX10_say_174 : decode cX10_say 174 = .ok (.aload_n 0, 1) := by decide +kernel
theorem dX10_say_175 : decode cX10_say 175 = .ok (.invokevirtual 212, 3) := by decide +kernel
theorem dX10_say_178 : decode cX10_say 178 = .ok (.goto 4, 3) := by decide +kernel
theorem dX10_say_181 : decode cX10_say 181 = .ok (.iconst 0, 1) := by decide +kernel
theorem dX10_say_182 : decode cX10_say 182 = .ok (.iastore, 1) := by decide +kernel
theorem dX10_say_183 : decode cX10_say 183 = .ok (.iconst 0, 1) := by decide +kernel
theorem dX10_say_184 : decode cX10_say 184 = .ok (.istore_n 3, 1) := by decide +kernel
theorem dX10_say_185 : decode cX10_say 185 = .ok (.iload_n 3, 1) := by decide +kernel
theorem dX10_say_186 : decode cX10_say 186 = .ok (.iconst 2, 1) := by decide +kernel
theorem dX10_say_187 : decode cX10_say 187 = .ok (.if_icmp .ge 68, 3) := by decide +kernel
theorem dX10_say_190 : decode cX10_say 190 = .ok (.aload_n 0, 1) := by decide +kernel
theorem dX10_say_191 : decode cX10_say 191 = .ok (.getfield 72, 3) := by decide +kernel
theorem dX10_say_194 : decode cX10_say 194 = .ok (.iload_n 3, 1) := by decide +kernel
theorem dX10_say_195 : decode cX10_say 195 = .ok (.iaload, 1) := by decide +kernel
theorem dX10_say_196 : decode cX10_say 196 = .ok (.ldc 124, 2) := by decide +kernel
theorem dX10_say_198 : decode cX10_say 198 = .ok (.if_icmp .ge 57, 3) := by decide +kernel
theorem dX10_say_201 : decode cX10_say 201 = .ok (.aload_n 0, 1) := by decide +kernel
theorem dX10_say_202 : decode cX10_say 202 = .ok (.getfield 96, 3) := by decide +kernel
theorem dX10_say_205 : decode cX10_say 205 = .ok (.iconst 3, 1) := by decide +kernel
theorem dX10_say_206 : decode cX10_say 206 = .ok (.iload_n 3, 1) := by decide +kernel
theorem dX10_say_207 : decode cX10_say 207 = .ok (.imul, 1) := by decide +kernel
theorem dX10_say_208 : decode cX10_say 208 = .ok (.iconst 1, 1) := by decide +kernel
theorem dX10_say_209 : decode cX10_say 209 = .ok (.iadd, 1) := by decide +kernel
theorem dX10_say_210 : decode cX10_say 210 = .ok (.aload_n 0, 1) := by decide +kernel
theorem dX10_say_211 : decode cX10_say 211 = .ok (.getfield 66, 3) := by decide +kernel
theorem dX10_say_214 : decode cX10_say 214 = .ok (.iload_n 3, 1) := by decide +kernel
theorem dX10_say_215 : decode cX10_say 215 = .ok (.iaload, 1) := by decide +kernel
theorem dX10_say_216 : decode cX10_say 216 = .ok (.iastore, 1) := by decide +kernel
theorem dX10_say_217 : decode cX10_say 217 = .ok (.aload_n 0, 1) := by decide +kernel
theorem dX10_say_218 : decode cX10_say 218 = .ok (.getfield 96, 3) := by decide +kernel
theorem dX10_say_221 : decode cX10_say 221 = .ok (.iconst 3, 1) := by decide +kernel
theorem dX10_say_222 : decode cX10_say 222 = .ok (.iload_n 3, 1) := by decide +kernel
theorem dX10_say_223 : decode cX10_say 223 = .ok (.imul, 1) := by decide +kernel
theorem dX10_say_224 : decode cX10_say 224 = .ok (.iconst 2, 1) := by decide +kernel
theorem dX10_say_225 : decode cX10_say 225 = .ok (.iadd, 1) := by decide +kernel
theorem dX10_say_226 : decode cX10_say 226 = .ok (.aload_n 0, 1) := by decide +kernel
theorem dX10_say_227 : decode cX10_say 227 = .ok (.getfield 69, 3) := by decide +kernel
theorem dX10_say_230 : decode cX10_say 230 = .ok (.iload_n 3, 1) := by decide +kernel
theorem dX10_say_231 : decode cX10_say 231 = .ok (.iaload, 1) := by decide +kernel
theorem dX10_say_232 : decode cX10_say 232 = .ok (.iastore, 1) := by decide +kernel
theorem dX10_say_233 : decode cX10_say 233 = .ok (.aload_n 0, 1) := by decide +kernel
theorem dX10_say_234 : decode cX10_say 234 = .ok (.getfield 96, 3) := by decide +kernel
theorem dX10_say_237 : decode cX10_say 237 = .ok (.iconst 3, 1) := by decide +kernel
theorem dX10_say_238 : decode cX10_say 238 = .ok (.iload_n 3, 1) := by decide +kernel
theorem dX10_say_239 : decode cX10_say 239 = .ok (.imul, 1) := by decide +kernel
theorem dX10_say_240 : decode cX10_say 240 = .ok (.iconst 3, 1) := by decide +kernel
theorem dX10_say_241 : decode cX10_say 241 = .ok (.iadd, 1) := by decide +kernel
theorem dX10_say_242 : decode cX10_say 242 = .ok (.aload_n 0, 1) := by decide +kernel
theorem dX10_say_243 : decode cX10_say 243 = .ok (.getfield 72, 3) := by decide +kernel
theorem dX10_say_246 : decode cX10_say 246 = .ok (.iload_n 3, 1) := by decide +kernel
theorem dX10_say_247 : decode cX10_say 247 = .ok (.iaload, 1) := by decide +kernel
theorem dX10_say_248 : decode cX10_say 248 = .ok (.iastore, 1) := by decide +kernel
theorem dX10_say_249 : decode cX10_say 249 = .ok (.iinc 3 1, 3) := by decide +kernel
theorem dX10_say_252 : decode cX10_say 252 = .ok (.goto (-67), 3) := by decide +kernel
theorem dX10_say_255 : decode cX10_say 255 = .ok (.aload_n 0, 1) := by decide +kernel
theorem dX10_say_256 : decode cX10_say 256 = .ok (.invokevirtual 215, 3) := by decide +kernel
theorem dX10_say_259 : decode cX10_say 259 = .ok (.istore_n 1, 1) := by decide +kernel
theorem dX10_say_260 : decode cX10_say 260 = .ok (.aload_n 0, 1) := by decide +kernel
theorem dX10_say_261 : decode cX10_say 261 = .ok (.iconst 0, 1) := by decide +kernel
theorem dX10_say_262 : decode cX10_say 262 = .ok (.putfield 121, 3) := by decide +kernel
theorem dX10_say_265 : decode cX10_say 265 = .ok (.aload_n 0, 1) := by decide +kernel
theorem dX10_say_266 : decode cX10_say 266 = .ok (.getfield 96, 3) := by decide +kernel
theorem dX10_say_269 : decode cX10_say 269 = .ok (.iconst 0, 1) := by decide +kernel
theorem dX10_say_270 : decode cX10_say 270 = .ok (.iload_n 1, 1) := by decide +kernel
theorem dX10_say_271 : decode cX10_say 271 = .ok (.iastore, 1) := by decide +kernel
theorem dX10_say_272 : decode cX10_say 272 = .ok (.aload_n 0, 1) := by decide +kernel
theorem dX10_say_273 : decode cX10_say 273 = .ok (.getfield 96, 3) := by decide +kernel
theorem dX10_say_276 : decode cX10_say 276 = .ok (.bipush 7, 2) := by decide +kernel
theorem dX10_say_278 : decode cX10_say 278 = .ok (.aload_n 0, 1) := by decide +kernel
theorem dX10_say_279 : decode cX10_say 279 = .ok (.getfield 168, 3) := by decide +kernel
theorem dX10_say_282 : decode cX10_say 282 = .ok (.iastore, 1) := by decide +kernel
theorem dX10_say_283 : decode cX10_say 283 = .ok (.aload_n 0, 1) := by decide +kernel
theorem dX10_say_284 : decode cX10_say 284 = .ok (.iload_n 1, 1) := by decide +kernel
theorem dX10_say_285 : decode cX10_say 285 = .ok (.iconst 1, 1) := by decide +kernel
theorem dX10_say_286 : decode cX10_say 286 = .ok (.if_icmp .le 7, 3) := by decide +kernel
theorem dX10_say_289 : decode cX10_say 289 = .ok (.iconst 0, 1) := by decide +kernel
theorem dX10_say_290 : decode cX10_say 290 = .ok (.goto 23, 3) := by decide +kernel
theorem dX10_say_293 : decode cX10_say 293 = .ok (.aload_n 0, 1) := by decide +kernel
theorem dX10_say_294 : decode cX10_say 294 = .ok (.getfield 218, 3) := by decide +kernel
theorem dX10_say_297 : decode cX10_say 297 = .ok (.bipush 9, 2) := by decide +kernel
theorem dX10_say_299 : decode cX10_say 299 = .ok (.if_icmp .ne 8, 3) := by decide +kernel
theorem dX10_say_302 : decode cX10_say 302 = .ok (.bipush 9, 2) := by decide +kernel
theorem dX10_say_304 : decode cX10_say 304 = .ok (.goto 9, 3) := by decide +kernel
theorem dX10_say_307 : decode cX10_say 307 = .ok (.aload_n 0, 1) := by decide +kernel
theorem dX10_say_308 : decode cX10_say 308 = .ok (.getfield 218, 3) := by decide +kernel
theorem dX10_say_311 : decode cX10_say 311 = .ok (.iconst 1, 1) := by decide +kernel
theorem dX10_say_312 : decode cX10_say 312 = .ok (.iadd, 1) := by decide +kernel
theorem dX10_say_313 : decode cX10_say 313 = .ok (.putfield 218, 3) := by decide +kernel
theorem dX10_say_316 : decode cX10_say 316 = .ok (.iload_n 1, 1) := by decide +kernel
theorem dX10_say_317 : decode cX10_say 317 = .ok (.ireturn, 1) := by decide +kernel
theorem dX10_goOn_0 : decode cX10_goOn 0 = .ok (.aload_n 0, 1) := by decide +kernel
theorem dX10_goOn_1 : decode cX10_goOn 1 = .ok (.getfield 200, 3) := by decide +kernel
theorem dX10_goOn_4 : decode cX10_goOn 4 = .ok (.ifCond .ne 5, 3) := by decide +kernel
theorem dX10_goOn_7 : decode cX10_goOn 7 = .ok (.iconst 0, 1) := by decide +kernel
theorem dX10_goOn_8 : decode cX10_goOn 8 = .ok (.ireturn, 1) := by decide +kernel
theorem dX10_goOn_9 : decode cX10_goOn 9 = .ok (.aload_n 0, 1) := by decide +kernel
theorem dX10_goOn_10 : decode cX10_goOn 10 = .ok (.iconst 0, 1) := by decide +kernel
theorem dX10_goOn_11 : decode cX10_goOn 11 = .ok (.putfield 200, 3) := by decide +kernel
theorem dX10_goOn_14 : decode cX10_goOn 14 = .ok (.iconst 1, 1) := by decide +kernel
theorem dX10_goOn_15 : decode cX10_goOn 15 = .ok (.ireturn, 1) := by decide +kernel
theorem dX10_told_0 : decode cX10_told 0 = .ok (.aload_n 0, 1) := by decide +kernel
theorem dX10_told_1 : decode cX10_told 1 = .ok (.getfield 106, 3) := by decide +kernel
theorem dX10_told_4 : decode cX10_told 4 = .ok (.ifCond .eq 22, 3) := by decide +kernel
theorem dX10_told_7 : decode cX10_told 7 = .ok (.iload_n 1, 1) := by decide +kernel
theorem dX10_told_8 : decode cX10_told 8 = .ok (.iconst 0, 1) := by decide +kernel
theorem dX10_told_9 : decode cX10_told 9 = .ok (.bipush 8, 2) := by decide +kernel
theorem dX10_told_11 : decode cX10_told 11 = .ok (.invokestatic 102, 3) := by decide +kernel
theorem dX10_told_14 : decode cX10_told 14 = .ok (.ifCond .eq 12, 3) := by decide +kernel
theorem dX10_told_17 : decode cX10_told 17 = .ok (.aload_n 0, 1) := by decide +kernel
theorem dX10_told_18 : decode cX10_told 18 = .ok (.getfield 96, 3) := by decide +kernel
theorem dX10_told_21 : decode cX10_told 21 = .ok (.iload_n 1, 1) := by decide +kernel
theorem dX10_told_22 : decode cX10_told 22 = .ok (.iaload, 1) := by decide +kernel
theorem dX10_told_23 : decode cX10_told 23 = .ok (.goto 4, 3) := by decide +kernel
theorem dX10_told_26 : decode cX10_told 26 = .ok (.iconst (-1), 1) := by decide +kernel
theorem dX10_told_27 : decode cX10_told 27 = .ok (.ireturn, 1) := by decide +kernel
theorem dX10_about_0 : decode cX10_about 0 = .ok (.iconst 0, 1) := by decide +kernel
theorem dX10_about_1 : decode cX10_about 1 = .ok (.istore_n 2, 1) := by decide +kernel
theorem dX10_about_2 : decode cX10_about 2 = .ok (.iconst 0, 1) := by decide +kernel
theorem dX10_about_3 : decode cX10_about 3 = .ok (.istore_n 3, 1) := by decide +kernel
theorem dX10_about_4 : decode cX10_about 4 = .ok (.iconst 0, 1) := by decide +kernel
theorem dX10_about_5 : decode cX10_about 5 = .ok (.istore 4, 2) := by decide +kernel
theorem dX10_about_7 : decode cX10_about 7 = .ok (.iload 4, 2) := by decide +kernel
theorem dX10_about_9 : decode cX10_about 9 = .ok (.aload_n 0, 1) := by decide +kernel
theorem dX10_about_10 : decode cX10_about 10 = .ok (.getfield 99, 3) := by decide +kernel
theorem dX10_about_13 : decode cX10_about 13 = .ok (.if_icmp .ge 64, 3) := by decide +kernel
theorem dX10_about_16 : decode cX10_about 16 = .ok (.iload_n 2, 1) := by decide +kernel
theorem dX10_about_17 : decode cX10_about 17 = .ok (.aload_n 0, 1) := by decide +kernel
theorem dX10_about_18 : decode cX10_about 18 = .ok (.iload 4, 2) := by decide +kernel
theorem dX10_about_20 : decode cX10_about 20 = .ok (.invokevirtual 159, 3) := by decide +kernel
theorem dX10_about_23 : decode cX10_about 23 = .ok (.ifCond .eq 17, 3) := by decide +kernel
theorem dX10_about_26 : decode cX10_about 26 = .ok (.aload_n 0, 1) := by decide +kernel
theorem dX10_about_27 : decode cX10_about 27 = .ok (.getfield 35, 3) := by decide +kernel
theorem dX10_about_30 : decode cX10_about 30 = .ok (.iload 4, 2) := by decide +kernel
theorem dX10_about_32 : decode cX10_about 32 = .ok (.iaload, 1) := by decide +kernel
theorem dX10_about_33 : decode cX10_about 33 = .ok (.ifCond .ge 7, 3) := by decide +kernel
theorem dX10_about_36 : decode cX10_about 36 = .ok (.iconst 1, 1) := by decide +kernel
theorem dX10_about_37 : decode cX10_about 37 = .ok (.goto 4, 3) := by decide +kernel
theorem dX10_about_40 : decode cX10_about 40 = .ok (.iconst 0, 1) := by decide +kernel
theorem dX10_about_41 : decode cX10_about 41 = .ok (.iadd, 1) := by decide +kernel
theorem dX10_about_42 : decode cX10_about 42 = .ok (.istore_n 2, 1) := by decide +kernel
theorem dX10_about_43 : decode cX10_about 43 = .ok (.iload_n 3, 1) := by decide +kernel
theorem dX10_about_44 : decode cX10_about 44 = .ok (.aload_n 0, 1) := by decide +kernel
theorem dX10_about_45 : decode cX10_about 45 = .ok (.getfield 35, 3) := by decide +kernel
theorem dX10_about_48 : decode cX10_about 48 = .ok (.iload 4, 2) := by decide +kernel
theorem dX10_about_50 : decode cX10_about 50 = .ok (.iaload, 1) := by decide +kernel
theorem dX10_about_51 : decode cX10_about 51 = .ok (.ifCond .lt 17, 3) := by decide +kernel
theorem dX10_about_54 : decode cX10_about 54 = .ok (.aload_n 0, 1) := by decide +kernel
theorem dX10_about_55 : decode cX10_about 55 = .ok (.getfield 38, 3) := by decide +kernel
theorem dX10_about_58 : decode cX10_about 58 = .ok (.iload 4, 2) := by decide +kernel
theorem dX10_about_60 : decode cX10_about 60 = .ok (.baload, 1) := by decide +kernel
theorem dX10_about_61 : decode cX10_about 61 = .ok (.ifCond .ne 7, 3) := by decide +kernel
theorem dX10_about_64 : decode cX10_about 64 = .ok (.iconst 1, 1) := by decide +kernel
theorem dX10_about_65 : decode cX10_about 65 = .ok (.goto 4, 3) := by decide +kernel
theorem dX10_about_68 : decode cX10_about 68 = .ok (.iconst 0, 1) := by decide +kernel
theorem dX10_about_69 : decode cX10_about 69 = .ok (.iadd, 1) := by decide +kernel
theorem dX10_about_70 : decode cX10_about 70 = .ok (.istore_n 3, 1) := by decide +kernel
theorem dX10_about_71 : decode cX10_about 71 = .ok (.iinc 4 1, 3) := by decide +kernel
theorem dX10_about_74 : decode cX10_about 74 = .ok (.goto (-67), 3) := by decide +kernel
theorem dX10_about_77 : decode cX10_about 77 = .ok (.iload_n 1, 1) := by decide +kernel
theorem dX10_about_78 : decode cX10_about 78 = .ok (.tableswitch 97 0 8 #[50, 55, 60, 65, 67, 80, 85, 90, 92], 50) := by decide +kernel
theorem dX10_about_128 : decode cX10_about 128 = .ok (.aload_n 0, 1) := by decide +kernel
theorem dX10_about_129 : decode cX10_about 129 = .ok (.getfield 81, 3) := by decide +kernel
theorem dX10_about_132 : decode cX10_about 132 = .ok (.ireturn, 1) := by decide +kernel
theorem dX10_about_133 : decode cX10_about 133 = .ok (.aload_n 0, 1) := by decide +kernel
theorem dX10_about_134 : decode cX10_about 134 = .ok (.getfield 84, 3) := by decide +kernel
theorem dX10_about_137 : decode cX10_about 137 = .ok (.ireturn, 1) := by decide +kernel
theorem dX10_about_138 : decode cX10_about 138 = .ok (.aload_n 0, 1) := by decide +kernel
theorem dX10_about_139 : decode cX10_about 139 = .ok (.getfield 181, 3) := by decide +kernel
theorem dX10_about_142 : decode cX10_about 142 = .ok (.ireturn, 1) := by decide +kernel
theorem dX10_about_143 : decode cX10_about 143 = .ok (.iload_n 2, 1) := by decide +kernel
theorem dX10_about_144 : decode cX10_about 144 = .ok (.ireturn, 1) := by decide +kernel
theorem dX10_about_145 : decode cX10_about 145 = .ok (.aload_n 0, 1) := by decide +kernel
theorem dX10_about_146 : decode cX10_about 146 = .ok (.getfield 200, 3) := by decide +kernel
theorem dX10_about_149 : decode cX10_about 149 = .ok (.ifCond .eq 7, 3) := by decide +kernel
theorem dX10_about_152 : decode cX10_about 152 = .ok (.iconst 1, 1) := by decide +kernel
theorem dX10_about_153 : decode cX10_about 153 = .ok (.goto 4, 3) := by decide +kernel
theorem dX10_about_156 : decode cX10_about 156 = .ok (.iconst 0, 1) := by decide +kernel
theorem dX10_about_157 : decode cX10_about 157 = .ok (.ireturn, 1) := by decide +kernel
theorem dX10_about_158 : decode cX10_about 158 = .ok (.aload_n 0, 1) := by decide +kernel
theorem dX10_about_159 : decode cX10_about 159 = .ok (.getfield 218, 3) := by decide +kernel
theorem dX10_about_162 : decode cX10_about 162 = .ok (.ireturn, 1) := by decide +kernel
theorem dX10_about_163 : decode cX10_about 163 = .ok (.aload_n 0, 1) := by decide +kernel
theorem dX10_about_164 : decode cX10_about 164 = .ok (.getfield 99, 3) := by decide +kernel
theorem dX10_about_167 : decode cX10_about 167 = .ok (.ireturn, 1) := by decide +kernel
theorem dX10_about_168 : decode cX10_about 168 = .ok (.iload_n 3, 1) := by decide +kernel
theorem dX10_about_169 : decode cX10_about 169 = .ok (.ireturn, 1) := by decide +kernel
theorem dX10_about_170 : decode cX10_about 170 = .ok (.aload_n 0, 1) := by decide +kernel
theorem dX10_about_171 : decode cX10_about 171 = .ok (.getfield 121, 3) := by decide +kernel
theorem dX10_about_174 : decode cX10_about 174 = .ok (.ireturn, 1) := by decide +kernel
theorem dX10_about_175 : decode cX10_about 175 = .ok (.iconst (-1), 1) := by decide +kernel
theorem dX10_about_176 : decode cX10_about 176 = .ok (.ireturn, 1) := by decide +kernel
theorem dX10_field_0 : decode cX10_field 0 = .ok (.aload_n 0, 1) := by decide +kernel
theorem dX10_field_1 : decode cX10_field 1 = .ok (.iload_n 1, 1) := by decide +kernel
theorem dX10_field_2 : decode cX10_field 2 = .ok (.invokevirtual 118, 3) := by decide +kernel
theorem dX10_field_5 : decode cX10_field 5 = .ok (.ifCond .ne 5, 3) := by decide +kernel
theorem dX10_field_8 : decode cX10_field 8 = .ok (.iconst (-1), 1) := by decide +kernel
theorem dX10_field_9 : decode cX10_field 9 = .ok (.ireturn, 1) := by decide +kernel
theorem dX10_field_10 : decode cX10_field 10 = .ok (.iload_n 2, 1) := by decide +kernel
theorem dX10_field_11 : decode cX10_field 11 = .ok (.tableswitch 132 0 7 #[45, 52, 59, 66, 80, 95, 110, 125], 45) := by decide +kernel
theorem dX10_field_56 : decode cX10_field 56 = .ok (.aload_n 0, 1) := by decide +kernel
theorem dX10_field_57 : decode cX10_field 57 = .ok (.getfield 7, 3) := by decide +kernel
theorem dX10_field_60 : decode cX10_field 60 = .ok (.iload_n 1, 1) := by decide +kernel
theorem dX10_field_61 : decode cX10_field 61 = .ok (.iaload, 1) := by decide +kernel
theorem dX10_field_62 : decode cX10_field 62 = .ok (.ireturn, 1) := by decide +kernel
theorem dX10_field_63 : decode cX10_field 63 = .ok (.aload_n 0, 1) := by decide +kernel
theorem dX10_field_64 : decode cX10_field 64 = .ok (.getfield 13, 3) := by decide +kernel
theorem dX10_field_67 : decode cX10_field 67 = .ok (.iload_n 1, 1) := by decide +kernel
theorem dX10_field_68 : decode cX10_field 68 = .ok (.iaload, 1) := by decide +kernel
theorem dX10_field_69 : decode cX10_field 69 = .ok (.ireturn, 1) := by decide +kernel
theorem dX10_field_70 : decode cX10_field 70 = .ok (.aload_n 0, 1) := by decide +kernel
theorem dX10_field_71 : decode cX10_field 71 = .ok (.getfield 16, 3) := by decide +kernel
theorem dX10_field_74 : decode cX10_field 74 = .ok (.iload_n 1, 1) := by decide +kernel
theorem dX10_field_75 : decode cX10_field 75 = .ok (.iaload, 1) := by decide +kernel
theorem dX10_field_76 : decode cX10_field 76 = .ok (.ireturn, 1) := by decide +kernel
theorem dX10_field_77 : decode cX10_field 77 = .ok (.aload_n 0, 1) := by decide +kernel
theorem dX10_field_78 : decode cX10_field 78 = .ok (.iload_n 1, 1) := by decide +kernel
theorem dX10_field_79 : decode cX10_field 79 = .ok (.invokevirtual 159, 3) := by decide +kernel
theorem dX10_field_82 : decode cX10_field 82 = .ok (.ifCond .eq 7, 3) := by decide +kernel
theorem dX10_field_85 : decode cX10_field 85 = .ok (.iconst 1, 1) := by decide +kernel
theorem dX10_field_86 : decode cX10_field 86 = .ok (.goto 4, 3) := by decide +kernel
theorem dX10_field_89 : decode cX10_field 89 = .ok (.iconst 0, 1) := by decide +kernel
theorem dX10_field_90 : decode cX10_field 90 = .ok (.ireturn, 1) := by decide +kernel
theorem dX10_field_91 : decode cX10_field 91 = .ok (.aload_n 0, 1) := by decide +kernel
theorem dX10_field_92 : decode cX10_field 92 = .ok (.getfield 35, 3) := by decide +kernel
theorem dX10_field_95 : decode cX10_field 95 = .ok (.iload_n 1, 1) := by decide +kernel
theorem dX10_field_96 : decode cX10_field 96 = .ok (.iaload, 1) := by decide +kernel
theorem dX10_field_97 : decode cX10_field 97 = .ok (.ifCond .lt 7, 3) := by decide +kernel
theorem dX10_field_100 : decode cX10_field 100 = .ok (.iconst 1, 1) := by decide +kernel
theorem dX10_field_101 : decode cX10_field 101 = .ok (.goto 4, 3) := by decide +kernel
theorem dX10_field_104 : decode cX10_field 104 = .ok (.iconst 0, 1) := by decide +kernel
theorem dX10_field_105 : decode cX10_field 105 = .ok (.ireturn, 1) := by decide +kernel
theorem dX10_field_106 : decode cX10_field 106 = .ok (.aload_n 0, 1) := by decide +kernel
theorem dX10_field_107 : decode cX10_field 107 = .ok (.getfield 38, 3) := by decide +kernel
theorem dX10_field_110 : decode cX10_field 110 = .ok (.iload_n 1, 1) := by decide +kernel
theorem dX10_field_111 : decode cX10_field 111 = .ok (.baload, 1) := by decide +kernel
theorem dX10_field_112 : decode cX10_field 112 = .ok (.ifCond .eq 7, 3) := by decide +kernel
theorem dX10_field_115 : decode cX10_field 115 = .ok (.iconst 1, 1) := by decide +kernel
theorem dX10_field_116 : decode cX10_field 116 = .ok (.goto 4, 3) := by decide +kernel
theorem dX10_field_119 : decode cX10_field 119 = .ok (.iconst 0, 1) := by decide +kernel
theorem dX10_field_120 : decode cX10_field 120 = .ok (.ireturn, 1) := by decide +kernel
theorem dX10_field_121 : decode cX10_field 121 = .ok (.aload_n 0, 1) := by decide +kernel
theorem dX10_field_122 : decode cX10_field 122 = .ok (.getfield 41, 3) := by decide +kernel
theorem dX10_field_125 : decode cX10_field 125 = .ok (.iload_n 1, 1) := by decide +kernel
theorem dX10_field_126 : decode cX10_field 126 = .ok (.baload, 1) := by decide +kernel
theorem dX10_field_127 : decode cX10_field 127 = .ok (.ifCond .eq 7, 3) := by decide +kernel
theorem dX10_field_130 : decode cX10_field 130 = .ok (.iconst 1, 1) := by decide +kernel
theorem dX10_field_131 : decode cX10_field 131 = .ok (.goto 4, 3) := by decide +kernel
theorem dX10_field_134 : decode cX10_field 134 = .ok (.iconst 0, 1) := by decide +kernel
theorem dX10_field_135 : decode cX10_field 135 = .ok (.ireturn, 1) := by decide +kernel
theorem dX10_field_136 : decode cX10_field 136 = .ok (.aload_n 0, 1) := by decide +kernel
theorem dX10_field_137 : decode cX10_field 137 = .ok (.getfield 35, 3) := by decide +kernel
theorem dX10_field_140 : decode cX10_field 140 = .ok (.iload_n 1, 1) := by decide +kernel
theorem dX10_field_141 : decode cX10_field 141 = .ok (.iaload, 1) := by decide +kernel
theorem dX10_field_142 : decode cX10_field 142 = .ok (.ireturn, 1) := by decide +kernel
theorem dX10_field_143 : decode cX10_field 143 = .ok (.iconst (-1), 1) := by decide +kernel
theorem dX10_field_144 : decode cX10_field 144 = .ok (.ireturn, 1) := by decide +kernel
theorem dX10_hearBack_0 : decode cX10_hearBack 0 = .ok (.iconst 0, 1) := by decide +kernel
theorem dX10_hearBack_1 : decode cX10_hearBack 1 = .ok (.istore_n 1, 1) := by decide +kernel
theorem dX10_hearBack_2 : decode cX10_hearBack 2 = .ok (.iconst 0, 1) := by decide +kernel
theorem dX10_hearBack_3 : decode cX10_hearBack 3 = .ok (.istore_n 2, 1) := by decide +kernel
theorem dX10_hearBack_4 : decode cX10_hearBack 4 = .ok (.iload_n 2, 1) := by decide +kernel
theorem dX10_hearBack_5 : decode cX10_hearBack 5 = .ok (.aload_n 0, 1) := by decide +kernel
theorem dX10_hearBack_6 : decode cX10_hearBack 6 = .ok (.getfield 99, 3) := by decide +kernel
theorem dX10_hearBack_9 : decode cX10_hearBack 9 = .ok (.if_icmp .ge 48, 3) := by decide +kernel
theorem dX10_hearBack_12 : decode cX10_hearBack 12 = .ok (.aload_n 0, 1) := by decide +kernel
theorem dX10_hearBack_13 : decode cX10_hearBack 13 = .ok (.getfield 35, 3) := by decide +kernel
theorem dX10_hearBack_16 : decode cX10_hearBack 16 = .ok (.iload_n 2, 1) := by decide +kernel
theorem dX10_hearBack_17 : decode cX10_hearBack 17 = .ok (.iaload, 1) := by decide +kernel
theorem dX10_hearBack_18 : decode cX10_hearBack 18 = .ok (.ifCond .lt 33, 3) := by decide +kernel
theorem dX10_hearBack_21 : decode cX10_hearBack 21 = .ok (.aload_n 0, 1) := by decide +kernel
theorem dX10_hearBack_22 : decode cX10_hearBack 22 = .ok (.iload_n 2, 1) := by decide +kernel
theorem dX10_hearBack_23 : decode cX10_hearBack 23 = .ok (.invokevirtual 159, 3) := by decide +kernel
theorem dX10_hearBack_26 : decode cX10_hearBack 26 = .ok (.ifCond .eq 25, 3) := by decide +kernel
theorem dX10_hearBack_29 : decode cX10_hearBack 29 = .ok (.aload_n 0, 1) := by decide +kernel
theorem dX10_hearBack_30 : decode cX10_hearBack 30 = .ok (.getfield 38, 3) := by decide +kernel
theorem dX10_hearBack_33 : decode cX10_hearBack 33 = .ok (.iload_n 2, 1) := by decide +kernel
theorem dX10_hearBack_34 : decode cX10_hearBack 34 = .ok (.baload, 1) := by decide +kernel
theorem dX10_hearBack_35 : decode cX10_hearBack 35 = .ok (.ifCond .eq 6, 3) := by decide +kernel
theorem dX10_hearBack_38 : decode cX10_hearBack 38 = .ok (.goto 13, 3) := by decide +kernel
theorem dX10_hearBack_41 : decode cX10_hearBack 41 = .ok (.aload_n 0, 1) := by decide +kernel
theorem dX10_hearBack_42 : decode cX10_hearBack 42 = .ok (.getfield 38, 3) := by decide +kernel
theorem dX10_hearBack_45 : decode cX10_hearBack 45 = .ok (.iload_n 2, 1) := by decide +kernel
theorem dX10_hearBack_46 : decode cX10_hearBack 46 = .ok (.iconst 1, 1) := by decide +kernel
theorem dX10_hearBack_47 : decode cX10_hearBack 47 = .ok (.bastore, 1) := by decide +kernel
theorem dX10_hearBack_48 : decode cX10_hearBack 48 = .ok (.iinc 1 1, 3) := by decide +kernel
theorem dX10_hearBack_51 : decode cX10_hearBack 51 = .ok (.iinc 2 1, 3) := by decide +kernel
theorem dX10_hearBack_54 : decode cX10_hearBack 54 = .ok (.goto (-50), 3) := by decide +kernel
theorem dX10_hearBack_57 : decode cX10_hearBack 57 = .ok (.iload_n 1, 1) := by decide +kernel
theorem dX10_hearBack_58 : decode cX10_hearBack 58 = .ok (.ireturn, 1) := by decide +kernel
theorem dX10_send_0 : decode cX10_send 0 = .ok (.aload_n 0, 1) := by decide +kernel
theorem dX10_send_1 : decode cX10_send 1 = .ok (.getfield 165, 3) := by decide +kernel
theorem dX10_send_4 : decode cX10_send 4 = .ok (.ifCond .eq 5, 3) := by decide +kernel
theorem dX10_send_7 : decode cX10_send 7 = .ok (.iconst 0, 1) := by decide +kernel
theorem dX10_send_8 : decode cX10_send 8 = .ok (.ireturn, 1) := by decide +kernel
theorem dX10_send_9 : decode cX10_send 9 = .ok (.iconst 0, 1) := by decide +kernel
theorem dX10_send_10 : decode cX10_send 10 = .ok (.istore_n 1, 1) := by decide +kernel
theorem dX10_send_11 : decode cX10_send 11 = .ok (.iload_n 1, 1) := by decide +kernel
theorem dX10_send_12 : decode cX10_send 12 = .ok (.aload_n 0, 1) := by decide +kernel
theorem dX10_send_13 : decode cX10_send 13 = .ok (.getfield 99, 3) := by decide +kernel
theorem dX10_send_16 : decode cX10_send 16 = .ok (.if_icmp .ge 37, 3) := by decide +kernel
theorem dX10_send_19 : decode cX10_send 19 = .ok (.aload_n 0, 1) := by decide +kernel
theorem dX10_send_20 : decode cX10_send 20 = .ok (.iload_n 1, 1) := by decide +kernel
theorem dX10_send_21 : decode cX10_send 21 = .ok (.invokevirtual 159, 3) := by decide +kernel
theorem dX10_send_24 : decode cX10_send 24 = .ok (.ifCond .eq 23, 3) := by decide +kernel
theorem dX10_send_27 : decode cX10_send 27 = .ok (.aload_n 0, 1) := by decide +kernel
theorem dX10_send_28 : decode cX10_send 28 = .ok (.getfield 35, 3) := by decide +kernel
theorem dX10_send_31 : decode cX10_send 31 = .ok (.iload_n 1, 1) := by decide +kernel
theorem dX10_send_32 : decode cX10_send 32 = .ok (.iaload, 1) := by decide +kernel
theorem dX10_send_33 : decode cX10_send 33 = .ok (.ifCond .lt 12, 3) := by decide +kernel
theorem dX10_send_36 : decode cX10_send 36 = .ok (.aload_n 0, 1) := by decide +kernel
theorem dX10_send_37 : decode cX10_send 37 = .ok (.getfield 38, 3) := by decide +kernel
theorem dX10_send_40 : decode cX10_send 40 = .ok (.iload_n 1, 1) := by decide +kernel
theorem dX10_send_41 : decode cX10_send 41 = .ok (.baload, 1) := by decide +kernel
theorem dX10_send_42 : decode cX10_send 42 = .ok (.ifCond .ne 5, 3) := by decide +kernel
theorem dX10_send_45 : decode cX10_send 45 = .ok (.iconst 0, 1) := by decide +kernel
theorem dX10_send_46 : decode cX10_send 46 = .ok (.ireturn, 1) := by decide +kernel
theorem dX10_send_47 : decode cX10_send 47 = .ok (.iinc 1 1, 3) := by decide +kernel
theorem dX10_send_50 : decode cX10_send 50 = .ok (.goto (-39), 3) := by decide +kernel
theorem dX10_send_53 : decode cX10_send 53 = .ok (.aload_n 0, 1) := by decide +kernel
theorem dX10_send_54 : decode cX10_send 54 = .ok (.iconst 1, 1) := by decide +kernel
theorem dX10_send_55 : decode cX10_send 55 = .ok (.putfield 165, 3) := by decide +kernel
theorem dX10_send_58 : decode cX10_send 58 = .ok (.iconst 1, 1) := by decide +kernel
theorem dX10_send_59 : decode cX10_send 59 = .ok (.ireturn, 1) := by decide +kernel
theorem dJ9_max_7cf53_0 : decode cJ9_max_7cf53 0 = .ok (.iload_n 0, 1) := by decide +kernel
theorem dJ9_max_7cf53_1 : decode cJ9_max_7cf53 1 = .ok (.iload_n 1, 1) := by decide +kernel
theorem dJ9_max_7cf53_2 : decode cJ9_max_7cf53 2 = .ok (.if_icmp .lt 7, 3) := by decide +kernel
theorem dJ9_max_7cf53_5 : decode cJ9_max_7cf53 5 = .ok (.iload_n 0, 1) := by decide +kernel
theorem dJ9_max_7cf53_6 : decode cJ9_max_7cf53 6 = .ok (.goto 4, 3) := by decide +kernel
theorem dJ9_max_7cf53_9 : decode cJ9_max_7cf53 9 = .ok (.iload_n 1, 1) := by decide +kernel
theorem dJ9_max_7cf53_10 : decode cJ9_max_7cf53 10 = .ok (.ireturn, 1) := by decide +kernel
theorem dJ9_min_7cf53_0 : decode cJ9_min_7cf53 0 = .ok (.iload_n 0, 1) := by decide +kernel
theorem dJ9_min_7cf53_1 : decode cJ9_min_7cf53 1 = .ok (.iload_n 1, 1) := by decide +kernel
theorem dJ9_min_7cf53_2 : decode cJ9_min_7cf53 2 = .ok (.if_icmp .gt 7, 3) := by decide +kernel
theorem dJ9_min_7cf53_5 : decode cJ9_min_7cf53 5 = .ok (.iload_n 0, 1) := by decide +kernel
theorem dJ9_min_7cf53_6 : decode cJ9_min_7cf53 6 = .ok (.goto 4, 3) := by decide +kernel
theorem dJ9_min_7cf53_9 : decode cJ9_min_7cf53 9 = .ok (.iload_n 1, 1) := by decide +kernel
theorem dJ9_min_7cf53_10 : decode cJ9_min_7cf53 10 = .ok (.ireturn, 1) := by decide +kernel
theorem dJ7_fill_53178_0 : decode cJ7_fill_53178 0 = .ok (.iconst 0, 1) := by decide +kernel
theorem dJ7_fill_53178_1 : decode cJ7_fill_53178 1 = .ok (.istore_n 2, 1) := by decide +kernel
theorem dJ7_fill_53178_2 : decode cJ7_fill_53178 2 = .ok (.aload_n 0, 1) := by decide +kernel
theorem dJ7_fill_53178_3 : decode cJ7_fill_53178 3 = .ok (.arraylength, 1) := by decide +kernel
theorem dJ7_fill_53178_4 : decode cJ7_fill_53178 4 = .ok (.istore_n 3, 1) := by decide +kernel
theorem dJ7_fill_53178_5 : decode cJ7_fill_53178 5 = .ok (.iload_n 2, 1) := by decide +kernel
theorem dJ7_fill_53178_6 : decode cJ7_fill_53178 6 = .ok (.iload_n 3, 1) := by decide +kernel
theorem dJ7_fill_53178_7 : decode cJ7_fill_53178 7 = .ok (.if_icmp .ge 13, 3) := by decide +kernel
theorem dJ7_fill_53178_10 : decode cJ7_fill_53178 10 = .ok (.aload_n 0, 1) := by decide +kernel
theorem dJ7_fill_53178_11 : decode cJ7_fill_53178 11 = .ok (.iload_n 2, 1) := by decide +kernel
theorem dJ7_fill_53178_12 : decode cJ7_fill_53178 12 = .ok (.iload_n 1, 1) := by decide +kernel
theorem dJ7_fill_53178_13 : decode cJ7_fill_53178 13 = .ok (.iastore, 1) := by decide +kernel
theorem dJ7_fill_53178_14 : decode cJ7_fill_53178 14 = .ok (.iinc 2 1, 3) := by decide +kernel
theorem dJ7_fill_53178_17 : decode cJ7_fill_53178 17 = .ok (.goto (-12), 3) := by decide +kernel
theorem dJ7_fill_53178_20 : decode cJ7_fill_53178 20 = .ok (.return_, 1) := by decide +kernel
theorem dL_law_0 : decode cL_law 0 = .ok (.new 7, 3) := by decide +kernel
theorem dL_law_3 : decode cL_law 3 = .ok (.dup, 1) := by decide +kernel
theorem dL_law_4 : decode cL_law 4 = .ok (.invokespecial 9, 3) := by decide +kernel
theorem dL_law_7 : decode cL_law 7 = .ok (.astore_n 1, 1) := by decide +kernel
theorem dL_law_8 : decode cL_law 8 = .ok (.new 10, 3) := by decide +kernel
theorem dL_law_11 : decode cL_law 11 = .ok (.dup, 1) := by decide +kernel
theorem dL_law_12 : decode cL_law 12 = .ok (.invokespecial 12, 3) := by decide +kernel
theorem dL_law_15 : decode cL_law 15 = .ok (.astore_n 2, 1) := by decide +kernel
theorem dL_law_16 : decode cL_law 16 = .ok (.iconst 0, 1) := by decide +kernel
theorem dL_law_17 : decode cL_law 17 = .ok (.istore_n 3, 1) := by decide +kernel
theorem dL_law_18 : decode cL_law 18 = .ok (.iload_n 3, 1) := by decide +kernel
theorem dL_law_19 : decode cL_law 19 = .ok (.aload_n 0, 1) := by decide +kernel
theorem dL_law_20 : decode cL_law 20 = .ok (.arraylength, 1) := by decide +kernel
theorem dL_law_21 : decode cL_law 21 = .ok (.bipush 9, 2) := by decide +kernel
theorem dL_law_23 : decode cL_law 23 = .ok (.isub, 1) := by decide +kernel
theorem dL_law_24 : decode cL_law 24 = .ok (.if_icmp .gt 545, 3) := by decide +kernel
theorem dL_law_27 : decode cL_law 27 = .ok (.aload_n 0, 1) := by decide +kernel
theorem dL_law_28 : decode cL_law 28 = .ok (.iload_n 3, 1) := by decide +kernel
theorem dL_law_29 : decode cL_law 29 = .ok (.iaload, 1) := by decide +kernel
theorem dL_law_30 : decode cL_law 30 = .ok (.bipush 15, 2) := by decide +kernel
theorem dL_law_32 : decode cL_law 32 = .ok (.iand, 1) := by decide +kernel
theorem dL_law_33 : decode cL_law 33 = .ok (.tableswitch 530 0 12 #[67, 152, 267, 310, 353, 366, 399, 412, 425, 448, 471, 504, 517], 67) := by decide +kernel
theorem dL_law_100 : decode cL_law 100 = .ok (.aload_n 1, 1) := by decide +kernel
theorem dL_law_101 : decode cL_law 101 = .ok (.aload_n 0, 1) := by decide +kernel
theorem dL_law_102 : decode cL_law 102 = .ok (.iload_n 3, 1) := by decide +kernel
theorem dL_law_103 : decode cL_law 103 = .ok (.iconst 1, 1) := by decide +kernel
theorem dL_law_104 : decode cL_law 104 = .ok (.iadd, 1) := by decide +kernel
theorem dL_law_105 : decode cL_law 105 = .ok (.iaload, 1) := by decide +kernel
theorem dL_law_106 : decode cL_law 106 = .ok (.aload_n 0, 1) := by decide +kernel
theorem dL_law_107 : decode cL_law 107 = .ok (.iload_n 3, 1) := by decide +kernel
theorem dL_law_108 : decode cL_law 108 = .ok (.iconst 2, 1) := by decide +kernel
theorem dL_law_109 : decode cL_law 109 = .ok (.iadd, 1) := by decide +kernel
theorem dL_law_110 : decode cL_law 110 = .ok (.iaload, 1) := by decide +kernel
theorem dL_law_111 : decode cL_law 111 = .ok (.aload_n 0, 1) := by decide +kernel
theorem dL_law_112 : decode cL_law 112 = .ok (.iload_n 3, 1) := by decide +kernel
theorem dL_law_113 : decode cL_law 113 = .ok (.iconst 3, 1) := by decide +kernel
theorem dL_law_114 : decode cL_law 114 = .ok (.iadd, 1) := by decide +kernel
theorem dL_law_115 : decode cL_law 115 = .ok (.iaload, 1) := by decide +kernel
theorem dL_law_116 : decode cL_law 116 = .ok (.ifCond .eq 7, 3) := by decide +kernel
theorem dL_law_119 : decode cL_law 119 = .ok (.iconst 1, 1) := by decide +kernel
theorem dL_law_120 : decode cL_law 120 = .ok (.goto 4, 3) := by decide +kernel
theorem dL_law_123 : decode cL_law 123 = .ok (.iconst 0, 1) := by decide +kernel
theorem dL_law_124 : decode cL_law 124 = .ok (.aload_n 0, 1) := by decide +kernel
theorem dL_law_125 : decode cL_law 125 = .ok (.iload_n 3, 1) := by decide +kernel
theorem dL_law_126 : decode cL_law 126 = .ok (.iconst 4, 1) := by decide +kernel
theorem dL_law_127 : decode cL_law 127 = .ok (.iadd, 1) := by decide +kernel
theorem dL_law_128 : decode cL_law 128 = .ok (.iaload, 1) := by decide +kernel
theorem dL_law_129 : decode cL_law 129 = .ok (.ifCond .eq 7, 3) := by decide +kernel
theorem dL_law_132 : decode cL_law 132 = .ok (.iconst 1, 1) := by decide +kernel
theorem dL_law_133 : decode cL_law 133 = .ok (.goto 4, 3) := by decide +kernel
theorem dL_law_136 : decode cL_law 136 = .ok (.iconst 0, 1) := by decide +kernel
theorem dL_law_137 : decode cL_law 137 = .ok (.invokevirtual 13, 3) := by decide +kernel
theorem dL_law_140 : decode cL_law 140 = .ok (.aload_n 2, 1) := by decide +kernel
theorem dL_law_141 : decode cL_law 141 = .ok (.aload_n 0, 1) := by decide +kernel
theorem dL_law_142 : decode cL_law 142 = .ok (.iload_n 3, 1) := by decide +kernel
theorem dL_law_143 : decode cL_law 143 = .ok (.iconst 1, 1) := by decide +kernel
theorem dL_law_144 : decode cL_law 144 = .ok (.iadd, 1) := by decide +kernel
theorem dL_law_145 : decode cL_law 145 = .ok (.iaload, 1) := by decide +kernel
theorem dL_law_146 : decode cL_law 146 = .ok (.aload_n 0, 1) := by decide +kernel
theorem dL_law_147 : decode cL_law 147 = .ok (.iload_n 3, 1) := by decide +kernel
theorem dL_law_148 : decode cL_law 148 = .ok (.iconst 2, 1) := by decide +kernel
theorem dL_law_149 : decode cL_law 149 = .ok (.iadd, 1) := by decide +kernel
theorem dL_law_150 : decode cL_law 150 = .ok (.iaload, 1) := by decide +kernel
theorem dL_law_151 : decode cL_law 151 = .ok (.aload_n 0, 1) := by decide +kernel
theorem dL_law_152 : decode cL_law 152 = .ok (.iload_n 3, 1) := by decide +kernel
theorem dL_law_153 : decode cL_law 153 = .ok (.iconst 3, 1) := by decide +kernel
theorem dL_law_154 : decode cL_law 154 = .ok (.iadd, 1) := by decide +kernel
theorem dL_law_155 : decode cL_law 155 = .ok (.iaload, 1) := by decide +kernel
theorem dL_law_156 : decode cL_law 156 = .ok (.ifCond .eq 7, 3) := by decide +kernel
theorem dL_law_159 : decode cL_law 159 = .ok (.iconst 1, 1) := by decide +kernel
theorem dL_law_160 : decode cL_law 160 = .ok (.goto 4, 3) := by decide +kernel
theorem dL_law_163 : decode cL_law 163 = .ok (.iconst 0, 1) := by decide +kernel
theorem dL_law_164 : decode cL_law 164 = .ok (.aload_n 0, 1) := by decide +kernel
theorem dL_law_165 : decode cL_law 165 = .ok (.iload_n 3, 1) := by decide +kernel
theorem dL_law_166 : decode cL_law 166 = .ok (.iconst 4, 1) := by decide +kernel
theorem dL_law_167 : decode cL_law 167 = .ok (.iadd, 1) := by decide +kernel
theorem dL_law_168 : decode cL_law 168 = .ok (.iaload, 1) := by decide +kernel
theorem dL_law_169 : decode cL_law 169 = .ok (.ifCond .eq 7, 3) := by decide +kernel
theorem dL_law_172 : decode cL_law 172 = .ok (.iconst 1, 1) := by decide +kernel
theorem dL_law_173 : decode cL_law 173 = .ok (.goto 4, 3) := by decide +kernel
theorem dL_law_176 : decode cL_law 176 = .ok (.iconst 0, 1) := by decide +kernel
theorem dL_law_177 : decode cL_law 177 = .ok (.invokevirtual 17, 3) := by decide +kernel
theorem dL_law_180 : decode cL_law 180 = .ok (.if_icmp .eq 383, 3) := by decide +kernel
theorem dL_law_183 : decode cL_law 183 = .ok (.iconst 0, 1) := by decide +kernel
theorem dL_law_184 : decode cL_law 184 = .ok (.ireturn, 1) := by decide +kernel
theorem dL_law_185 : decode cL_law 185 = .ok (.aload_n 1, 1) := by decide +kernel
theorem dL_law_186 : decode cL_law 186 = .ok (.aload_n 0, 1) := by decide +kernel
theorem dL_law_187 : decode cL_law 187 = .ok (.iload_n 3, 1) := by decide +kernel
theorem dL_law_188 : decode cL_law 188 = .ok (.iconst 1, 1) := by decide +kernel
theorem dL_law_189 : decode cL_law 189 = .ok (.iadd, 1) := by decide +kernel
theorem dL_law_190 : decode cL_law 190 = .ok (.iaload, 1) := by decide +kernel
theorem dL_law_191 : decode cL_law 191 = .ok (.aload_n 0, 1) := by decide +kernel
theorem dL_law_192 : decode cL_law 192 = .ok (.iload_n 3, 1) := by decide +kernel
theorem dL_law_193 : decode cL_law 193 = .ok (.iconst 2, 1) := by decide +kernel
theorem dL_law_194 : decode cL_law 194 = .ok (.iadd, 1) := by decide +kernel
theorem dL_law_195 : decode cL_law 195 = .ok (.iaload, 1) := by decide +kernel
theorem dL_law_196 : decode cL_law 196 = .ok (.ifCond .eq 7, 3) := by decide +kernel
theorem dL_law_199 : decode cL_law 199 = .ok (.iconst 1, 1) := by decide +kernel
theorem dL_law_200 : decode cL_law 200 = .ok (.goto 4, 3) := by decide +kernel
theorem dL_law_203 : decode cL_law 203 = .ok (.iconst 0, 1) := by decide +kernel
theorem dL_law_204 : decode cL_law 204 = .ok (.aload_n 0, 1) := by decide +kernel
theorem dL_law_205 : decode cL_law 205 = .ok (.iload_n 3, 1) := by decide +kernel
theorem dL_law_206 : decode cL_law 206 = .ok (.iconst 3, 1) := by decide +kernel
theorem dL_law_207 : decode cL_law 207 = .ok (.iadd, 1) := by decide +kernel
theorem dL_law_208 : decode cL_law 208 = .ok (.iaload, 1) := by decide +kernel
theorem dL_law_209 : decode cL_law 209 = .ok (.aload_n 0, 1) := by decide +kernel
theorem dL_law_210 : decode cL_law 210 = .ok (.iload_n 3, 1) := by decide +kernel
theorem dL_law_211 : decode cL_law 211 = .ok (.iconst 4, 1) := by decide +kernel
theorem dL_law_212 : decode cL_law 212 = .ok (.iadd, 1) := by decide +kernel
theorem dL_law_213 : decode cL_law 213 = .ok (.iaload, 1) := by decide +kernel
theorem dL_law_214 : decode cL_law 214 = .ok (.aload_n 0, 1) := by decide +kernel
theorem dL_law_215 : decode cL_law 215 = .ok (.iload_n 3, 1) := by decide +kernel
theorem dL_law_216 : decode cL_law 216 = .ok (.iconst 5, 1) := by decide +kernel
theorem dL_law_217 : decode cL_law 217 = .ok (.iadd, 1) := by decide +kernel
theorem dL_law_218 : decode cL_law 218 = .ok (.iaload, 1) := by decide +kernel
theorem dL_law_219 : decode cL_law 219 = .ok (.aload_n 0, 1) := by decide +kernel
theorem dL_law_220 : decode cL_law 220 = .ok (.iload_n 3, 1) := by decide +kernel
theorem dL_law_221 : decode cL_law 221 = .ok (.bipush 6, 2) := by decide +kernel
theorem dL_law_223 : decode cL_law 223 = .ok (.iadd, 1) := by decide +kernel
theorem dL_law_224 : decode cL_law 224 = .ok (.iaload, 1) := by decide +kernel
theorem dL_law_225 : decode cL_law 225 = .ok (.aload_n 0, 1) := by decide +kernel
theorem dL_law_226 : decode cL_law 226 = .ok (.iload_n 3, 1) := by decide +kernel
theorem dL_law_227 : decode cL_law 227 = .ok (.bipush 7, 2) := by decide +kernel
theorem dL_law_229 : decode cL_law 229 = .ok (.iadd, 1) := by decide +kernel
theorem dL_law_230 : decode cL_law 230 = .ok (.iaload, 1) := by decide +kernel
theorem dL_law_231 : decode cL_law 231 = .ok (.aload_n 0, 1) := by decide +kernel
theorem dL_law_232 : decode cL_law 232 = .ok (.iload_n 3, 1) := by decide +kernel
theorem dL_law_233 : decode cL_law 233 = .ok (.bipush 8, 2) := by decide +kernel
theorem dL_law_235 : decode cL_law 235 = .ok (.iadd, 1) := by decide +kernel
theorem dL_law_236 : decode cL_law 236 = .ok (.iaload, 1) := by decide +kernel
theorem dL_law_237 : decode cL_law 237 = .ok (.invokevirtual 18, 3) := by decide +kernel
theorem dL_law_240 : decode cL_law 240 = .ok (.aload_n 2, 1) := by decide +kernel
theorem dL_law_241 : decode cL_law 241 = .ok (.aload_n 0, 1) := by decide +kernel
theorem dL_law_242 : decode cL_law 242 = .ok (.iload_n 3, 1) := by decide +kernel
theorem dL_law_243 : decode cL_law 243 = .ok (.iconst 1, 1) := by decide +kernel
theorem dL_law_244 : decode cL_law 244 = .ok (.iadd, 1) := by decide +kernel
theorem dL_law_245 : decode cL_law 245 = .ok (.iaload, 1) := by decide +kernel
theorem dL_law_246 : decode cL_law 246 = .ok (.aload_n 0, 1) := by decide +kernel
theorem dL_law_247 : decode cL_law 247 = .ok (.iload_n 3, 1) := by decide +kernel
theorem dL_law_248 : decode cL_law 248 = .ok (.iconst 2, 1) := by decide +kernel
theorem dL_law_249 : decode cL_law 249 = .ok (.iadd, 1) := by decide +kernel
theorem dL_law_250 : decode cL_law 250 = .ok (.iaload, 1) := by decide +kernel
theorem dL_law_251 : decode cL_law 251 = .ok (.ifCond .eq 7, 3) := by decide +kernel
theorem dL_law_254 : decode cL_law 254 = .ok (.iconst 1, 1) := by decide +kernel
theorem dL_law_255 : decode cL_law 255 = .ok (.goto 4, 3) := by decide +kernel
theorem dL_law_258 : decode cL_law 258 = .ok (.iconst 0, 1) := by decide +kernel
theorem dL_law_259 : decode cL_law 259 = .ok (.aload_n 0, 1) := by decide +kernel
theorem dL_law_260 : decode cL_law 260 = .ok (.iload_n 3, 1) := by decide +kernel
theorem dL_law_261 : decode cL_law 261 = .ok (.iconst 3, 1) := by decide +kernel
theorem dL_law_262 : decode cL_law 262 = .ok (.iadd, 1) := by decide +kernel
theorem dL_law_263 : decode cL_law 263 = .ok (.iaload, 1) := by decide +kernel
theorem dL_law_264 : decode cL_law 264 = .ok (.aload_n 0, 1) := by decide +kernel
theorem dL_law_265 : decode cL_law 265 = .ok (.iload_n 3, 1) := by decide +kernel
theorem dL_law_266 : decode cL_law 266 = .ok (.iconst 4, 1) := by decide +kernel
theorem dL_law_267 : decode cL_law 267 = .ok (.iadd, 1) := by decide +kernel
theorem dL_law_268 : decode cL_law 268 = .ok (.iaload, 1) := by decide +kernel
theorem dL_law_269 : decode cL_law 269 = .ok (.aload_n 0, 1) := by decide +kernel
theorem dL_law_270 : decode cL_law 270 = .ok (.iload_n 3, 1) := by decide +kernel
theorem dL_law_271 : decode cL_law 271 = .ok (.iconst 5, 1) := by decide +kernel
theorem dL_law_272 : decode cL_law 272 = .ok (.iadd, 1) := by decide +kernel
theorem dL_law_273 : decode cL_law 273 = .ok (.iaload, 1) := by decide +kernel
theorem dL_law_274 : decode cL_law 274 = .ok (.aload_n 0, 1) := by decide +kernel
theorem dL_law_275 : decode cL_law 275 = .ok (.iload_n 3, 1) := by decide +kernel
theorem dL_law_276 : decode cL_law 276 = .ok (.bipush 6, 2) := by decide +kernel
theorem dL_law_278 : decode cL_law 278 = .ok (.iadd, 1) := by decide +kernel
theorem dL_law_279 : decode cL_law 279 = .ok (.iaload, 1) := by decide +kernel
theorem dL_law_280 : decode cL_law 280 = .ok (.aload_n 0, 1) := by decide +kernel
theorem dL_law_281 : decode cL_law 281 = .ok (.iload_n 3, 1) := by decide +kernel
theorem dL_law_282 : decode cL_law 282 = .ok (.bipush 7, 2) := by decide +kernel
theorem dL_law_284 : decode cL_law 284 = .ok (.iadd, 1) := by decide +kernel
theorem dL_law_285 : decode cL_law 285 = .ok (.iaload, 1) := by decide +kernel
theorem dL_law_286 : decode cL_law 286 = .ok (.aload_n 0, 1) := by decide +kernel
theorem dL_law_287 : decode cL_law 287 = .ok (.iload_n 3, 1) := by decide +kernel
theorem dL_law_288 : decode cL_law 288 = .ok (.bipush 8, 2) := by decide +kernel
theorem dL_law_290 : decode cL_law 290 = .ok (.iadd, 1) := by decide +kernel
theorem dL_law_291 : decode cL_law 291 = .ok (.iaload, 1) := by decide +kernel
theorem dL_law_292 : decode cL_law 292 = .ok (.invokevirtual 22, 3) := by decide +kernel
theorem dL_law_295 : decode cL_law 295 = .ok (.if_icmp .eq 268, 3) := by decide +kernel
theorem dL_law_298 : decode cL_law 298 = .ok (.iconst 0, 1) := by decide +kernel
theorem dL_law_299 : decode cL_law 299 = .ok (.ireturn, 1) := by decide +kernel
theorem dL_law_300 : decode cL_law 300 = .ok (.aload_n 1, 1) := by decide +kernel
theorem dL_law_301 : decode cL_law 301 = .ok (.aload_n 0, 1) := by decide +kernel
theorem dL_law_302 : decode cL_law 302 = .ok (.iload_n 3, 1) := by decide +kernel
theorem dL_law_303 : decode cL_law 303 = .ok (.iconst 1, 1) := by decide +kernel
theorem dL_law_304 : decode cL_law 304 = .ok (.iadd, 1) := by decide +kernel
theorem dL_law_305 : decode cL_law 305 = .ok (.iaload, 1) := by decide +kernel
theorem dL_law_306 : decode cL_law 306 = .ok (.aload_n 0, 1) := by decide +kernel
theorem dL_law_307 : decode cL_law 307 = .ok (.iload_n 3, 1) := by decide +kernel
theorem dL_law_308 : decode cL_law 308 = .ok (.iconst 2, 1) := by decide +kernel
theorem dL_law_309 : decode cL_law 309 = .ok (.iadd, 1) := by decide +kernel
theorem dL_law_310 : decode cL_law 310 = .ok (.iaload, 1) := by decide +kernel
theorem dL_law_311 : decode cL_law 311 = .ok (.aload_n 0, 1) := by decide +kernel
theorem dL_law_312 : decode cL_law 312 = .ok (.iload_n 3, 1) := by decide +kernel
theorem dL_law_313 : decode cL_law 313 = .ok (.iconst 3, 1) := by decide +kernel
theorem dL_law_314 : decode cL_law 314 = .ok (.iadd, 1) := by decide +kernel
theorem dL_law_315 : decode cL_law 315 = .ok (.iaload, 1) := by decide +kernel
theorem dL_law_316 : decode cL_law 316 = .ok (.invokevirtual 23, 3) := by decide +kernel
theorem dL_law_319 : decode cL_law 319 = .ok (.aload_n 2, 1) := by decide +kernel
theorem dL_law_320 : decode cL_law 320 = .ok (.aload_n 0, 1) := by decide +kernel
theorem dL_law_321 : decode cL_law 321 = .ok (.iload_n 3, 1) := by decide +kernel
theorem dL_law_322 : decode cL_law 322 = .ok (.iconst 1, 1) := by decide +kernel
theorem dL_law_323 : decode cL_law 323 = .ok (.iadd, 1) := by decide +kernel
theorem dL_law_324 : decode cL_law 324 = .ok (.iaload, 1) := by decide +kernel
theorem dL_law_325 : decode cL_law 325 = .ok (.aload_n 0, 1) := by decide +kernel
theorem dL_law_326 : decode cL_law 326 = .ok (.iload_n 3, 1) := by decide +kernel
theorem dL_law_327 : decode cL_law 327 = .ok (.iconst 2, 1) := by decide +kernel
theorem dL_law_328 : decode cL_law 328 = .ok (.iadd, 1) := by decide +kernel
theorem dL_law_329 : decode cL_law 329 = .ok (.iaload, 1) := by decide +kernel
theorem dL_law_330 : decode cL_law 330 = .ok (.aload_n 0, 1) := by decide +kernel
theorem dL_law_331 : decode cL_law 331 = .ok (.iload_n 3, 1) := by decide +kernel
theorem dL_law_332 : decode cL_law 332 = .ok (.iconst 3, 1) := by decide +kernel
theorem dL_law_333 : decode cL_law 333 = .ok (.iadd, 1) := by decide +kernel
theorem dL_law_334 : decode cL_law 334 = .ok (.iaload, 1) := by decide +kernel
theorem dL_law_335 : decode cL_law 335 = .ok (.invokevirtual 27, 3) := by decide +kernel
theorem dL_law_338 : decode cL_law 338 = .ok (.if_icmp .eq 225, 3) := by decide +kernel
theorem dL_law_341 : decode cL_law 341 = .ok (.iconst 0, 1) := by decide +kernel
theorem dL_law_342 : decode cL_law 342 = .ok (.ireturn, 1) := by decide +kernel
theorem dL_law_343 : decode cL_law 343 = .ok (.aload_n 1, 1) := by decide +kernel
theorem dL_law_344 : decode cL_law 344 = .ok (.aload_n 0, 1) := by decide +kernel
theorem dL_law_345 : decode cL_law 345 = .ok (.iload_n 3, 1) := by decide +kernel
theorem dL_law_346 : decode cL_law 346 = .ok (.iconst 1, 1) := by decide +kernel
theorem dL_law_347 : decode cL_law 347 = .ok (.iadd, 1) := by decide +kernel
theorem dL_law_348 : decode cL_law 348 = .ok (.iaload, 1) := by decide +kernel
theorem dL_law_349 : decode cL_law 349 = .ok (.aload_n 0, 1) := by decide +kernel
theorem dL_law_350 : decode cL_law 350 = .ok (.iload_n 3, 1) := by decide +kernel
theorem dL_law_351 : decode cL_law 351 = .ok (.iconst 2, 1) := by decide +kernel
theorem dL_law_352 : decode cL_law 352 = .ok (.iadd, 1) := by decide +kernel
theorem dL_law_353 : decode cL_law 353 = .ok (.iaload, 1) := by decide +kernel
theorem dL_law_354 : decode cL_law 354 = .ok (.aload_n 0, 1) := by decide +kernel
theorem dL_law_355 : decode cL_law 355 = .ok (.iload_n 3, 1) := by decide +kernel
theorem dL_law_356 : decode cL_law 356 = .ok (.iconst 3, 1) := by decide +kernel
theorem dL_law_357 : decode cL_law 357 = .ok (.iadd, 1) := by decide +kernel
theorem dL_law_358 : decode cL_law 358 = .ok (.iaload, 1) := by decide +kernel
theorem dL_law_359 : decode cL_law 359 = .ok (.invokevirtual 28, 3) := by decide +kernel
theorem dL_law_362 : decode cL_law 362 = .ok (.aload_n 2, 1) := by decide +kernel
theorem dL_law_363 : decode cL_law 363 = .ok (.aload_n 0, 1) := by decide +kernel
theorem dL_law_364 : decode cL_law 364 = .ok (.iload_n 3, 1) := by decide +kernel
theorem dL_law_365 : decode cL_law 365 = .ok (.iconst 1, 1) := by decide +kernel
theorem dL_law_366 : decode cL_law 366 = .ok (.iadd, 1) := by decide +kernel
theorem dL_law_367 : decode cL_law 367 = .ok (.iaload, 1) := by decide +kernel
theorem dL_law_368 : decode cL_law 368 = .ok (.aload_n 0, 1) := by decide +kernel
theorem dL_law_369 : decode cL_law 369 = .ok (.iload_n 3, 1) := by decide +kernel
theorem dL_law_370 : decode cL_law 370 = .ok (.iconst 2, 1) := by decide +kernel
theorem dL_law_371 : decode cL_law 371 = .ok (.iadd, 1) := by decide +kernel
theorem dL_law_372 : decode cL_law 372 = .ok (.iaload, 1) := by decide +kernel
theorem dL_law_373 : decode cL_law 373 = .ok (.aload_n 0, 1) := by decide +kernel
theorem dL_law_374 : decode cL_law 374 = .ok (.iload_n 3, 1) := by decide +kernel
theorem dL_law_375 : decode cL_law 375 = .ok (.iconst 3, 1) := by decide +kernel
theorem dL_law_376 : decode cL_law 376 = .ok (.iadd, 1) := by decide +kernel
theorem dL_law_377 : decode cL_law 377 = .ok (.iaload, 1) := by decide +kernel
theorem dL_law_378 : decode cL_law 378 = .ok (.invokevirtual 31, 3) := by decide +kernel
theorem dL_law_381 : decode cL_law 381 = .ok (.if_icmp .eq 182, 3) := by decide +kernel
theorem dL_law_384 : decode cL_law 384 = .ok (.iconst 0, 1) := by decide +kernel
theorem dL_law_385 : decode cL_law 385 = .ok (.ireturn, 1) := by decide +kernel
theorem dL_law_386 : decode cL_law 386 = .ok (.aload_n 1, 1) := by decide +kernel
theorem dL_law_387 : decode cL_law 387 = .ok (.invokevirtual 32, 3) := by decide +kernel
theorem dL_law_390 : decode cL_law 390 = .ok (.aload_n 2, 1) := by decide +kernel
theorem dL_law_391 : decode cL_law 391 = .ok (.invokevirtual 36, 3) := by decide +kernel
theorem dL_law_394 : decode cL_law 394 = .ok (.if_icmp .eq 169, 3) := by decide +kernel
theorem dL_law_397 : decode cL_law 397 = .ok (.iconst 0, 1) := by decide +kernel
theorem dL_law_398 : decode cL_law 398 = .ok (.ireturn, 1) := by decide +kernel
theorem dL_law_399 : decode cL_law 399 = .ok (.aload_n 1, 1) := by decide +kernel
theorem dL_law_400 : decode cL_law 400 = .ok (.aload_n 0, 1) := by decide +kernel
theorem dL_law_401 : decode cL_law 401 = .ok (.iload_n 3, 1) := by decide +kernel
theorem dL_law_402 : decode cL_law 402 = .ok (.iconst 1, 1) := by decide +kernel
theorem dL_law_403 : decode cL_law 403 = .ok (.iadd, 1) := by decide +kernel
theorem dL_law_404 : decode cL_law 404 = .ok (.iaload, 1) := by decide +kernel
theorem dL_law_405 : decode cL_law 405 = .ok (.aload_n 0, 1) := by decide +kernel
theorem dL_law_406 : decode cL_law 406 = .ok (.iload_n 3, 1) := by decide +kernel
theorem dL_law_407 : decode cL_law 407 = .ok (.iconst 2, 1) := by decide +kernel
theorem dL_law_408 : decode cL_law 408 = .ok (.iadd, 1) := by decide +kernel
theorem dL_law_409 : decode cL_law 409 = .ok (.iaload, 1) := by decide +kernel
theorem dL_law_410 : decode cL_law 410 = .ok (.invokevirtual 37, 3) := by decide +kernel
theorem dL_law_413 : decode cL_law 413 = .ok (.aload_n 2, 1) := by decide +kernel
theorem dL_law_414 : decode cL_law 414 = .ok (.aload_n 0, 1) := by decide +kernel
theorem dL_law_415 : decode cL_law 415 = .ok (.iload_n 3, 1) := by decide +kernel
theorem dL_law_416 : decode cL_law 416 = .ok (.iconst 1, 1) := by decide +kernel
theorem dL_law_417 : decode cL_law 417 = .ok (.iadd, 1) := by decide +kernel
theorem dL_law_418 : decode cL_law 418 = .ok (.iaload, 1) := by decide +kernel
theorem dL_law_419 : decode cL_law 419 = .ok (.aload_n 0, 1) := by decide +kernel
theorem dL_law_420 : decode cL_law 420 = .ok (.iload_n 3, 1) := by decide +kernel
theorem dL_law_421 : decode cL_law 421 = .ok (.iconst 2, 1) := by decide +kernel
theorem dL_law_422 : decode cL_law 422 = .ok (.iadd, 1) := by decide +kernel
theorem dL_law_423 : decode cL_law 423 = .ok (.iaload, 1) := by decide +kernel
theorem dL_law_424 : decode cL_law 424 = .ok (.invokevirtual 41, 3) := by decide +kernel
theorem dL_law_427 : decode cL_law 427 = .ok (.if_icmp .eq 136, 3) := by decide +kernel
theorem dL_law_430 : decode cL_law 430 = .ok (.iconst 0, 1) := by decide +kernel
theorem dL_law_431 : decode cL_law 431 = .ok (.ireturn, 1) := by decide +kernel
theorem dL_law_432 : decode cL_law 432 = .ok (.aload_n 1, 1) := by decide +kernel
theorem dL_law_433 : decode cL_law 433 = .ok (.invokevirtual 42, 3) := by decide +kernel
theorem dL_law_436 : decode cL_law 436 = .ok (.aload_n 2, 1) := by decide +kernel
theorem dL_law_437 : decode cL_law 437 = .ok (.invokevirtual 45, 3) := by decide +kernel
theorem dL_law_440 : decode cL_law 440 = .ok (.if_icmp .eq 123, 3) := by decide +kernel
theorem dL_law_443 : decode cL_law 443 = .ok (.iconst 0, 1) := by decide +kernel
theorem dL_law_444 : decode cL_law 444 = .ok (.ireturn, 1) := by decide +kernel
theorem dL_law_445 : decode cL_law 445 = .ok (.aload_n 1, 1) := by decide +kernel
theorem dL_law_446 : decode cL_law 446 = .ok (.invokevirtual 46, 3) := by decide +kernel
theorem dL_law_449 : decode cL_law 449 = .ok (.aload_n 2, 1) := by decide +kernel
theorem dL_law_450 : decode cL_law 450 = .ok (.invokevirtual 50, 3) := by decide +kernel
theorem dL_law_453 : decode cL_law 453 = .ok (.if_icmp .eq 110, 3) := by decide +kernel
theorem dL_law_456 : decode cL_law 456 = .ok (.iconst 0, 1) := by decide +kernel
theorem dL_law_457 : decode cL_law 457 = .ok (.ireturn, 1) := by decide +kernel
theorem dL_law_458 : decode cL_law 458 = .ok (.aload_n 1, 1) := by decide +kernel
theorem dL_law_459 : decode cL_law 459 = .ok (.aload_n 0, 1) := by decide +kernel
theorem dL_law_460 : decode cL_law 460 = .ok (.iload_n 3, 1) := by decide +kernel
theorem dL_law_461 : decode cL_law 461 = .ok (.iconst 1, 1) := by decide +kernel
theorem dL_law_462 : decode cL_law 462 = .ok (.iadd, 1) := by decide +kernel
theorem dL_law_463 : decode cL_law 463 = .ok (.iaload, 1) := by decide +kernel
theorem dL_law_464 : decode cL_law 464 = .ok (.invokevirtual 51, 3) := by decide +kernel
theorem dL_law_467 : decode cL_law 467 = .ok (.aload_n 2, 1) := by decide +kernel
theorem dL_law_468 : decode cL_law 468 = .ok (.aload_n 0, 1) := by decide +kernel
theorem dL_law_469 : decode cL_law 469 = .ok (.iload_n 3, 1) := by decide +kernel
theorem dL_law_470 : decode cL_law 470 = .ok (.iconst 1, 1) := by decide +kernel
theorem dL_law_471 : decode cL_law 471 = .ok (.iadd, 1) := by decide +kernel
theorem dL_law_472 : decode cL_law 472 = .ok (.iaload, 1) := by decide +kernel
theorem dL_law_473 : decode cL_law 473 = .ok (.invokevirtual 55, 3) := by decide +kernel
theorem dL_law_476 : decode cL_law 476 = .ok (.if_icmp .eq 87, 3) := by decide +kernel
theorem dL_law_479 : decode cL_law 479 = .ok (.iconst 0, 1) := by decide +kernel
theorem dL_law_480 : decode cL_law 480 = .ok (.ireturn, 1) := by decide +kernel
theorem dL_law_481 : decode cL_law 481 = .ok (.aload_n 1, 1) := by decide +kernel
theorem dL_law_482 : decode cL_law 482 = .ok (.aload_n 0, 1) := by decide +kernel
theorem dL_law_483 : decode cL_law 483 = .ok (.iload_n 3, 1) := by decide +kernel
theorem dL_law_484 : decode cL_law 484 = .ok (.iconst 1, 1) := by decide +kernel
theorem dL_law_485 : decode cL_law 485 = .ok (.iadd, 1) := by decide +kernel
theorem dL_law_486 : decode cL_law 486 = .ok (.iaload, 1) := by decide +kernel
theorem dL_law_487 : decode cL_law 487 = .ok (.invokevirtual 56, 3) := by decide +kernel
theorem dL_law_490 : decode cL_law 490 = .ok (.aload_n 2, 1) := by decide +kernel
theorem dL_law_491 : decode cL_law 491 = .ok (.aload_n 0, 1) := by decide +kernel
theorem dL_law_492 : decode cL_law 492 = .ok (.iload_n 3, 1) := by decide +kernel
theorem dL_law_493 : decode cL_law 493 = .ok (.iconst 1, 1) := by decide +kernel
theorem dL_law_494 : decode cL_law 494 = .ok (.iadd, 1) := by decide +kernel
theorem dL_law_495 : decode cL_law 495 = .ok (.iaload, 1) := by decide +kernel
theorem dL_law_496 : decode cL_law 496 = .ok (.invokevirtual 59, 3) := by decide +kernel
theorem dL_law_499 : decode cL_law 499 = .ok (.if_icmp .eq 64, 3) := by decide +kernel
theorem dL_law_502 : decode cL_law 502 = .ok (.iconst 0, 1) := by decide +kernel
theorem dL_law_503 : decode cL_law 503 = .ok (.ireturn, 1) := by decide +kernel
theorem dL_law_504 : decode cL_law 504 = .ok (.aload_n 1, 1) := by decide +kernel
theorem dL_law_505 : decode cL_law 505 = .ok (.aload_n 0, 1) := by decide +kernel
theorem dL_law_506 : decode cL_law 506 = .ok (.iload_n 3, 1) := by decide +kernel
theorem dL_law_507 : decode cL_law 507 = .ok (.iconst 1, 1) := by decide +kernel
theorem dL_law_508 : decode cL_law 508 = .ok (.iadd, 1) := by decide +kernel
theorem dL_law_509 : decode cL_law 509 = .ok (.iaload, 1) := by decide +kernel
theorem dL_law_510 : decode cL_law 510 = .ok (.aload_n 0, 1) := by decide +kernel
theorem dL_law_511 : decode cL_law 511 = .ok (.iload_n 3, 1) := by decide +kernel
theorem dL_law_512 : decode cL_law 512 = .ok (.iconst 2, 1) := by decide +kernel
theorem dL_law_513 : decode cL_law 513 = .ok (.iadd, 1) := by decide +kernel
theorem dL_law_514 : decode cL_law 514 = .ok (.iaload, 1) := by decide +kernel
theorem dL_law_515 : decode cL_law 515 = .ok (.invokevirtual 60, 3) := by decide +kernel
theorem dL_law_518 : decode cL_law 518 = .ok (.aload_n 2, 1) := by decide +kernel
theorem dL_law_519 : decode cL_law 519 = .ok (.aload_n 0, 1) := by decide +kernel
theorem dL_law_520 : decode cL_law 520 = .ok (.iload_n 3, 1) := by decide +kernel
theorem dL_law_521 : decode cL_law 521 = .ok (.iconst 1, 1) := by decide +kernel
theorem dL_law_522 : decode cL_law 522 = .ok (.iadd, 1) := by decide +kernel
theorem dL_law_523 : decode cL_law 523 = .ok (.iaload, 1) := by decide +kernel
theorem dL_law_524 : decode cL_law 524 = .ok (.aload_n 0, 1) := by decide +kernel
theorem dL_law_525 : decode cL_law 525 = .ok (.iload_n 3, 1) := by decide +kernel
theorem dL_law_526 : decode cL_law 526 = .ok (.iconst 2, 1) := by decide +kernel
theorem dL_law_527 : decode cL_law 527 = .ok (.iadd, 1) := by decide +kernel
theorem dL_law_528 : decode cL_law 528 = .ok (.iaload, 1) := by decide +kernel
theorem dL_law_529 : decode cL_law 529 = .ok (.invokevirtual 63, 3) := by decide +kernel
theorem dL_law_532 : decode cL_law 532 = .ok (.if_icmp .eq 31, 3) := by decide +kernel
theorem dL_law_535 : decode cL_law 535 = .ok (.iconst 0, 1) := by decide +kernel
theorem dL_law_536 : decode cL_law 536 = .ok (.ireturn, 1) := by decide +kernel
theorem dL_law_537 : decode cL_law 537 = .ok (.aload_n 1, 1) := by decide +kernel
theorem dL_law_538 : decode cL_law 538 = .ok (.invokevirtual 64, 3) := by decide +kernel
theorem dL_law_541 : decode cL_law 541 = .ok (.aload_n 2, 1) := by decide +kernel
theorem dL_law_542 : decode cL_law 542 = .ok (.invokevirtual 67, 3) := by decide +kernel
theorem dL_law_545 : decode cL_law 545 = .ok (.if_icmp .eq 18, 3) := by decide +kernel
theorem dL_law_548 : decode cL_law 548 = .ok (.iconst 0, 1) := by decide +kernel
theorem dL_law_549 : decode cL_law 549 = .ok (.ireturn, 1) := by decide +kernel
theorem dL_law_550 : decode cL_law 550 = .ok (.aload_n 1, 1) := by decide +kernel
theorem dL_law_551 : decode cL_law 551 = .ok (.invokevirtual 68, 3) := by decide +kernel
theorem dL_law_554 : decode cL_law 554 = .ok (.aload_n 2, 1) := by decide +kernel
theorem dL_law_555 : decode cL_law 555 = .ok (.invokevirtual 71, 3) := by decide +kernel
theorem dL_law_558 : decode cL_law 558 = .ok (.if_icmp .eq 5, 3) := by decide +kernel
theorem dL_law_561 : decode cL_law 561 = .ok (.iconst 0, 1) := by decide +kernel
theorem dL_law_562 : decode cL_law 562 = .ok (.ireturn, 1) := by decide +kernel
theorem dL_law_563 : decode cL_law 563 = .ok (.iinc 3 9, 3) := by decide +kernel
theorem dL_law_566 : decode cL_law 566 = .ok (.goto (-548), 3) := by decide +kernel
theorem dL_law_569 : decode cL_law 569 = .ok (.iconst 1, 1) := by decide +kernel
theorem dL_law_570 : decode cL_law 570 = .ok (.ireturn, 1) := by decide +kernel
end
