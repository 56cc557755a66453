section
-- ===== PART A: goes FIRST, ahead of the names: the tables' words, and 'selects' of the private methods out of them =====
/-- a private method of a class that the tables say can be made, by its rows of tables_1 -/
def lw_okq (q : MethodName × Nat) : Prop := (q.1.cls ≠ "java/lang/invoke/MethodHandle" ∧ q.1.cls ≠ "java/lang/invoke/VarHandle") ∧ Cond.instantiable q.1.cls q.2 ∈ tables_1 ∧ Cond.privateMethod q.1 ∈ tables_1 ∧ Cond.instanceMethod q.1 ∈ tables_1
theorem lw_p0 : lw_okq (⟨"java/lang/Throwable", "fillInStackTrace", "(I)Ljava/lang/Throwable;"⟩, 6) := ⟨⟨by decide +kernel, by decide +kernel⟩, List.mem_of_getElem? (i := 298) (by decide +kernel), List.mem_of_getElem? (i := 296) (by decide +kernel), List.mem_of_getElem? (i := 297) (by decide +kernel)⟩
theorem lw_p1 : lw_okq (⟨"TrustedUpdates$Document", "readSigned", "()V"⟩, 15) := ⟨⟨by decide +kernel, by decide +kernel⟩, List.mem_of_getElem? (i := 39) (by decide +kernel), List.mem_of_getElem? (i := 341) (by decide +kernel), List.mem_of_getElem? (i := 342) (by decide +kernel)⟩
theorem lw_p2 : lw_okq (⟨"TrustedUpdates$Document", "next", "(II)I"⟩, 15) := ⟨⟨by decide +kernel, by decide +kernel⟩, List.mem_of_getElem? (i := 39) (by decide +kernel), List.mem_of_getElem? (i := 345) (by decide +kernel), List.mem_of_getElem? (i := 346) (by decide +kernel)⟩
theorem lw_p3 : lw_okq (⟨"TrustedUpdates$Document", "readRootKeySets", "()V"⟩, 15) := ⟨⟨by decide +kernel, by decide +kernel⟩, List.mem_of_getElem? (i := 39) (by decide +kernel), List.mem_of_getElem? (i := 350) (by decide +kernel), List.mem_of_getElem? (i := 351) (by decide +kernel)⟩
theorem lw_p4 : lw_okq (⟨"TrustedUpdates$Document", "readKeySet", "()V"⟩, 15) := ⟨⟨by decide +kernel, by decide +kernel⟩, List.mem_of_getElem? (i := 39) (by decide +kernel), List.mem_of_getElem? (i := 354) (by decide +kernel), List.mem_of_getElem? (i := 355) (by decide +kernel)⟩
theorem lw_p5 : lw_okq (⟨"TrustedUpdates$Document", "skip", "(I)V"⟩, 15) := ⟨⟨by decide +kernel, by decide +kernel⟩, List.mem_of_getElem? (i := 39) (by decide +kernel), List.mem_of_getElem? (i := 358) (by decide +kernel), List.mem_of_getElem? (i := 359) (by decide +kernel)⟩
theorem lw_p6 : lw_okq (⟨"TrustedUpdates$Document", "readEntries", "()V"⟩, 15) := ⟨⟨by decide +kernel, by decide +kernel⟩, List.mem_of_getElem? (i := 39) (by decide +kernel), List.mem_of_getElem? (i := 362) (by decide +kernel), List.mem_of_getElem? (i := 363) (by decide +kernel)⟩
theorem lw_p7 : lw_okq (⟨"TrustedUpdates$Document", "readTargets", "()V"⟩, 15) := ⟨⟨by decide +kernel, by decide +kernel⟩, List.mem_of_getElem? (i := 39) (by decide +kernel), List.mem_of_getElem? (i := 366) (by decide +kernel), List.mem_of_getElem? (i := 367) (by decide +kernel)⟩
theorem lw_p8 : lw_okq (⟨"TrustedUpdates$Document", "readLetters", "(II)V"⟩, 15) := ⟨⟨by decide +kernel, by decide +kernel⟩, List.mem_of_getElem? (i := 39) (by decide +kernel), List.mem_of_getElem? (i := 370) (by decide +kernel), List.mem_of_getElem? (i := 371) (by decide +kernel)⟩
theorem lw_p9 : lw_okq (⟨"TrustedUpdates$Document", "isNamedAsEarlier", "(I)Z"⟩, 15) := ⟨⟨by decide +kernel, by decide +kernel⟩, List.mem_of_getElem? (i := 39) (by decide +kernel), List.mem_of_getElem? (i := 374) (by decide +kernel), List.mem_of_getElem? (i := 375) (by decide +kernel)⟩
theorem lw_p10 : lw_okq (⟨"TrustedUpdates$Document", "readDelegations", "()V"⟩, 15) := ⟨⟨by decide +kernel, by decide +kernel⟩, List.mem_of_getElem? (i := 39) (by decide +kernel), List.mem_of_getElem? (i := 383) (by decide +kernel), List.mem_of_getElem? (i := 384) (by decide +kernel)⟩
theorem lw_p11 : lw_okq (⟨"TrustedUpdates$Document", "readSignatures", "()V"⟩, 15) := ⟨⟨by decide +kernel, by decide +kernel⟩, List.mem_of_getElem? (i := 39) (by decide +kernel), List.mem_of_getElem? (i := 388) (by decide +kernel), List.mem_of_getElem? (i := 389) (by decide +kernel)⟩
theorem lw_p12 : lw_okq (⟨"TrustedUpdates$Trust", "isInForce", "(I)Z"⟩, 3) := ⟨⟨by decide +kernel, by decide +kernel⟩, List.mem_of_getElem? (i := 93) (by decide +kernel), List.mem_of_getElem? (i := 497) (by decide +kernel), List.mem_of_getElem? (i := 498) (by decide +kernel)⟩
theorem lw_p13 : lw_okq (⟨"TrustedUpdates$Document", "hasSignatureOf", "(I)Z"⟩, 15) := ⟨⟨by decide +kernel, by decide +kernel⟩, List.mem_of_getElem? (i := 39) (by decide +kernel), List.mem_of_getElem? (i := 526) (by decide +kernel), List.mem_of_getElem? (i := 527) (by decide +kernel)⟩
theorem lw_p14 : lw_okq (⟨"TrustedUpdates$Trust", "isNoOlderStamp", "(LTrustedUpdates$Document;)Z"⟩, 3) := ⟨⟨by decide +kernel, by decide +kernel⟩, List.mem_of_getElem? (i := 93) (by decide +kernel), List.mem_of_getElem? (i := 559) (by decide +kernel), List.mem_of_getElem? (i := 560) (by decide +kernel)⟩
theorem lw_p15 : lw_okq (⟨"TrustedUpdates$Trust", "isAsStamped", "(LTrustedUpdates$Document;)Z"⟩, 3) := ⟨⟨by decide +kernel, by decide +kernel⟩, List.mem_of_getElem? (i := 93) (by decide +kernel), List.mem_of_getElem? (i := 567) (by decide +kernel), List.mem_of_getElem? (i := 568) (by decide +kernel)⟩
def lw_privs_1 : List (MethodName × Nat) := [(⟨"java/lang/Throwable", "fillInStackTrace", "(I)Ljava/lang/Throwable;"⟩, 6), (⟨"TrustedUpdates$Document", "readSigned", "()V"⟩, 15), (⟨"TrustedUpdates$Document", "next", "(II)I"⟩, 15), (⟨"TrustedUpdates$Document", "readRootKeySets", "()V"⟩, 15), (⟨"TrustedUpdates$Document", "readKeySet", "()V"⟩, 15), (⟨"TrustedUpdates$Document", "skip", "(I)V"⟩, 15), (⟨"TrustedUpdates$Document", "readEntries", "()V"⟩, 15), (⟨"TrustedUpdates$Document", "readTargets", "()V"⟩, 15), (⟨"TrustedUpdates$Document", "readLetters", "(II)V"⟩, 15), (⟨"TrustedUpdates$Document", "isNamedAsEarlier", "(I)Z"⟩, 15), (⟨"TrustedUpdates$Document", "readDelegations", "()V"⟩, 15), (⟨"TrustedUpdates$Document", "readSignatures", "()V"⟩, 15), (⟨"TrustedUpdates$Trust", "isInForce", "(I)Z"⟩, 3), (⟨"TrustedUpdates$Document", "hasSignatureOf", "(I)Z"⟩, 15), (⟨"TrustedUpdates$Trust", "isNoOlderStamp", "(LTrustedUpdates$Document;)Z"⟩, 3), (⟨"TrustedUpdates$Trust", "isAsStamped", "(LTrustedUpdates$Document;)Z"⟩, 3)]
theorem lw_r1 : ∀ q ∈ lw_privs_1, lw_okq q := List.forall_mem_cons.mpr ⟨lw_p0, List.forall_mem_cons.mpr ⟨lw_p1, List.forall_mem_cons.mpr ⟨lw_p2, List.forall_mem_cons.mpr ⟨lw_p3, List.forall_mem_cons.mpr ⟨lw_p4, List.forall_mem_cons.mpr ⟨lw_p5, List.forall_mem_cons.mpr ⟨lw_p6, List.forall_mem_cons.mpr ⟨lw_p7, List.forall_mem_cons.mpr ⟨lw_p8, List.forall_mem_cons.mpr ⟨lw_p9, List.forall_mem_cons.mpr ⟨lw_p10, List.forall_mem_cons.mpr ⟨lw_p11, List.forall_mem_cons.mpr ⟨lw_p12, List.forall_mem_cons.mpr ⟨lw_p13, List.forall_mem_cons.mpr ⟨lw_p14, List.forall_mem_cons.mpr ⟨lw_p15, fun _ h => absurd h List.not_mem_nil⟩⟩⟩⟩⟩⟩⟩⟩⟩⟩⟩⟩⟩⟩⟩⟩
theorem lw_p16 : lw_okq (⟨"TrustedUpdates$Trust", "isNoOlderSnapshot", "(LTrustedUpdates$Document;)Z"⟩, 3) := ⟨⟨by decide +kernel, by decide +kernel⟩, List.mem_of_getElem? (i := 93) (by decide +kernel), List.mem_of_getElem? (i := 576) (by decide +kernel), List.mem_of_getElem? (i := 577) (by decide +kernel)⟩
theorem lw_p17 : lw_okq (⟨"TrustedUpdates$Trust", "changesOnlineKeys", "(LTrustedUpdates$Document;)Z"⟩, 3) := ⟨⟨by decide +kernel, by decide +kernel⟩, List.mem_of_getElem? (i := 93) (by decide +kernel), List.mem_of_getElem? (i := 600) (by decide +kernel), List.mem_of_getElem? (i := 601) (by decide +kernel)⟩
theorem lw_p18 : lw_okq (⟨"TrustedUpdates", "refuseUnlessSearchable", "(JI)V"⟩, 7) := ⟨⟨by decide +kernel, by decide +kernel⟩, List.mem_of_getElem? (i := 17) (by decide +kernel), List.mem_of_getElem? (i := 625) (by decide +kernel), List.mem_of_getElem? (i := 626) (by decide +kernel)⟩
theorem lw_p19 : lw_okq (⟨"TrustedUpdates$Search", "visit", "(II)V"⟩, 7) := ⟨⟨by decide +kernel, by decide +kernel⟩, List.mem_of_getElem? (i := 112) (by decide +kernel), List.mem_of_getElem? (i := 646) (by decide +kernel), List.mem_of_getElem? (i := 647) (by decide +kernel)⟩
theorem lw_p20 : lw_okq (⟨"TrustedUpdates$Search", "mayFollow", "(LTrustedUpdates$Document;I)Z"⟩, 7) := ⟨⟨by decide +kernel, by decide +kernel⟩, List.mem_of_getElem? (i := 112) (by decide +kernel), List.mem_of_getElem? (i := 659) (by decide +kernel), List.mem_of_getElem? (i := 660) (by decide +kernel)⟩
theorem lw_p21 : lw_okq (⟨"TrustedUpdates$Document", "delegationPlace", "(I)I"⟩, 15) := ⟨⟨by decide +kernel, by decide +kernel⟩, List.mem_of_getElem? (i := 39) (by decide +kernel), List.mem_of_getElem? (i := 667) (by decide +kernel), List.mem_of_getElem? (i := 668) (by decide +kernel)⟩
theorem lw_p22 : lw_okq (⟨"TrustedUpdatesModel", "add", "(I)V"⟩, 18) := ⟨⟨by decide +kernel, by decide +kernel⟩, List.mem_of_getElem? (i := 710) (by decide +kernel), List.mem_of_getElem? (i := 781) (by decide +kernel), List.mem_of_getElem? (i := 782) (by decide +kernel)⟩
theorem lw_p23 : lw_okq (⟨"TrustedUpdatesModel", "mixOf", "(III)I"⟩, 18) := ⟨⟨by decide +kernel, by decide +kernel⟩, List.mem_of_getElem? (i := 710) (by decide +kernel), List.mem_of_getElem? (i := 805) (by decide +kernel), List.mem_of_getElem? (i := 806) (by decide +kernel)⟩
theorem lw_p24 : lw_okq (⟨"TrustedUpdatesModel", "addFour", "(I)V"⟩, 18) := ⟨⟨by decide +kernel, by decide +kernel⟩, List.mem_of_getElem? (i := 710) (by decide +kernel), List.mem_of_getElem? (i := 815) (by decide +kernel), List.mem_of_getElem? (i := 816) (by decide +kernel)⟩
theorem lw_p25 : lw_okq (⟨"TrustedUpdatesModel", "isDocument", "(I)Z"⟩, 18) := ⟨⟨by decide +kernel, by decide +kernel⟩, List.mem_of_getElem? (i := 710) (by decide +kernel), List.mem_of_getElem? (i := 823) (by decide +kernel), List.mem_of_getElem? (i := 824) (by decide +kernel)⟩
theorem lw_p26 : lw_okq (⟨"TrustedUpdatesModel", "passSigned", "(I)Z"⟩, 18) := ⟨⟨by decide +kernel, by decide +kernel⟩, List.mem_of_getElem? (i := 710) (by decide +kernel), List.mem_of_getElem? (i := 827) (by decide +kernel), List.mem_of_getElem? (i := 828) (by decide +kernel)⟩
theorem lw_p27 : lw_okq (⟨"TrustedUpdatesModel", "between", "(II)I"⟩, 18) := ⟨⟨by decide +kernel, by decide +kernel⟩, List.mem_of_getElem? (i := 710) (by decide +kernel), List.mem_of_getElem? (i := 831) (by decide +kernel), List.mem_of_getElem? (i := 832) (by decide +kernel)⟩
theorem lw_p28 : lw_okq (⟨"TrustedUpdatesModel", "next", "()I"⟩, 18) := ⟨⟨by decide +kernel, by decide +kernel⟩, List.mem_of_getElem? (i := 710) (by decide +kernel), List.mem_of_getElem? (i := 835) (by decide +kernel), List.mem_of_getElem? (i := 836) (by decide +kernel)⟩
theorem lw_p29 : lw_okq (⟨"TrustedUpdatesModel", "skip", "(I)V"⟩, 18) := ⟨⟨by decide +kernel, by decide +kernel⟩, List.mem_of_getElem? (i := 710) (by decide +kernel), List.mem_of_getElem? (i := 839) (by decide +kernel), List.mem_of_getElem? (i := 840) (by decide +kernel)⟩
theorem lw_p30 : lw_okq (⟨"TrustedUpdatesModel", "passBody", "(I)V"⟩, 18) := ⟨⟨by decide +kernel, by decide +kernel⟩, List.mem_of_getElem? (i := 710) (by decide +kernel), List.mem_of_getElem? (i := 843) (by decide +kernel), List.mem_of_getElem? (i := 844) (by decide +kernel)⟩
theorem lw_p31 : lw_okq (⟨"TrustedUpdatesModel", "passKeys", "()V"⟩, 18) := ⟨⟨by decide +kernel, by decide +kernel⟩, List.mem_of_getElem? (i := 710) (by decide +kernel), List.mem_of_getElem? (i := 847) (by decide +kernel), List.mem_of_getElem? (i := 848) (by decide +kernel)⟩
def lw_privs_2 : List (MethodName × Nat) := [(⟨"TrustedUpdates$Trust", "isNoOlderSnapshot", "(LTrustedUpdates$Document;)Z"⟩, 3), (⟨"TrustedUpdates$Trust", "changesOnlineKeys", "(LTrustedUpdates$Document;)Z"⟩, 3), (⟨"TrustedUpdates", "refuseUnlessSearchable", "(JI)V"⟩, 7), (⟨"TrustedUpdates$Search", "visit", "(II)V"⟩, 7), (⟨"TrustedUpdates$Search", "mayFollow", "(LTrustedUpdates$Document;I)Z"⟩, 7), (⟨"TrustedUpdates$Document", "delegationPlace", "(I)I"⟩, 15), (⟨"TrustedUpdatesModel", "add", "(I)V"⟩, 18), (⟨"TrustedUpdatesModel", "mixOf", "(III)I"⟩, 18), (⟨"TrustedUpdatesModel", "addFour", "(I)V"⟩, 18), (⟨"TrustedUpdatesModel", "isDocument", "(I)Z"⟩, 18), (⟨"TrustedUpdatesModel", "passSigned", "(I)Z"⟩, 18), (⟨"TrustedUpdatesModel", "between", "(II)I"⟩, 18), (⟨"TrustedUpdatesModel", "next", "()I"⟩, 18), (⟨"TrustedUpdatesModel", "skip", "(I)V"⟩, 18), (⟨"TrustedUpdatesModel", "passBody", "(I)V"⟩, 18), (⟨"TrustedUpdatesModel", "passKeys", "()V"⟩, 18)]
theorem lw_r2 : ∀ q ∈ lw_privs_2, lw_okq q := List.forall_mem_cons.mpr ⟨lw_p16, List.forall_mem_cons.mpr ⟨lw_p17, List.forall_mem_cons.mpr ⟨lw_p18, List.forall_mem_cons.mpr ⟨lw_p19, List.forall_mem_cons.mpr ⟨lw_p20, List.forall_mem_cons.mpr ⟨lw_p21, List.forall_mem_cons.mpr ⟨lw_p22, List.forall_mem_cons.mpr ⟨lw_p23, List.forall_mem_cons.mpr ⟨lw_p24, List.forall_mem_cons.mpr ⟨lw_p25, List.forall_mem_cons.mpr ⟨lw_p26, List.forall_mem_cons.mpr ⟨lw_p27, List.forall_mem_cons.mpr ⟨lw_p28, List.forall_mem_cons.mpr ⟨lw_p29, List.forall_mem_cons.mpr ⟨lw_p30, List.forall_mem_cons.mpr ⟨lw_p31, fun _ h => absurd h List.not_mem_nil⟩⟩⟩⟩⟩⟩⟩⟩⟩⟩⟩⟩⟩⟩⟩⟩
theorem lw_p32 : lw_okq (⟨"TrustedUpdatesModel", "passTargets", "()V"⟩, 18) := ⟨⟨by decide +kernel, by decide +kernel⟩, List.mem_of_getElem? (i := 710) (by decide +kernel), List.mem_of_getElem? (i := 851) (by decide +kernel), List.mem_of_getElem? (i := 852) (by decide +kernel)⟩
theorem lw_p33 : lw_okq (⟨"TrustedUpdatesModel", "passLetters", "(II)V"⟩, 18) := ⟨⟨by decide +kernel, by decide +kernel⟩, List.mem_of_getElem? (i := 710) (by decide +kernel), List.mem_of_getElem? (i := 855) (by decide +kernel), List.mem_of_getElem? (i := 856) (by decide +kernel)⟩
theorem lw_p34 : lw_okq (⟨"TrustedUpdatesModel", "areSame", "(II)Z"⟩, 18) := ⟨⟨by decide +kernel, by decide +kernel⟩, List.mem_of_getElem? (i := 710) (by decide +kernel), List.mem_of_getElem? (i := 859) (by decide +kernel), List.mem_of_getElem? (i := 860) (by decide +kernel)⟩
theorem lw_p35 : lw_okq (⟨"TrustedUpdatesModel", "fail", "(I)I"⟩, 18) := ⟨⟨by decide +kernel, by decide +kernel⟩, List.mem_of_getElem? (i := 710) (by decide +kernel), List.mem_of_getElem? (i := 863) (by decide +kernel), List.mem_of_getElem? (i := 864) (by decide +kernel)⟩
theorem lw_p36 : lw_okq (⟨"TrustedUpdatesModel", "copy", "(II)V"⟩, 18) := ⟨⟨by decide +kernel, by decide +kernel⟩, List.mem_of_getElem? (i := 710) (by decide +kernel), List.mem_of_getElem? (i := 871) (by decide +kernel), List.mem_of_getElem? (i := 872) (by decide +kernel)⟩
theorem lw_p37 : lw_okq (⟨"TrustedUpdatesModel", "roleOfDraft", "()I"⟩, 18) := ⟨⟨by decide +kernel, by decide +kernel⟩, List.mem_of_getElem? (i := 710) (by decide +kernel), List.mem_of_getElem? (i := 883) (by decide +kernel), List.mem_of_getElem? (i := 884) (by decide +kernel)⟩
theorem lw_p38 : lw_okq (⟨"TrustedUpdatesModel", "trust", "(I)V"⟩, 18) := ⟨⟨by decide +kernel, by decide +kernel⟩, List.mem_of_getElem? (i := 710) (by decide +kernel), List.mem_of_getElem? (i := 887) (by decide +kernel), List.mem_of_getElem? (i := 888) (by decide +kernel)⟩
theorem lw_p39 : lw_okq (⟨"TrustedUpdatesModel", "offerRoot", "()I"⟩, 18) := ⟨⟨by decide +kernel, by decide +kernel⟩, List.mem_of_getElem? (i := 710) (by decide +kernel), List.mem_of_getElem? (i := 895) (by decide +kernel), List.mem_of_getElem? (i := 896) (by decide +kernel)⟩
theorem lw_p40 : lw_okq (⟨"TrustedUpdatesModel", "keysOf", "(II)I"⟩, 18) := ⟨⟨by decide +kernel, by decide +kernel⟩, List.mem_of_getElem? (i := 710) (by decide +kernel), List.mem_of_getElem? (i := 899) (by decide +kernel), List.mem_of_getElem? (i := 900) (by decide +kernel)⟩
theorem lw_p41 : lw_okq (⟨"TrustedUpdatesModel", "isSigned", "(II)Z"⟩, 18) := ⟨⟨by decide +kernel, by decide +kernel⟩, List.mem_of_getElem? (i := 710) (by decide +kernel), List.mem_of_getElem? (i := 903) (by decide +kernel), List.mem_of_getElem? (i := 904) (by decide +kernel)⟩
theorem lw_p42 : lw_okq (⟨"TrustedUpdatesModel", "hasSignature", "(II)Z"⟩, 18) := ⟨⟨by decide +kernel, by decide +kernel⟩, List.mem_of_getElem? (i := 710) (by decide +kernel), List.mem_of_getElem? (i := 907) (by decide +kernel), List.mem_of_getElem? (i := 908) (by decide +kernel)⟩
theorem lw_p43 : lw_okq (⟨"TrustedUpdatesModel", "four", "(I)I"⟩, 18) := ⟨⟨by decide +kernel, by decide +kernel⟩, List.mem_of_getElem? (i := 710) (by decide +kernel), List.mem_of_getElem? (i := 911) (by decide +kernel), List.mem_of_getElem? (i := 912) (by decide +kernel)⟩
theorem lw_p44 : lw_okq (⟨"TrustedUpdatesModel", "versionOf", "(I)I"⟩, 18) := ⟨⟨by decide +kernel, by decide +kernel⟩, List.mem_of_getElem? (i := 710) (by decide +kernel), List.mem_of_getElem? (i := 915) (by decide +kernel), List.mem_of_getElem? (i := 916) (by decide +kernel)⟩
theorem lw_p45 : lw_okq (⟨"TrustedUpdatesModel", "areSameKeys", "(I)Z"⟩, 18) := ⟨⟨by decide +kernel, by decide +kernel⟩, List.mem_of_getElem? (i := 710) (by decide +kernel), List.mem_of_getElem? (i := 919) (by decide +kernel), List.mem_of_getElem? (i := 920) (by decide +kernel)⟩
theorem lw_p46 : lw_okq (⟨"TrustedUpdatesModel", "offerStamp", "()I"⟩, 18) := ⟨⟨by decide +kernel, by decide +kernel⟩, List.mem_of_getElem? (i := 710) (by decide +kernel), List.mem_of_getElem? (i := 923) (by decide +kernel), List.mem_of_getElem? (i := 924) (by decide +kernel)⟩
theorem lw_p47 : lw_okq (⟨"TrustedUpdatesModel", "stands", "(I)Z"⟩, 18) := ⟨⟨by decide +kernel, by decide +kernel⟩, List.mem_of_getElem? (i := 710) (by decide +kernel), List.mem_of_getElem? (i := 927) (by decide +kernel), List.mem_of_getElem? (i := 928) (by decide +kernel)⟩
def lw_privs_3 : List (MethodName × Nat) := [(⟨"TrustedUpdatesModel", "passTargets", "()V"⟩, 18), (⟨"TrustedUpdatesModel", "passLetters", "(II)V"⟩, 18), (⟨"TrustedUpdatesModel", "areSame", "(II)Z"⟩, 18), (⟨"TrustedUpdatesModel", "fail", "(I)I"⟩, 18), (⟨"TrustedUpdatesModel", "copy", "(II)V"⟩, 18), (⟨"TrustedUpdatesModel", "roleOfDraft", "()I"⟩, 18), (⟨"TrustedUpdatesModel", "trust", "(I)V"⟩, 18), (⟨"TrustedUpdatesModel", "offerRoot", "()I"⟩, 18), (⟨"TrustedUpdatesModel", "keysOf", "(II)I"⟩, 18), (⟨"TrustedUpdatesModel", "isSigned", "(II)Z"⟩, 18), (⟨"TrustedUpdatesModel", "hasSignature", "(II)Z"⟩, 18), (⟨"TrustedUpdatesModel", "four", "(I)I"⟩, 18), (⟨"TrustedUpdatesModel", "versionOf", "(I)I"⟩, 18), (⟨"TrustedUpdatesModel", "areSameKeys", "(I)Z"⟩, 18), (⟨"TrustedUpdatesModel", "offerStamp", "()I"⟩, 18), (⟨"TrustedUpdatesModel", "stands", "(I)Z"⟩, 18)]
theorem lw_r3 : ∀ q ∈ lw_privs_3, lw_okq q := List.forall_mem_cons.mpr ⟨lw_p32, List.forall_mem_cons.mpr ⟨lw_p33, List.forall_mem_cons.mpr ⟨lw_p34, List.forall_mem_cons.mpr ⟨lw_p35, List.forall_mem_cons.mpr ⟨lw_p36, List.forall_mem_cons.mpr ⟨lw_p37, List.forall_mem_cons.mpr ⟨lw_p38, List.forall_mem_cons.mpr ⟨lw_p39, List.forall_mem_cons.mpr ⟨lw_p40, List.forall_mem_cons.mpr ⟨lw_p41, List.forall_mem_cons.mpr ⟨lw_p42, List.forall_mem_cons.mpr ⟨lw_p43, List.forall_mem_cons.mpr ⟨lw_p44, List.forall_mem_cons.mpr ⟨lw_p45, List.forall_mem_cons.mpr ⟨lw_p46, List.forall_mem_cons.mpr ⟨lw_p47, fun _ h => absurd h List.not_mem_nil⟩⟩⟩⟩⟩⟩⟩⟩⟩⟩⟩⟩⟩⟩⟩⟩
theorem lw_p48 : lw_okq (⟨"TrustedUpdatesModel", "isOver", "(I)Z"⟩, 18) := ⟨⟨by decide +kernel, by decide +kernel⟩, List.mem_of_getElem? (i := 710) (by decide +kernel), List.mem_of_getElem? (i := 931) (by decide +kernel), List.mem_of_getElem? (i := 932) (by decide +kernel)⟩
theorem lw_p49 : lw_okq (⟨"TrustedUpdatesModel", "endOf", "(I)I"⟩, 18) := ⟨⟨by decide +kernel, by decide +kernel⟩, List.mem_of_getElem? (i := 710) (by decide +kernel), List.mem_of_getElem? (i := 935) (by decide +kernel), List.mem_of_getElem? (i := 936) (by decide +kernel)⟩
theorem lw_p50 : lw_okq (⟨"TrustedUpdatesModel", "offerSnapshot", "()I"⟩, 18) := ⟨⟨by decide +kernel, by decide +kernel⟩, List.mem_of_getElem? (i := 710) (by decide +kernel), List.mem_of_getElem? (i := 939) (by decide +kernel), List.mem_of_getElem? (i := 940) (by decide +kernel)⟩
theorem lw_p51 : lw_okq (⟨"TrustedUpdatesModel", "said", "(II)I"⟩, 18) := ⟨⟨by decide +kernel, by decide +kernel⟩, List.mem_of_getElem? (i := 710) (by decide +kernel), List.mem_of_getElem? (i := 943) (by decide +kernel), List.mem_of_getElem? (i := 944) (by decide +kernel)⟩
theorem lw_p52 : lw_okq (⟨"TrustedUpdatesModel", "offerTargets", "(I)I"⟩, 18) := ⟨⟨by decide +kernel, by decide +kernel⟩, List.mem_of_getElem? (i := 710) (by decide +kernel), List.mem_of_getElem? (i := 947) (by decide +kernel), List.mem_of_getElem? (i := 948) (by decide +kernel)⟩
theorem lw_p53 : lw_okq (⟨"TrustedUpdatesModel", "wrongSeek", "(JI)I"⟩, 18) := ⟨⟨by decide +kernel, by decide +kernel⟩, List.mem_of_getElem? (i := 710) (by decide +kernel), List.mem_of_getElem? (i := 959) (by decide +kernel), List.mem_of_getElem? (i := 960) (by decide +kernel)⟩
theorem lw_p54 : lw_okq (⟨"TrustedUpdatesModel", "isFresh", "(I)Z"⟩, 18) := ⟨⟨by decide +kernel, by decide +kernel⟩, List.mem_of_getElem? (i := 710) (by decide +kernel), List.mem_of_getElem? (i := 969) (by decide +kernel), List.mem_of_getElem? (i := 970) (by decide +kernel)⟩
theorem lw_p55 : lw_okq (⟨"TrustedUpdatesModel", "find", "(JI)I"⟩, 18) := ⟨⟨by decide +kernel, by decide +kernel⟩, List.mem_of_getElem? (i := 710) (by decide +kernel), List.mem_of_getElem? (i := 973) (by decide +kernel), List.mem_of_getElem? (i := 974) (by decide +kernel)⟩
theorem lw_p56 : lw_okq (⟨"TrustedUpdatesModel", "visit", "(I)V"⟩, 18) := ⟨⟨by decide +kernel, by decide +kernel⟩, List.mem_of_getElem? (i := 710) (by decide +kernel), List.mem_of_getElem? (i := 977) (by decide +kernel), List.mem_of_getElem? (i := 978) (by decide +kernel)⟩
theorem lw_p57 : lw_okq (⟨"TrustedUpdatesModel", "hasTarget", "(IJI)Z"⟩, 18) := ⟨⟨by decide +kernel, by decide +kernel⟩, List.mem_of_getElem? (i := 710) (by decide +kernel), List.mem_of_getElem? (i := 981) (by decide +kernel), List.mem_of_getElem? (i := 982) (by decide +kernel)⟩
theorem lw_p58 : lw_okq (⟨"TrustedUpdatesModel", "begins", "(IIJ)Z"⟩, 18) := ⟨⟨by decide +kernel, by decide +kernel⟩, List.mem_of_getElem? (i := 710) (by decide +kernel), List.mem_of_getElem? (i := 985) (by decide +kernel), List.mem_of_getElem? (i := 986) (by decide +kernel)⟩
theorem lw_p59 : lw_okq (⟨"TrustedUpdatesModel", "delegation", "(II)I"⟩, 18) := ⟨⟨by decide +kernel, by decide +kernel⟩, List.mem_of_getElem? (i := 710) (by decide +kernel), List.mem_of_getElem? (i := 989) (by decide +kernel), List.mem_of_getElem? (i := 990) (by decide +kernel)⟩
def lw_privs_4 : List (MethodName × Nat) := [(⟨"TrustedUpdatesModel", "isOver", "(I)Z"⟩, 18), (⟨"TrustedUpdatesModel", "endOf", "(I)I"⟩, 18), (⟨"TrustedUpdatesModel", "offerSnapshot", "()I"⟩, 18), (⟨"TrustedUpdatesModel", "said", "(II)I"⟩, 18), (⟨"TrustedUpdatesModel", "offerTargets", "(I)I"⟩, 18), (⟨"TrustedUpdatesModel", "wrongSeek", "(JI)I"⟩, 18), (⟨"TrustedUpdatesModel", "isFresh", "(I)Z"⟩, 18), (⟨"TrustedUpdatesModel", "find", "(JI)I"⟩, 18), (⟨"TrustedUpdatesModel", "visit", "(I)V"⟩, 18), (⟨"TrustedUpdatesModel", "hasTarget", "(IJI)Z"⟩, 18), (⟨"TrustedUpdatesModel", "begins", "(IIJ)Z"⟩, 18), (⟨"TrustedUpdatesModel", "delegation", "(II)I"⟩, 18)]
theorem lw_r4 : ∀ q ∈ lw_privs_4, lw_okq q := List.forall_mem_cons.mpr ⟨lw_p48, List.forall_mem_cons.mpr ⟨lw_p49, List.forall_mem_cons.mpr ⟨lw_p50, List.forall_mem_cons.mpr ⟨lw_p51, List.forall_mem_cons.mpr ⟨lw_p52, List.forall_mem_cons.mpr ⟨lw_p53, List.forall_mem_cons.mpr ⟨lw_p54, List.forall_mem_cons.mpr ⟨lw_p55, List.forall_mem_cons.mpr ⟨lw_p56, List.forall_mem_cons.mpr ⟨lw_p57, List.forall_mem_cons.mpr ⟨lw_p58, List.forall_mem_cons.mpr ⟨lw_p59, fun _ h => absurd h List.not_mem_nil⟩⟩⟩⟩⟩⟩⟩⟩⟩⟩⟩⟩
def lw_privs : List (MethodName × Nat) := lw_privs_1 ++ (lw_privs_2 ++ (lw_privs_3 ++ (lw_privs_4)))
def lw_tbl : List Cond := k2_sels lw_privs ++ tables_1
theorem lw_privs_ok : ∀ q ∈ lw_privs, lw_okq q := by
  show ∀ q ∈ lw_privs_1 ++ (lw_privs_2 ++ (lw_privs_3 ++ (lw_privs_4))), lw_okq q
  exact List.forall_mem_append.mpr ⟨lw_r1, List.forall_mem_append.mpr ⟨lw_r2, List.forall_mem_append.mpr ⟨lw_r3, lw_r4⟩⟩⟩
end
section
/-! ===== BEGIN words of one list among another's, by their places ===== -/
theorem goodIn_r {big : List Cond} (ws : List Cond) (ps : List Nat) (hp : ws = ps.filterMap (fun i => big[i]?)) (h : ws.all goodWord = true) : GoodIn big ws := by
  intro w hw
  have h1 := List.all_eq_true.mp h w hw
  rw [hp] at hw
  obtain ⟨i, -, hi⟩ := List.mem_filterMap.mp hw
  have hm : w ∈ big := by first | exact List.mem_of_getElem? hi | exact List.getElem?_mem hi
  exact ⟨hm, good_of_word h1⟩
theorem goodIn_app {big a b : List Cond} (ha : GoodIn big a) (hb : GoodIn big b) : GoodIn big (a ++ b) := fun w h => (List.mem_append.mp h).elim (ha w) (hb w)
theorem goodIn_ca {big a b : List Cond} {c : Cond} (ha : GoodIn big (c :: a)) (hb : GoodIn big b) : GoodIn big (c :: (a ++ b)) := fun w h => (List.mem_cons.mp h).elim (fun e => ha w (List.mem_cons.mpr (Or.inl e))) (fun h => (List.mem_append.mp h).elim (fun h => ha w (List.mem_cons.mpr (Or.inr h))) (hb w))
theorem goodIn_sub {big ws : List Cond} (hm : ∀ w ∈ ws, w ∈ big) (h : ws.all goodWord = true) : GoodIn big ws := fun w hw => ⟨hm w hw, good_of_word (List.all_eq_true.mp h w hw)⟩
/-! ===== END ===== -/

/-! ===== BEGIN exceptions that leave a method, and their catching by the caller (launches without stack traces) ===== -/
section VXA
/-! The laws vx_back, vx_callV, vx_callS, vx_callSW, vx_throw0, vx_throwS follow proofs of the library, with one case more: JvmDerived/Free/Laws.lean (Back.of_free), Shelf42/LK1.lean (callV, callS), Shelf/KitTraced.lean (throwNew0V, throwNewS). -/
--  where a method has thrown q: the class by its name, the cell, what was written, the world 
def vx_T (XC : String → State → State → Prop) (st : State) (q : Addr) (t : State) (mc ms : Nat) (free : Addr → Prop) : Prop :=
  ∃ (E : String) (ce : Cell) (L : List Loc), XC E st t ∧ t.heap[q]? = some ce ∧ ce.vm = .none ∧ st.vm.findClass E = some ce.cls ∧ st.WarmedH t.vm ∧ st.sameButNew ({ t with vm := st.vm } : State) L mc ms ∧ ∀ z ∈ L, free z.base
def vx_Q (Qc : Array Value → State → Outcome → State → Prop) (XC : String → State → State → Prop) (mc ms : Nat) (free : Addr → Prop) : Array Value → State → Outcome → State → Prop := fun a st o t =>
  (Qc a st o t ∧ ∃ L, FrameEnd st o t L mc ms ∧ ∀ q ∈ L, free q.base) ∨ ∃ q, o = .threw q ∧ vx_T XC st q t mc ms free
--  a callee that returns or throws 
def vx_Met (l : Launch) (y : MethodName) (ws : List Cond) (rm : Room) (Pc : Array Value → State → Prop) (Qc : Array Value → State → Outcome → State → Prop) (XC : String → State → State → Prop) (mc ms : Nat) (free : Addr → Prop) : Prop :=
  MetFree l y (headSpec ws rm) Pc (fun _ _ _ _ _ => True) (vx_Q Qc XC mc ms free)
def vx_Post (XC : String → State → State → Prop) (mc ms : Nat) (free : Addr → Prop) : Pt → Array Value → Addr → Pt → Prop := fun A a q B =>
  ∃ (g : JFrame) (mk : MethodId) (t : State) (L : List Loc) (E : String) (ce : Cell), B.U.heap = t.heap ∧ B.U.vm = t.vm ∧ XC E (A.U.calling g mk a) t ∧ t.heap[q]? = some ce ∧ ce.vm = .none ∧ A.U.vm.findClass E = some ce.cls ∧ B.locs = A.locs ++ L ∧ (∀ z ∈ L, free z.base) ∧ B.cells = A.cells + mc ∧ B.slots = A.slots + ms
def vx_Back (l : Launch) (R : Room) (p : Program) (e : Env) (below : List Frame) (s : State) (sargs : Array Value) (y : MethodName) (len W9 : Nat)
    (Pre : Pt → Array Value → Prop) (Post : Pt → Array Value → Option Value → Pt → Prop) (PostX : Pt → Array Value → Addr → Pt → Prop) : Prop :=
  ∀ (m : MethodId) (meth : Method) (c : Code) (A : Pt) (g : JFrame) (ig : Instr) (mk : MethodId) (a : Array Value),
    Stand p l e R s m sargs below meth c A.U A.locs A.cells A.slots → g.method = m → g.locals.size = c.maxLocals → decode c.code g.pc = .ok (ig, len) →
    2 * g.monitorRoom + (g.stack.map fun v => v.category).sum ≤ W9 → A.U.methodNamed? y = some mk → Pre A a →
    (∃ (v : Option Value) (B : Pt), Stand p l e R s m sargs below meth c B.U B.locs B.cells B.slots ∧ Post A a v B ∧
      Steps p.tables e below (doInvoke e (A.U.setTop g) [] mk a).1 (B.U.setTop { g with pc := g.pc + len, stack := v.toList ++ g.stack })) ∨
    (∃ (q : Addr) (B : Pt), Stand p l e R s m sargs below meth c B.U B.locs B.cells B.slots ∧ PostX A a q B ∧
      Steps p.tables e below (doInvoke e (A.U.setTop g) [] mk a).1 ((B.U.setTop g).pushFrame (.throwing q)))
section Payer
variable {l : Launch} {R : Room} {p : Program} {e : Env} {below : List Frame} {s : State} {sargs : Array Value} {y : MethodName} {len W9 : Nat}
theorem vx_back {ws : List Cond} {rm : Room} {Pc : Array Value → State → Prop} {Qc : Array Value → State → Outcome → State → Prop} {XC : String → State → State → Prop} {mc ms : Nat} {free : Addr → Prop} {bytes : ByteArray} {maxL : Nat} {ret : Option FieldType}
    (hM : vx_Met l y ws rm Pc Qc XC mc ms free) (hblind : FrameBlind Pc) (hrc : rm.cells = mc) (hrs : rm.slots = ms)
    (hframes : rm.frames + 1 ≤ R.frames) (hlocals : W9 + (maxL + 11) + rm.locals ≤ R.locals)
    (hws : ∀ w ∈ ws, ∀ a' U, s.WarmedH U.vm → w.before a' U = true) (hcode : Cond.code y bytes maxL ret ∈ ws) (hinit : ∀ a' U, s.WarmedH U.vm → (Cond.initialized y.cls).before a' U = true) :
    vx_Back l R p e below s sargs y len W9 (PreOf R mc ms Pc) (PostOf Qc mc ms free) (vx_Post XC mc ms free) := by
  intro m meth c A g ig mk a X hg hsize hdg hW hn hp
  have h1 : (headSpec ws rm).pre.before a A.U = true := atoms_intro fun w hw => hws w hw _ _ X.warmed
  have h2 : (Cond.code y bytes maxL ret).before a A.U = true := hws _ hcode _ _ X.warmed
  have h3 : (Cond.initialized y.cls).before a A.U = true := hinit _ _ X.warmed
  have h4 : A.cells + (headSpec ws rm).room.cells ≤ R.cells := by rw [show (headSpec ws rm).room.cells = mc from hrc]; exact hp.1
  have h5 : A.slots + (headSpec ws rm).room.slots ≤ R.slots := by rw [show (headSpec ws rm).room.slots = ms from hrs]; exact hp.2.1
  have hPc : Pc a (A.U.calling g mk a) := hblind _ _ _ _ hp.2.2
  obtain ⟨U, Ls, c0, s0⟩ := A
  dsimp only [Pt.U, Pt.locs, Pt.cells, Pt.slots] at h1 h2 h3 h4 h5 X hn hPc ⊢
  obtain ⟨methY, cY, hmY, hcY, -, hlY, -, -, -, -⟩ := Cond.code_spec hn h2
  obtain ⟨kY, hkY, -⟩ := className_of_methodNamed hn
  have hinitY : kY.init = .initialized := Cond.initialized_spec (findClass_of_methodNamed hn) hkY h3
  have h : At U g.method c below := by rw [hg]; exact X.here
  have hlocals9 : W9 + (maxL + 11) + (headSpec ws rm).room.locals ≤ R.locals := hlocals
  have happ : (headSpec ws rm).appliesLoose y e.platform (U.calling g mk a) = true :=
    Spec.appliesLoose_calling (g := g) h hdg hn hkY hinitY
      (X.room_calling (g := g) (R' := (headSpec ws rm).room) hsize hmY hcY hframes (by rw [hlY]; omega) h4 h5) h1
  obtain ⟨mid, hmid⟩ := h.above
  have hfr : (U.setTop g).frames = (.java g :: mid) ++ below := by rw [State.frames_setTop' g h.top, hmid]; rfl
  obtain ⟨o, s₂, hsteps, -, hend, hq⟩ := Steps.callFree hM p X.admits X.cas X.clock (acts := []) hfr happ hPc trivial
  have hq' : vx_Q Qc XC mc ms free a (U.calling g mk a) o s₂ := hq
  rw [State.frames_setTop' g h.top] at hend
  obtain ⟨g₀, hg0⟩ := Option.isSome_iff_exists.mp h.top
  obtain ⟨r, hr⟩ := State.topJava?_eq_some.mp hg0
  have hr' : (({ U with heap := s₂.heap, slotsUsed := s₂.slotsUsed } : State).setVm s₂.vm).frames = .java g₀ :: r := hr
  rcases hq' with ⟨hqc, L, hfe, hL⟩ | ⟨q, rfl, E, ce, L, hx, hce, hcv, hcl, hW₂, hsm, hL⟩
  · obtain ⟨⟨v, rfl⟩, hW₂, e2, q2, q3, q4, q5, q6⟩ := id hfe
    have e3 : s₂ = ({ (U.calling g mk a).setFrames s₂.frames with heap := s₂.heap, slotsUsed := s₂.slotsUsed } : State).setVm s₂.vm := by
      have : s₂ = ({ s₂ with vm := (U.calling g mk a).vm } : State).setVm s₂.vm := rfl
      rw [e2] at this
      exact this
    obtain ⟨c₂, i₂, len₂, hc₂, hd₂, hf₂⟩ := hend
    have hW' : U.WarmedH s₂.vm := hW₂
    have hcc : c₂ = c := by
      have h1 : s₂.code? g.method = U.code? g.method := by
        rw [State.code?_eq, State.code?_eq, hW'.alike.method?]
      exact Option.some.inj (hc₂.symm.trans (h1.trans h.code))
    subst hcc
    have hlen : len₂ = len := by rw [hdg] at hd₂; cases hd₂; rfl
    subst hlen
    have hs₂ : s₂ = (({ U with heap := s₂.heap, slotsUsed := s₂.slotsUsed } : State).setVm s₂.vm).setTop { g with pc := g.pc + len₂, stack := v.toList ++ g.stack } := by
      refine e3.trans ?_
      rw [hf₂, State.calling_eq h.top, State.setFrames_setFrames, State.setTop_of_frames _ hr', hr]
      rfl
    have hsame : U.sameButNew ({ U with heap := s₂.heap, slotsUsed := s₂.slotsUsed } : State) L mc ms := by
      refine ⟨?_, q2, q3, q4, q5, q6⟩
      obtain ⟨t, ht, -⟩ := State.frames_cons hr
      show ({ U with heap := s₂.heap, slotsUsed := s₂.slotsUsed } : State) = { U.setFrames U.frames with heap := s₂.heap, slotsUsed := s₂.slotsUsed }
      rw [State.setFrames_self ht]
    subst hg
    refine Or.inl ⟨v, ⟨(({ U with heap := s₂.heap, slotsUsed := s₂.slotsUsed } : State).setVm s₂.vm), Ls ++ L, c0 + mc, s0 + ms⟩,
      ⟨X.admits, X.cas, X.clock, X.frames, X.room, X.hears, X.method, X.code, (X.here.setHeapUsed s₂.heap s₂.slotsUsed).setVm hW'.alike, X.tail, State.WarmedH.trans X.warmed hW', X.limits, X.bytes, X.same.trans (hsame.setVm s.vm)⟩,
      ⟨g, mk, s₂, L, rfl, rfl, hqc, rfl, hL, rfl, rfl⟩, ?_⟩
    show Steps p.tables e below _ ((({ U with heap := s₂.heap, slotsUsed := s₂.slotsUsed } : State).setVm s₂.vm).setTop { g with pc := g.pc + len₂, stack := v.toList ++ g.stack })
    rw [← hs₂]
    exact hsteps
  · obtain ⟨e2, q2, q3, q4, q5, q6⟩ := id hsm
    have e3 : s₂ = ({ (U.calling g mk a).setFrames s₂.frames with heap := s₂.heap, slotsUsed := s₂.slotsUsed } : State).setVm s₂.vm := by
      have : s₂ = ({ s₂ with vm := (U.calling g mk a).vm } : State).setVm s₂.vm := rfl
      rw [e2] at this
      exact this
    have hf₂ : s₂.frames = .throwing q :: .java g :: U.frames.tail := hend
    have hW' : U.WarmedH s₂.vm := hW₂
    have hs₂ : s₂ = ((({ U with heap := s₂.heap, slotsUsed := s₂.slotsUsed } : State).setVm s₂.vm).setTop g).pushFrame (.throwing q) := by
      refine e3.trans ?_
      rw [hf₂, State.calling_eq h.top, State.setFrames_setFrames, State.pushFrame, State.frames_setTop _ hr', State.setTop_of_frames _ hr', State.setFrames_setFrames, hr]
      rfl
    have hsame : U.sameButNew ({ U with heap := s₂.heap, slotsUsed := s₂.slotsUsed } : State) L mc ms := by
      refine ⟨?_, q2, q3, q4, q5, q6⟩
      obtain ⟨t, ht, -⟩ := State.frames_cons hr
      show ({ U with heap := s₂.heap, slotsUsed := s₂.slotsUsed } : State) = { U.setFrames U.frames with heap := s₂.heap, slotsUsed := s₂.slotsUsed }
      rw [State.setFrames_self ht]
    subst hg
    refine Or.inr ⟨q, ⟨(({ U with heap := s₂.heap, slotsUsed := s₂.slotsUsed } : State).setVm s₂.vm), Ls ++ L, c0 + mc, s0 + ms⟩,
      ⟨X.admits, X.cas, X.clock, X.frames, X.room, X.hears, X.method, X.code, (X.here.setHeapUsed s₂.heap s₂.slotsUsed).setVm hW'.alike, X.tail, State.WarmedH.trans X.warmed hW', X.limits, X.bytes, X.same.trans (hsame.setVm s.vm)⟩,
      ⟨g, mk, s₂, L, E, ce, rfl, rfl, hx, hce, hcv, hcl, rfl, hL, rfl, rfl⟩, ?_⟩
    show Steps p.tables e below _ (((({ U with heap := s₂.heap, slotsUsed := s₂.slotsUsed } : State).setVm s₂.vm).setTop g).pushFrame (.throwing q))
    rw [← hs₂]
    exact hsteps
end Payer
section Calls
variable {p : Program} {l : Launch} {e : Env} {R : Room} {s : State} {m : MethodId} {args : Array Value} {below : List Frame} {meth : Method} {c : Code} {T : State} {locs : List Loc} {cells slots : Nat}
theorem vx_callV (X : Stand p l e R s m args below meth c T locs cells slots) (hexec : p.tables.exec = Jvm.exec) {own C : String} {index : Nat} {y : MethodName} {bytes : ByteArray} {maxL : Nat} {ret : Option FieldType}
    (hown : s.vm.findClass own = some m.cls) (hlink : (Cond.methodLink own index y).before args s = true) (hinst : (Cond.instanceMethod y).before args s = true) (hsel : (Cond.selects C y y).before args s = true)
    (hcode : (Cond.code y bytes maxL ret).before args s = true) (hy : y.cls ≠ "java/lang/invoke/MethodHandle" ∧ y.cls ≠ "java/lang/invoke/VarHandle")
    {W9 : Nat} {Pre : Pt → Array Value → Prop} {Post : Pt → Array Value → Option Value → Pt → Prop} {PostX : Pt → Array Value → Addr → Pt → Prop} (hK : vx_Back l R p e below s args y 3 W9 Pre Post PostX)
    {b : Addr} {cellB : Cell} (hcell : T.heap[b]? = some cellB) (hobj : cellB.vm.isStatics = false) (hcls : s.vm.findClass C = some cellB.cls)
    {g : JFrame} (hg : g.method = m) (hsize : g.locals.size = c.maxLocals) {argsL rest : List Value} (hlen : ∀ sig, parseMethodDescriptor y.desc = some sig → argsL.length = sig.parameters.length)
    (hstack : g.stack = argsL.reverse ++ .ref b :: rest) (hW : 2 * g.monitorRoom + (rest.map fun v => v.category).sum ≤ W9) (hdg : decode c.code g.pc = .ok (.invokevirtual index, 3))
    (hpre : ∀ vm₁, s.WarmedH vm₁ → Pre ⟨T.setVm vm₁, locs, cells, slots⟩ (Value.ref b :: argsL).toArray) :
    (∃ (v : Option Value) (vm₁ : Vm) (B : Pt), s.WarmedH vm₁ ∧ Stand p l e R s m args below meth c B.U B.locs B.cells B.slots ∧ Post ⟨T.setVm vm₁, locs, cells, slots⟩ (Value.ref b :: argsL).toArray v B ∧
      ∀ target, Steps p.tables e below (B.U.setTop { g with pc := g.pc + 3, stack := v.toList ++ rest }) target → Steps p.tables e below (T.setTop g) target) ∨
    (∃ (q : Addr) (vm₁ : Vm) (B : Pt), s.WarmedH vm₁ ∧ Stand p l e R s m args below meth c B.U B.locs B.cells B.slots ∧ PostX ⟨T.setVm vm₁, locs, cells, slots⟩ (Value.ref b :: argsL).toArray q B ∧
      Steps p.tables e below (T.setTop g) ((B.U.setTop { g with stack := rest }).pushFrame (.throwing q))) := by
  obtain ⟨mk, methM, hnamed, hmethM, hstM, habM⟩ := Cond.instanceMethod_spec hinst
  obtain ⟨methM', cM, hmethM', -, -, -, -, -, -, hsigM⟩ := Cond.code_spec hnamed hcode
  cases hmethM.symm.trans hmethM'
  obtain ⟨c2, r2, m2, q1, q2, q3, q4, kP, hkP, hkPi⟩ := Cond.selects_spec hsel
  cases hcls.symm.trans q1
  cases (State.methodFound?_of_named hnamed hy).symm.trans q2
  cases hnamed.symm.trans q3
  have hselP : selectMethod e.platform s.vm cellB.cls mk = .method mk := by rw [Launch.admits_selectMethod X.admits]; exact q4
  obtain ⟨vm₁, X₁, hstep₁⟩ := X.invokevirtual hexec hown hlink hnamed hmethM hstM hkP hkPi hy (a := b) (cell := cellB) hcell
    (fun z h => by rw [h] at hobj; cases hobj) hselP hmethM habM hkP hkPi (g := g) hg (argsL := argsL) (rest := rest) (hlen _ hsigM) hstack hdg
  rcases hK m meth c ⟨T.setVm vm₁, locs, cells, slots⟩ { g with stack := rest } (.invokevirtual index) mk (Value.ref b :: argsL).toArray X₁ hg hsize hdg hW (X₁.named hnamed) (hpre vm₁ X₁.warmed) with ⟨v, B, X', hpost, hsteps⟩ | ⟨q, B, X', hpost, hsteps⟩
  · exact Or.inl ⟨v, vm₁, B, X₁.warmed, X', hpost, fun target h => hstep₁ _ fun acts => by rw [doInvoke_state]; exact hsteps.trans h⟩
  · exact Or.inr ⟨q, vm₁, B, X₁.warmed, X', hpost, hstep₁ _ fun acts => by rw [doInvoke_state]; exact hsteps⟩
theorem vx_callS (X : Stand p l e R s m args below meth c T locs cells slots) (hexec : p.tables.exec = Jvm.exec) {own : String} {index : Nat} {y : MethodName} {bytes : ByteArray} {maxL : Nat} {ret : Option FieldType}
    (hown : s.vm.findClass own = some m.cls) (hlink : (Cond.methodLink own index y).before args s = true) (hstat : (Cond.static y).before args s = true) (hinit : (Cond.initialized y.cls).before args s = true)
    (hcode : (Cond.code y bytes maxL ret).before args s = true) (hy : y.cls ≠ "java/lang/invoke/MethodHandle" ∧ y.cls ≠ "java/lang/invoke/VarHandle")
    {W9 : Nat} {Pre : Pt → Array Value → Prop} {Post : Pt → Array Value → Option Value → Pt → Prop} {PostX : Pt → Array Value → Addr → Pt → Prop} (hK : vx_Back l R p e below s args y 3 W9 Pre Post PostX)
    {g : JFrame} (hg : g.method = m) (hsize : g.locals.size = c.maxLocals) {argsL rest : List Value} (hlen : ∀ sig, parseMethodDescriptor y.desc = some sig → argsL.length = sig.parameters.length)
    (hstack : g.stack = argsL.reverse ++ rest) (hW : 2 * g.monitorRoom + (rest.map fun v => v.category).sum ≤ W9) (hdg : decode c.code g.pc = .ok (.invokestatic index, 3))
    (hpre : ∀ vm₁, s.WarmedH vm₁ → Pre ⟨T.setVm vm₁, locs, cells, slots⟩ argsL.toArray) :
    (∃ (v : Option Value) (vm₁ : Vm) (B : Pt), s.WarmedH vm₁ ∧ Stand p l e R s m args below meth c B.U B.locs B.cells B.slots ∧ Post ⟨T.setVm vm₁, locs, cells, slots⟩ argsL.toArray v B ∧
      ∀ target, Steps p.tables e below (B.U.setTop { g with pc := g.pc + 3, stack := v.toList ++ rest }) target → Steps p.tables e below (T.setTop g) target) ∨
    (∃ (q : Addr) (vm₁ : Vm) (B : Pt), s.WarmedH vm₁ ∧ Stand p l e R s m args below meth c B.U B.locs B.cells B.slots ∧ PostX ⟨T.setVm vm₁, locs, cells, slots⟩ argsL.toArray q B ∧
      Steps p.tables e below (T.setTop g) ((B.U.setTop { g with stack := rest }).pushFrame (.throwing q))) := by
  obtain ⟨mk, hnamed⟩ := Cond.code_named hcode
  obtain ⟨methM, cM, hmethM, -, -, -, -, -, -, hsigM⟩ := Cond.code_spec hnamed hcode
  have hstatic : methM.isStatic = true := Cond.static_spec hnamed hmethM hstat
  obtain ⟨kP, hkP, -⟩ := className_of_methodNamed hnamed
  have hinitP : kP.init = .initialized := Cond.initialized_spec (findClass_of_methodNamed hnamed) hkP hinit
  obtain ⟨vm₁, X₁, hstep₁⟩ := X.invokestatic hexec hown hlink hnamed hmethM hstatic hkP hinitP hy (g := g) hg (argsL := argsL) (rest := rest) (hlen _ hsigM) hstack hdg
  rcases hK m meth c ⟨T.setVm vm₁, locs, cells, slots⟩ { g with stack := rest } (.invokestatic index) mk argsL.toArray X₁ hg hsize hdg hW (X₁.named hnamed) (hpre vm₁ X₁.warmed) with ⟨v, B, X', hpost, hsteps⟩ | ⟨q, B, X', hpost, hsteps⟩
  · exact Or.inl ⟨v, vm₁, B, X₁.warmed, X', hpost, fun target h => hstep₁ _ fun acts => by rw [doInvoke_state]; exact hsteps.trans h⟩
  · exact Or.inr ⟨q, vm₁, B, X₁.warmed, X', hpost, hstep₁ _ fun acts => by rw [doInvoke_state]; exact hsteps⟩
end Calls
theorem vx_cls {s : State} {T : State} {vm₁ : Vm} {E : String} {k : ClassId} (hW : s.WarmedH vm₁) (h : (T.setVm vm₁).vm.findClass E = some k) : s.vm.findClass E = some k := by
  have h1 : vm₁.findClass E = some k := h
  rw [hW.alike.findClass] at h1
  exact h1
--  the method's frame g, with q thrown over it 
def vx_W (p : Program) (l : Launch) (e : Env) (R : Room) (s : State) (m : MethodId) (args : Array Value) (below : List Frame) (meth : Method) (c : Code) (H : Heap) (locs : List Loc) (cells slots : Nat) (Q : State → Prop) (g : JFrame) (q : Addr) : Prop :=
  ∀ T : State, T.heap = H → Stand p l e R s m args below meth c T locs cells slots → ∃ t, Steps p.tables e below ((T.setTop g).pushFrame (.throwing q)) t ∧ Q t
def vx_Run (p : Program) (l : Launch) (e : Env) (R : Room) (s : State) (m : MethodId) (args : Array Value) (below : List Frame) (meth : Method) (c : Code) (H : Heap) (locs : List Loc) (cells slots mc ms : Nat) (g : JFrame) (rest : List Value) (Qa : State → Outcome → State → Prop) (XC : String → State → State → Prop) (free : Addr → Prop) : Prop :=
  ∀ T : State, T.heap = H → Stand p l e R s m args below meth c T locs cells slots →
    (∃ (v : Option Value) (st₀ t T' : State) (L : List Loc), st₀.heap = H ∧ Stand p l e R s m args below meth c T' (locs ++ L) (cells + mc) (slots + ms) ∧ (∀ q ∈ L, free q.base) ∧ T'.heap = t.heap ∧ T'.vm = t.vm ∧ Qa st₀ (.returned v) t ∧
      Goes p e below T g T' { g with pc := g.pc + 3, stack := v.toList ++ rest }) ∨
    (∃ (q : Addr) (st₀ t T' : State) (L : List Loc) (E : String) (ce : Cell), st₀.heap = H ∧ Stand p l e R s m args below meth c T' (locs ++ L) (cells + mc) (slots + ms) ∧ (∀ z ∈ L, free z.base) ∧ T'.heap = t.heap ∧ T'.vm = t.vm ∧ XC E st₀ t ∧ t.heap[q]? = some ce ∧ ce.vm = .none ∧ s.vm.findClass E = some ce.cls ∧
      Steps p.tables e below (T.setTop g) ((T'.setTop { g with stack := rest }).pushFrame (.throwing q)))
def vx_X {S : Type} (px : S → Prop) (B : String → S → State → Prop) (A : Nat → Prop) : String → State → State → Prop := fun E st t => ∃ u : S, px u ∧ B E u t ∧ va_F A st t
section Runs
variable {p : Program} {l : Launch} {e : Env} {R : Room} {s : State} {m : MethodId} {args : Array Value} {below : List Frame} {meth : Method} {c : Code} {H : Heap} {locs : List Loc} {cells slots : Nat}
variable {y : MethodName} {bytes cc : ByteArray} {maxL nL mc ms n index : Nat} {ret : Option FieldType} {ws : List Cond} {rm : Room} {Pc : Array Value → State → Prop} {Qc : Array Value → State → Outcome → State → Prop} {XC : String → State → State → Prop} {free : Addr → Prop} {Ts : List Cond} {own C : String} {b : Addr} {As rest : List Value} {g : JFrame}
theorem vx_callBack (cb : CallB R s args own index y bytes maxL ret ws rm mc ms n) (hM : vx_Met l y ws rm Pc Qc XC mc ms free) (hbl : FrameBlind Pc) : vx_Back l R p e below s args y 3 8 (PreOf R mc ms Pc) (PostOf Qc mc ms free) (vx_Post XC mc ms free) := by
  obtain ⟨hrc, hrs, hfr, hlo, hws, hcw, -, hini, -⟩ := cb
  exact vx_back (bytes := bytes) (maxL := maxL) (ret := ret) hM hbl hrc hrs hfr hlo hws hcw (fun a' U hW => word_at hW (Or.inl (by first | rfl | simp [Cond.onTables, Cond.keeps, Cond.steady])) hini)
theorem vx_runV (S : CallFix p m c cc nL s args Ts own) (hM : vx_Met l y ws rm Pc Qc XC mc ms free) (cw : CallW R s args own C index y bytes maxL ret ws rm mc ms n) (hp : PreV s H C b Pc As)
    (hg : g.method = m) (hn : As.length = n) (hsize : g.locals.size = nL) (hstack : g.stack = As.reverse ++ .ref b :: rest) (hW : 2 * g.monitorRoom + (rest.map fun v => v.category).sum ≤ 8) (hdg : decode cc g.pc = .ok (.invokevirtual index, 3)) (hf : cells + mc ≤ R.cells ∧ slots + ms ≤ R.slots) :
    vx_Run p l e R s m args below meth c H locs cells slots mc ms g rest (Qc (Value.ref b :: As).toArray) XC free := by
  have hK : vx_Back l R p e below s args y 3 8 (PreOf R mc ms Pc) (PostOf Qc mc ms free) (vx_Post XC mc ms free) := vx_callBack cw.1 hM hp.1
  obtain ⟨⟨-, -, -, -, -, -, hcode, -, hy, hlen, hl⟩, hin, hse⟩ := cw
  obtain ⟨hx, hb, hml, ho, -⟩ := S
  obtain ⟨-, ⟨cellB, hcB, hoB, hclB⟩, hPc⟩ := hp
  intro T hT X
  rcases vx_callV X hx (C := C) (bytes := bytes) (maxL := maxL) (ret := ret) ho hl hin hse hcode hy hK (by rw [hT]; exact hcB) hoB hclB hg (hsize.trans hml.symm) (argsL := As) (rest := rest) (fun sig h => hn.trans (hlen sig h)) hstack hW (by rw [hb]; exact hdg)
    (fun vm₁ hW₁ => ⟨hf.1, hf.2, hPc (T.setVm vm₁) hT hW₁⟩) with ⟨v, vm₁, ⟨U', l2, c2, s2⟩, hW₁, X', ⟨g', mk, t, L, e1, e2, hq, h1, hL, h2, h3⟩, st⟩ | ⟨q, vm₁, ⟨U', l2, c2, s2⟩, hW₁, X', ⟨g', mk, t, L, E, ce, e1, e2, hq, hce, hcv, hcl, h1, hL, h2, h3⟩, st⟩
  · dsimp only [Pt.U, Pt.locs, Pt.cells, Pt.slots] at X' e1 e2 h1 h2 h3 st
    subst h1; subst h2; subst h3
    exact Or.inl ⟨v, (T.setVm vm₁).calling g' mk (Value.ref b :: As).toArray, t, U', L, hT, X', hL, e1, e2, hq, st⟩
  · dsimp only [Pt.U, Pt.locs, Pt.cells, Pt.slots] at X' e1 e2 h1 h2 h3 st hcl
    subst h1; subst h2; subst h3
    exact Or.inr ⟨q, (T.setVm vm₁).calling g' mk (Value.ref b :: As).toArray, t, U', L, E, ce, hT, X', hL, e1, e2, hq, hce, hcv, vx_cls hW₁ hcl, st⟩
theorem vx_runS (S : CallFix p m c cc nL s args Ts own) (hM : vx_Met l y ws rm Pc Qc XC mc ms free) (cw : CallB R s args own index y bytes maxL ret ws rm mc ms n ∧ (Cond.static y).before args s = true) (hp : PreS s H Pc As)
    (hg : g.method = m) (hn : As.length = n) (hsize : g.locals.size = nL) (hstack : g.stack = As.reverse ++ rest) (hW : 2 * g.monitorRoom + (rest.map fun v => v.category).sum ≤ 8) (hdg : decode cc g.pc = .ok (.invokestatic index, 3)) (hf : cells + mc ≤ R.cells ∧ slots + ms ≤ R.slots) :
    vx_Run p l e R s m args below meth c H locs cells slots mc ms g rest (Qc As.toArray) XC free := by
  have hK : vx_Back l R p e below s args y 3 8 (PreOf R mc ms Pc) (PostOf Qc mc ms free) (vx_Post XC mc ms free) := vx_callBack cw.1 hM hp.1
  obtain ⟨⟨-, -, -, -, -, -, hcode, hini, hy, hlen, hl⟩, hstt⟩ := cw
  obtain ⟨hx, hb, hml, ho, -⟩ := S
  intro T hT X
  rcases vx_callS X hx (bytes := bytes) (maxL := maxL) (ret := ret) ho hl hstt hini hcode hy hK hg (hsize.trans hml.symm) (argsL := As) (rest := rest) (fun sig h => hn.trans (hlen sig h)) hstack hW (by rw [hb]; exact hdg)
    (fun vm₁ hW₁ => ⟨hf.1, hf.2, hp.2 (T.setVm vm₁) hT hW₁⟩) with ⟨v, vm₁, ⟨U', l2, c2, s2⟩, hW₁, X', ⟨g', mk, t, L, e1, e2, hq, h1, hL, h2, h3⟩, st⟩ | ⟨q, vm₁, ⟨U', l2, c2, s2⟩, hW₁, X', ⟨g', mk, t, L, E, ce, e1, e2, hq, hce, hcv, hcl, h1, hL, h2, h3⟩, st⟩
  · dsimp only [Pt.U, Pt.locs, Pt.cells, Pt.slots] at X' e1 e2 h1 h2 h3 st
    subst h1; subst h2; subst h3
    exact Or.inl ⟨v, (T.setVm vm₁).calling g' mk As.toArray, t, U', L, hT, X', hL, e1, e2, hq, st⟩
  · dsimp only [Pt.U, Pt.locs, Pt.cells, Pt.slots] at X' e1 e2 h1 h2 h3 st hcl
    subst h1; subst h2; subst h3
    exact Or.inr ⟨q, (T.setVm vm₁).calling g' mk As.toArray, t, U', L, E, ce, hT, X', hL, e1, e2, hq, hce, hcv, vx_cls hW₁ hcl, st⟩
end Runs
section Rows
variable {p : Program} {l : Launch} {e : Env} {R : Room} {s : State} {m : MethodId} {args : Array Value} {below : List Frame} {meth : Method} {c : Code} {H : Heap} {locs : List Loc} {cells slots : Nat} {Q : State → Prop}
variable {mc ms : Nat} {free : Addr → Prop} {A0 A1 : Nat → Prop} {H0 : Heap} {a : Array Value} {pc : Nat} {ls : Array Slot} {st0 rest : List Value}
theorem vx_keep {st₀ t T' : State} {L : List Loc} (h0 : st₀.heap = H) (e1 : T'.heap = t.heap) (hS : va_S A0 H0 H locs) (hA : ∀ q, q < H.size → A1 q → A0 q) (hf : ∀ q, free q → A0 q) (hL : ∀ q ∈ L, free q.base) (hF : va_F A1 st₀ t) :
    H.size ≤ T'.heap.size ∧ (∀ q : Nat, q < H.size → ¬ A1 q → T'.heap[q]? = H[q]?) ∧ va_S A0 H0 T'.heap (locs ++ L) := by
  obtain ⟨hz, hk⟩ := hF
  rw [h0] at hz hk
  exact ⟨by rw [e1]; exact hz, fun q h1 h2 => by rw [e1]; exact hk q h1 h2,
    ⟨Nat.le_trans hS.1 (by rw [e1]; exact hz), fun q h1 h2 => by rw [e1, hk q (Nat.lt_of_lt_of_le h1 hS.1) (fun z => h2 (hA q (Nat.lt_of_lt_of_le h1 hS.1) z))]; exact hS.2.1 q h1 h2, fun q hq => by
      rcases List.mem_append.mp hq with h | h
      · exact hS.2.2 q h
      · exact hf _ (hL q h)⟩⟩
theorem vx_calli {S SX : Type} {post : Int32 → S → Prop} {px : SX → Prop} {B : S → State → Prop} {BX : String → SX → State → Prop} {AX : Nat → Prop} (hr : vx_Run p l e R s m args below meth c H locs cells slots mc ms (F0 m pc ls st0) rest (va_Qi post B A1 a) (vx_X px BX AX) free) (hS : va_S A0 H0 H locs) (hA : ∀ q, q < H.size → A1 q → A0 q) (hf : ∀ q, free q → A0 q) (hAX : ∀ q, q < H.size → AX q → A0 q)
    (kx : ∀ (E : String) (ce : Cell) (q9 : Addr) (u : SX) (t : State) (H1 : Heap) (locs1 : List Loc), t.heap = H1 → s.vm.Alike t.vm → px u → BX E u t → H.size ≤ H1.size → (∀ q : Nat, q < H.size → ¬ AX q → H1[q]? = H[q]?) → va_S A0 H0 H1 locs1 → H1[q9]? = some ce → ce.vm = .none → s.vm.findClass E = some ce.cls → vx_W p l e R s m args below meth c H1 locs1 (cells + mc) (slots + ms) Q (F0 m pc ls rest) q9)
    (kk : ∀ (r : Int32) (u : S) (t : State) (H1 : Heap) (locs1 : List Loc), t.heap = H1 → s.vm.Alike t.vm → post r u → B u t → H.size ≤ H1.size → (∀ q : Nat, q < H.size → ¬ A1 q → H1[q]? = H[q]?) → va_S A0 H0 H1 locs1 → W p l e R s m args below meth c H1 locs1 (cells + mc) (slots + ms) Q (F0 m (pc + 3) ls (.int r :: rest))) : W p l e R s m args below meth c H locs cells slots Q (F0 m pc ls st0) := by
  intro T hT X
  rcases hr T hT X with ⟨v, st₀, t, T', L, h0, X', hL, e1, e2, ⟨⟨r, u, hv, hp, hb⟩, hF⟩, st⟩ | ⟨q, st₀, t, T', L, E, ce, h0, X', hL, e1, e2, ⟨u, hp, hb, hF⟩, hce, hcv, hcl, st⟩
  · cases hv
    obtain ⟨k1, k2, k3⟩ := vx_keep h0 e1 hS hA hf hL hF
    obtain ⟨t2, a1, b1⟩ := kk r u t T'.heap (locs ++ L) e1.symm (by rw [← e2]; exact X'.warmed.alike) hp hb k1 k2 k3 T' rfl X'
    exact ⟨t2, st t2 a1, b1⟩
  · obtain ⟨k1, k2, k3⟩ := vx_keep h0 e1 hS hAX hf hL hF
    obtain ⟨t2, a1, b1⟩ := kx E ce q u t T'.heap (locs ++ L) e1.symm (by rw [← e2]; exact X'.warmed.alike) hp hb k1 k2 k3 (by rw [e1]; exact hce) hcv hcl T' rfl X'
    exact ⟨t2, st.trans a1, b1⟩
theorem vx_calll {S SX : Type} {post : Int64 → S → Prop} {px : SX → Prop} {B : S → State → Prop} {BX : String → SX → State → Prop} {AX : Nat → Prop} (hr : vx_Run p l e R s m args below meth c H locs cells slots mc ms (F0 m pc ls st0) rest (va_Ql post B A1 a) (vx_X px BX AX) free) (hS : va_S A0 H0 H locs) (hA : ∀ q, q < H.size → A1 q → A0 q) (hf : ∀ q, free q → A0 q) (hAX : ∀ q, q < H.size → AX q → A0 q)
    (kx : ∀ (E : String) (ce : Cell) (q9 : Addr) (u : SX) (t : State) (H1 : Heap) (locs1 : List Loc), t.heap = H1 → s.vm.Alike t.vm → px u → BX E u t → H.size ≤ H1.size → (∀ q : Nat, q < H.size → ¬ AX q → H1[q]? = H[q]?) → va_S A0 H0 H1 locs1 → H1[q9]? = some ce → ce.vm = .none → s.vm.findClass E = some ce.cls → vx_W p l e R s m args below meth c H1 locs1 (cells + mc) (slots + ms) Q (F0 m pc ls rest) q9)
    (kk : ∀ (r : Int64) (u : S) (t : State) (H1 : Heap) (locs1 : List Loc), t.heap = H1 → s.vm.Alike t.vm → post r u → B u t → H.size ≤ H1.size → (∀ q : Nat, q < H.size → ¬ A1 q → H1[q]? = H[q]?) → va_S A0 H0 H1 locs1 → W p l e R s m args below meth c H1 locs1 (cells + mc) (slots + ms) Q (F0 m (pc + 3) ls (.long r :: rest))) : W p l e R s m args below meth c H locs cells slots Q (F0 m pc ls st0) := by
  intro T hT X
  rcases hr T hT X with ⟨v, st₀, t, T', L, h0, X', hL, e1, e2, ⟨⟨r, u, hv, hp, hb⟩, hF⟩, st⟩ | ⟨q, st₀, t, T', L, E, ce, h0, X', hL, e1, e2, ⟨u, hp, hb, hF⟩, hce, hcv, hcl, st⟩
  · cases hv
    obtain ⟨k1, k2, k3⟩ := vx_keep h0 e1 hS hA hf hL hF
    obtain ⟨t2, a1, b1⟩ := kk r u t T'.heap (locs ++ L) e1.symm (by rw [← e2]; exact X'.warmed.alike) hp hb k1 k2 k3 T' rfl X'
    exact ⟨t2, st t2 a1, b1⟩
  · obtain ⟨k1, k2, k3⟩ := vx_keep h0 e1 hS hAX hf hL hF
    obtain ⟨t2, a1, b1⟩ := kx E ce q u t T'.heap (locs ++ L) e1.symm (by rw [← e2]; exact X'.warmed.alike) hp hb k1 k2 k3 (by rw [e1]; exact hce) hcv hcl T' rfl X'
    exact ⟨t2, st.trans a1, b1⟩
theorem vx_callf {S SX : Type} {post : UInt32 → S → Prop} {px : SX → Prop} {B : S → State → Prop} {BX : String → SX → State → Prop} {AX : Nat → Prop} (hr : vx_Run p l e R s m args below meth c H locs cells slots mc ms (F0 m pc ls st0) rest (va_Qf post B A1 a) (vx_X px BX AX) free) (hS : va_S A0 H0 H locs) (hA : ∀ q, q < H.size → A1 q → A0 q) (hf : ∀ q, free q → A0 q) (hAX : ∀ q, q < H.size → AX q → A0 q)
    (kx : ∀ (E : String) (ce : Cell) (q9 : Addr) (u : SX) (t : State) (H1 : Heap) (locs1 : List Loc), t.heap = H1 → s.vm.Alike t.vm → px u → BX E u t → H.size ≤ H1.size → (∀ q : Nat, q < H.size → ¬ AX q → H1[q]? = H[q]?) → va_S A0 H0 H1 locs1 → H1[q9]? = some ce → ce.vm = .none → s.vm.findClass E = some ce.cls → vx_W p l e R s m args below meth c H1 locs1 (cells + mc) (slots + ms) Q (F0 m pc ls rest) q9)
    (kk : ∀ (r : UInt32) (u : S) (t : State) (H1 : Heap) (locs1 : List Loc), t.heap = H1 → s.vm.Alike t.vm → post r u → B u t → H.size ≤ H1.size → (∀ q : Nat, q < H.size → ¬ A1 q → H1[q]? = H[q]?) → va_S A0 H0 H1 locs1 → W p l e R s m args below meth c H1 locs1 (cells + mc) (slots + ms) Q (F0 m (pc + 3) ls (.float r :: rest))) : W p l e R s m args below meth c H locs cells slots Q (F0 m pc ls st0) := by
  intro T hT X
  rcases hr T hT X with ⟨v, st₀, t, T', L, h0, X', hL, e1, e2, ⟨⟨r, u, hv, hp, hb⟩, hF⟩, st⟩ | ⟨q, st₀, t, T', L, E, ce, h0, X', hL, e1, e2, ⟨u, hp, hb, hF⟩, hce, hcv, hcl, st⟩
  · cases hv
    obtain ⟨k1, k2, k3⟩ := vx_keep h0 e1 hS hA hf hL hF
    obtain ⟨t2, a1, b1⟩ := kk r u t T'.heap (locs ++ L) e1.symm (by rw [← e2]; exact X'.warmed.alike) hp hb k1 k2 k3 T' rfl X'
    exact ⟨t2, st t2 a1, b1⟩
  · obtain ⟨k1, k2, k3⟩ := vx_keep h0 e1 hS hAX hf hL hF
    obtain ⟨t2, a1, b1⟩ := kx E ce q u t T'.heap (locs ++ L) e1.symm (by rw [← e2]; exact X'.warmed.alike) hp hb k1 k2 k3 (by rw [e1]; exact hce) hcv hcl T' rfl X'
    exact ⟨t2, st.trans a1, b1⟩
theorem vx_calld {S SX : Type} {post : UInt64 → S → Prop} {px : SX → Prop} {B : S → State → Prop} {BX : String → SX → State → Prop} {AX : Nat → Prop} (hr : vx_Run p l e R s m args below meth c H locs cells slots mc ms (F0 m pc ls st0) rest (va_Qd post B A1 a) (vx_X px BX AX) free) (hS : va_S A0 H0 H locs) (hA : ∀ q, q < H.size → A1 q → A0 q) (hf : ∀ q, free q → A0 q) (hAX : ∀ q, q < H.size → AX q → A0 q)
    (kx : ∀ (E : String) (ce : Cell) (q9 : Addr) (u : SX) (t : State) (H1 : Heap) (locs1 : List Loc), t.heap = H1 → s.vm.Alike t.vm → px u → BX E u t → H.size ≤ H1.size → (∀ q : Nat, q < H.size → ¬ AX q → H1[q]? = H[q]?) → va_S A0 H0 H1 locs1 → H1[q9]? = some ce → ce.vm = .none → s.vm.findClass E = some ce.cls → vx_W p l e R s m args below meth c H1 locs1 (cells + mc) (slots + ms) Q (F0 m pc ls rest) q9)
    (kk : ∀ (r : UInt64) (u : S) (t : State) (H1 : Heap) (locs1 : List Loc), t.heap = H1 → s.vm.Alike t.vm → post r u → B u t → H.size ≤ H1.size → (∀ q : Nat, q < H.size → ¬ A1 q → H1[q]? = H[q]?) → va_S A0 H0 H1 locs1 → W p l e R s m args below meth c H1 locs1 (cells + mc) (slots + ms) Q (F0 m (pc + 3) ls (.double r :: rest))) : W p l e R s m args below meth c H locs cells slots Q (F0 m pc ls st0) := by
  intro T hT X
  rcases hr T hT X with ⟨v, st₀, t, T', L, h0, X', hL, e1, e2, ⟨⟨r, u, hv, hp, hb⟩, hF⟩, st⟩ | ⟨q, st₀, t, T', L, E, ce, h0, X', hL, e1, e2, ⟨u, hp, hb, hF⟩, hce, hcv, hcl, st⟩
  · cases hv
    obtain ⟨k1, k2, k3⟩ := vx_keep h0 e1 hS hA hf hL hF
    obtain ⟨t2, a1, b1⟩ := kk r u t T'.heap (locs ++ L) e1.symm (by rw [← e2]; exact X'.warmed.alike) hp hb k1 k2 k3 T' rfl X'
    exact ⟨t2, st t2 a1, b1⟩
  · obtain ⟨k1, k2, k3⟩ := vx_keep h0 e1 hS hAX hf hL hF
    obtain ⟨t2, a1, b1⟩ := kx E ce q u t T'.heap (locs ++ L) e1.symm (by rw [← e2]; exact X'.warmed.alike) hp hb k1 k2 k3 (by rw [e1]; exact hce) hcv hcl T' rfl X'
    exact ⟨t2, st.trans a1, b1⟩
theorem vx_callv {S SX : Type} {post : S → Prop} {px : SX → Prop} {B : S → State → Prop} {BX : String → SX → State → Prop} {AX : Nat → Prop} (hr : vx_Run p l e R s m args below meth c H locs cells slots mc ms (F0 m pc ls st0) rest (va_Qv post B A1 a) (vx_X px BX AX) free) (hS : va_S A0 H0 H locs) (hA : ∀ q, q < H.size → A1 q → A0 q) (hf : ∀ q, free q → A0 q) (hAX : ∀ q, q < H.size → AX q → A0 q)
    (kx : ∀ (E : String) (ce : Cell) (q9 : Addr) (u : SX) (t : State) (H1 : Heap) (locs1 : List Loc), t.heap = H1 → s.vm.Alike t.vm → px u → BX E u t → H.size ≤ H1.size → (∀ q : Nat, q < H.size → ¬ AX q → H1[q]? = H[q]?) → va_S A0 H0 H1 locs1 → H1[q9]? = some ce → ce.vm = .none → s.vm.findClass E = some ce.cls → vx_W p l e R s m args below meth c H1 locs1 (cells + mc) (slots + ms) Q (F0 m pc ls rest) q9)
    (kk : ∀ (u : S) (t : State) (H1 : Heap) (locs1 : List Loc), t.heap = H1 → s.vm.Alike t.vm → post u → B u t → H.size ≤ H1.size → (∀ q : Nat, q < H.size → ¬ A1 q → H1[q]? = H[q]?) → va_S A0 H0 H1 locs1 → W p l e R s m args below meth c H1 locs1 (cells + mc) (slots + ms) Q (F0 m (pc + 3) ls (rest))) : W p l e R s m args below meth c H locs cells slots Q (F0 m pc ls st0) := by
  intro T hT X
  rcases hr T hT X with ⟨v, st₀, t, T', L, h0, X', hL, e1, e2, ⟨⟨u, hv, hp, hb⟩, hF⟩, st⟩ | ⟨q, st₀, t, T', L, E, ce, h0, X', hL, e1, e2, ⟨u, hp, hb, hF⟩, hce, hcv, hcl, st⟩
  · cases hv
    obtain ⟨k1, k2, k3⟩ := vx_keep h0 e1 hS hA hf hL hF
    obtain ⟨t2, a1, b1⟩ := kk u t T'.heap (locs ++ L) e1.symm (by rw [← e2]; exact X'.warmed.alike) hp hb k1 k2 k3 T' rfl X'
    exact ⟨t2, st t2 a1, b1⟩
  · obtain ⟨k1, k2, k3⟩ := vx_keep h0 e1 hS hAX hf hL hF
    obtain ⟨t2, a1, b1⟩ := kx E ce q u t T'.heap (locs ++ L) e1.symm (by rw [← e2]; exact X'.warmed.alike) hp hb k1 k2 k3 (by rw [e1]; exact hce) hcv hcl T' rfl X'
    exact ⟨t2, st.trans a1, b1⟩
--  caught by the row x of this method's table; the rows ahead don't take it 
end Rows
section Ends
variable {p : Program} {l : Launch} {e : Env} {R : Room} {s : State} {m : MethodId} {args : Array Value} {below : List Frame} {meth : Method} {c : Code} {H : Heap} {locs : List Loc} {cells slots : Nat} {Q : State → Prop}
variable {mc ms : Nat} {free : Addr → Prop} {A0 A1 : Nat → Prop} {H0 : Heap} {a : Array Value} {ls : Array Slot} {st0 rest : List Value}
variable {Qc : Array Value → State → Outcome → State → Prop} {XC : String → State → State → Prop}
--  what a body that may throw owes at its end 
def vx_MQ (below : List Frame) (Qc : Array Value → State → Outcome → State → Prop) (XC : String → State → State → Prop) (a : Array Value) (s : State) (mc ms : Nat) (free : Addr → Prop) : State → Prop := fun t =>
  ∃ o, t.status = .running ∧ Ended t below o ∧ vx_Q Qc XC mc ms free a s o t
theorem vx_ret {g : JFrame} {mc ms : Nat} (k : W p l e R s m args below meth c H locs cells slots (MQ below Qc args s mc ms free) g) : W p l e R s m args below meth c H locs cells slots (vx_MQ below Qc XC args s mc ms free) g := by
  intro T hT X
  obtain ⟨t, a1, o, b1, b2, b3, b4⟩ := k T hT X
  exact ⟨t, a1, o, b1, b2, Or.inl ⟨b3, b4⟩⟩
--  not caught here: it goes on to the caller 
theorem vx_widen {g : JFrame} {q : Addr} {k n : Nat} (h1 : cells ≤ k) (h2 : slots ≤ n) (kk : vx_W p l e R s m args below meth c H locs k n Q g q) : vx_W p l e R s m args below meth c H locs cells slots Q g q := fun T hT X => kk T hT (stand_widen X h1 h2)
theorem vx_out {pc : Nat} {E : String} {ce : Cell} {q : Addr} {mc ms : Nat} (hout : ∀ x ∈ c.exceptionTable.toList, covers x pc = false) (hlocks : meth.locks = false) (hcell : H[q]? = some ce) (hv : ce.vm = .none) (hcl : s.vm.findClass E = some ce.cls)
    (hx : ∀ t : State, t.heap = H → s.vm.Alike t.vm → XC E s t) (hf : ∀ z ∈ locs, free z.base) (hc : cells ≤ mc) (hs : slots ≤ ms) :
    vx_W p l e R s m args below meth c H locs cells slots (vx_MQ below Qc XC args s mc ms free) (F0 m pc ls rest) q := by
  intro T hT X
  obtain ⟨st1, hrun, hend, hW, hsm⟩ := X.leaveThrown q (g := F0 m pc ls rest) rfl rfl rfl hout hlocks
  have hcell9 : (T.setFrames (.throwing q :: below)).heap[q]? = some ce := by
    show T.heap[q]? = some ce
    rw [hT]; exact hcell
  exact ⟨_, st1, .threw q, hrun, hend, Or.inr ⟨q, rfl, E, ce, locs, hx _ hT hW.alike, hcell9, hv, hcl, hW, hsm.mono hc hs, hf⟩⟩
theorem vx_frame {U : State} {k n : Nat} (h : s.sameButNew ({ U with vm := s.vm } : State) locs k n) : s.heap.size ≤ U.heap.size ∧ ∀ q : Nat, q < s.heap.size → (∀ z ∈ locs, z.base ≠ q) → U.heap[q]? = s.heap[q]? := by
  obtain ⟨-, h2, -, -, -, h6⟩ := h
  refine ⟨h2, fun q hq hz => ?_⟩
  obtain ⟨c9, e1, e2, e3, e4⟩ := h6 q _ (Array.getElem?_eq_getElem hq)
  have hs : c9.slots = (s.heap[q]).slots := Array.ext_getElem? fun i => e4 i fun hm => hz _ hm rfl
  have h9 : c9 = s.heap[q] := by
    rw [hs] at e2
    exact e2
  have e5 : U.heap[q]? = some c9 := e1
  rw [e5, h9, Array.getElem?_eq_getElem hq]
--  the words of a throw but the four that speak of the heap 
def vx_no (w : Cond) : Bool := decide (w ≠ .isRef (.static Bundle.tN "UNASSIGNED_STACK" Bundle.steD)) && decide (w ≠ .isRef (.static Bundle.tN "SUPPRESSED_SENTINEL" Bundle.listD)) && decide (w ≠ .laysStatic Bundle.tN "UNASSIGNED_STACK" Bundle.steD) && decide (w ≠ .laysStatic Bundle.tN "SUPPRESSED_SENTINEL" Bundle.listD)
def vx_at0 (own : String) (ic : Nat) (X : String) (names : List String) : List Cond := (Bundle.ownAtoms0 own ic X names).filter vx_no
def vx_atS (own : String) (ic : Nat) (X : String) (names : List String) : List Cond := (Bundle.ownAtoms own ic X names).filter vx_no
--  a word that the tables alone decide, or a good one 
def vx_ot (w : Cond) : Bool := w.onTables || goodWord w
theorem vx_ot_at {args a' : Array Value} {s U : State} {w : Cond} (hW : s.WarmedH U.vm) (hvm : s.vm = U.vm) (hg : vx_ot w = true) (h : w.before args s = true) : w.before a' U = true := by
  simp only [vx_ot, Bool.or_eq_true] at hg
  rcases hg with hg | hg
  · exact va_tabs hg hvm h
  · exact word_at hW (good_of_word hg) h
--  a list's words: the good ones out of the method's own list, the others by premises of their own 
theorem vx_hat {args : Array Value} {s : State} {L B : List Cond} (h1 : ∀ w ∈ L.filter goodWord, w.before args s = true) (h2 : ∀ w ∈ L.filter (fun w => !goodWord w), w ∈ B) (h3 : ∀ w ∈ B, w.before args s = true) : ∀ w ∈ L, w.before args s = true := by
  intro w hw
  by_cases g : goodWord w = true
  · exact h1 w (List.mem_filter.mpr ⟨hw, g⟩)
  · refine h3 w (h2 w (List.mem_filter.mpr ⟨hw, ?_⟩))
    show (!goodWord w) = true
    cases hgw : goodWord w
    · rfl
    · exact absurd hgw g
theorem vx_c {args : Array Value} {s : State} {w : Cond} {B : List Cond} (h : w.before args s = true) (t : ∀ w ∈ B, w.before args s = true) : ∀ w' ∈ w :: B, w'.before args s = true := fun w' h' => (List.mem_cons.mp h').elim (fun e => by rw [e]; exact h) (t w')
theorem vx_n {args : Array Value} {s : State} : ∀ w ∈ ([] : List Cond), w.before args s = true := fun _ h => nomatch h
theorem vx_own {args : Array Value} {s : State} {L : List Cond} (h1 : ∀ w ∈ L.filter vx_no, w.before args s = true)
    (hU : (Cond.isRef (.static Bundle.tN "UNASSIGNED_STACK" Bundle.steD)).before args s = true) (hN : (Cond.isRef (.static Bundle.tN "SUPPRESSED_SENTINEL" Bundle.listD)).before args s = true)
    (lU : (Cond.laysStatic Bundle.tN "UNASSIGNED_STACK" Bundle.steD).before args s = true) (lN : (Cond.laysStatic Bundle.tN "SUPPRESSED_SENTINEL" Bundle.listD).before args s = true) : ∀ w ∈ L, w.before args s = true := by
  intro w hw
  by_cases e1 : w = .isRef (.static Bundle.tN "UNASSIGNED_STACK" Bundle.steD)
  · rw [e1]; exact hU
  · by_cases e2 : w = .isRef (.static Bundle.tN "SUPPRESSED_SENTINEL" Bundle.listD)
    · rw [e2]; exact hN
    · by_cases e3 : w = .laysStatic Bundle.tN "UNASSIGNED_STACK" Bundle.steD
      · rw [e3]; exact lU
      · by_cases e4 : w = .laysStatic Bundle.tN "SUPPRESSED_SENTINEL" Bundle.listD
        · rw [e4]; exact lN
        · exact h1 w (List.mem_filter.mpr ⟨hw, by unfold vx_no; rw [decide_eq_true e1, decide_eq_true e2, decide_eq_true e3, decide_eq_true e4]; rfl⟩)
--  where a static field lies, its class's statics cell in H 
def vx_L (C n d : String) (A : Nat → Prop) (U : State) (H : Heap) : Prop := ∃ (c : ClassId) (k : Class) (i : Nat) (f : Field) (a : Nat) (cell : Cell), U.vm.findClass C = some c ∧ U.fieldFound? C n d = some (c, k, i, f) ∧ f.isStatic = true ∧ k.statics = some a ∧ H[a]? = some cell ∧ cell.vm.isStatics = true ∧ cell.cls = c ∧ f.slot < cell.slots.size ∧ k.staticTypes[f.slot]? = some f.type ∧ ¬ A a
theorem vx_L.moved {C n d : String} {A : Nat → Prop} {u U : State} {H : Heap} (hvm : u.vm.Alike U.vm) (h : vx_L C n d A u H) : vx_L C n d A U H := by
  obtain ⟨c, k, i, f, a, cell, h1, h2, h3, h4, h5, h6, h7, h8, h9, h10⟩ := h
  obtain ⟨k', hi', he⟩ := State.fieldFound?_setVm hvm h2
  exact ⟨c, k', i, f, a, cell, by rw [hvm.findClass]; exact h1, hi', h3, by rw [he]; exact h4, h5, h6, h7, h8, by rw [he]; exact h9, h10⟩
theorem vx_L.kept {C n d : String} {A : Nat → Prop} {U : State} {H H1 : Heap} (h : vx_L C n d A U H) (hq : ∀ a : Nat, a < H.size → ¬ A a → H1[a]? = H[a]?) : vx_L C n d A U H1 := by
  obtain ⟨c, k, i, f, a, cell, h1, h2, h3, h4, h5, h6, h7, h8, h9, h10⟩ := h
  exact ⟨c, k, i, f, a, cell, h1, h2, h3, h4, by rw [hq a (Array.getElem?_eq_some_iff.mp h5).1 h10]; exact h5, h6, h7, h8, h9, h10⟩
theorem vx_L.narrow {C n d : String} {A B : Nat → Prop} {U : State} {H : Heap} (h : vx_L C n d A U H) (hAB : ∀ q, B q → A q) : vx_L C n d B U H := by
  obtain ⟨c, k, i, f, a, cell, h1, h2, h3, h4, h5, h6, h7, h8, h9, h10⟩ := h
  exact ⟨c, k, i, f, a, cell, h1, h2, h3, h4, h5, h6, h7, h8, h9, fun z => h10 (hAB _ z)⟩
theorem vx_L.word {C n d : String} {A : Nat → Prop} {s : State} {args : Array Value} (h : vx_L C n d A s s.heap) : (Cond.laysStatic C n d).before args s = true := by
  obtain ⟨c, k, i, f, a, cell, h1, h2, h3, h4, h5, h6, h7, h8, h9, -⟩ := h
  show (Cond.laysStatic C n d).holds args s none s [] = true
  exact Cond.laysStatic_of h1 h2 h3 h4 h5 h6 h7 h8 h9
--  .. and what it holds: null or some reference 
def vx_Zq (C n d : String) (A : Nat → Prop) (U : State) (H : Heap) : Prop := va_Zq C n d A U H ∧ vx_L C n d A U H
theorem vx_Zq.moved {C n d : String} {A : Nat → Prop} {u U : State} {H : Heap} (hvm : u.vm.Alike U.vm) (h : vx_Zq C n d A u H) : vx_Zq C n d A U H := ⟨va_Zq.moved hvm h.1, vx_L.moved hvm h.2⟩
theorem vx_Zq.kept {C n d : String} {A : Nat → Prop} {U : State} {H H1 : Heap} (h : vx_Zq C n d A U H) (hq : ∀ a : Nat, a < H.size → ¬ A a → H1[a]? = H[a]?) : vx_Zq C n d A U H1 := ⟨va_Zq.kept h.1 hq, vx_L.kept h.2 hq⟩
theorem vx_Zq.narrow {C n d : String} {A B : Nat → Prop} {U : State} {H : Heap} (h : vx_Zq C n d A U H) (hAB : ∀ q, B q → A q) : vx_Zq C n d B U H := ⟨va_Zq.narrow h.1 hAB, vx_L.narrow h.2 hAB⟩
theorem vx_Zqof {args : Array Value} {s : State} {C n d : String} {A : Nat → Prop} (hl : (Cond.laysStatic C n d).before args s = true) (hini : (Cond.initialized C).before args s = true) (h : (Cond.isRef (.static C n d)).before args s = true) (hA : ∀ a : Nat, a < s.heap.size → ¬ A a) : vx_Zq C n d A s s.heap := by
  refine ⟨va_Zqof hl hini h hA, ?_⟩
  obtain ⟨c, k, i, f, a, cell, h1, h2, h3, h4, h5, h6, h7, h8, h9⟩ := Cond.laysStatic_spec hl
  exact ⟨c, k, i, f, a, cell, h1, h2, h3, h4, h5, h6, h7, h8, h9, hA a (Array.getElem?_eq_some_iff.mp h5).1⟩
theorem vx_isRef {C n d : String} {v : Value} {A : Nat → Prop} {s : State} {args : Array Value} (h : va_Z C n d v A s s.heap) (hv : v.isRef = true) : (Cond.isRef (.static C n d)).before args s = true := by
  obtain ⟨cf, kf, fi, f, a, cell, h1, h2, h3, h4, h5, h6, h7, -⟩ := h
  have he : (Term.static C n d).eval args s none [] s = some v := by
    simp [Term.eval, State.fieldNamed?, h1, h2, h4, h5, h6, h7]
  simp only [Cond.before, Cond.holds, Cond.value, he]
  cases v <;> simp_all [Value.isRef]
theorem vx_isRefq {C n d : String} {A : Nat → Prop} {s : State} {args : Array Value} (h : va_Zq C n d A s s.heap) : (Cond.isRef (.static C n d)).before args s = true := by
  rcases h with h | ⟨t, h⟩
  · exact vx_isRef h rfl
  · exact vx_isRef h rfl
--  the same frame, seen from here: as if the method were called anew in this heap 
theorem vx_rebase {T : State} (X : Stand p l e R s m args below meth c T locs cells slots) {R' : Room} (hf : R'.frames ≤ R.frames) (hl : R'.locals ≤ R.locals) (hc : cells + R'.cells ≤ R.cells) (hs : slots + R'.slots ≤ R.slots) :
    Stand p l e R' ((T.setVm s.vm).setFrames (.invoking m args :: below)) m args below meth c T [] 0 0 := by
  have htop : (T.setVm s.vm).topJava?.isSome := X.here.top
  have hF : ((T.setVm s.vm).setFrames (.invoking m args :: below)).frames = .invoking m args :: below := State.frames_setFrames _ (State.cur_lt_of_top htop)
  obtain ⟨g₀, hg0⟩ := Option.isSome_iff_exists.mp htop
  obtain ⟨r, hr⟩ := State.topJava?_eq_some.mp hg0
  have hl9 : e.platform.stackLimits (T.setVm s.vm).me = e.platform.stackLimits s.me := X.limits
  have hb9 : (T.setVm s.vm).me.stackBytes = s.me.stackBytes := X.bytes
  refine ⟨X.admits, X.cas, X.clock, hF, ?_, X.hears, X.method, X.code, X.here, X.tail, X.warmed, ?_, ?_, ?_⟩
  · have h := X.room
    have hU : ((T.setVm s.vm).setFrames (.invoking m args :: below)).localsInUse = s.localsInUse := by
      rw [State.localsInUse_invoking hF (meth := meth) (c := c) X.method X.code, State.localsInUse_invoking X.frames X.method X.code]
    simp only [State.hasRoom, Bool.and_eq_true, decide_eq_true_eq] at h ⊢
    obtain ⟨⟨⟨⟨h1, h2, h3, h4, h5, h6⟩, h7⟩, h8⟩, h9⟩ := h
    rw [X.frames, List.length_cons] at h2 h3
    have q1 := X.heapSize
    have q2 := X.used
    simp only [hF, hU, List.length_cons, State.stackLimits_setFrames, State.stackBytes_setFrames, hl9, hb9]
    refine ⟨⟨⟨⟨by omega, by omega, by omega, by omega, by omega, h6⟩, ?_⟩, ?_⟩, X.book⟩
    · show T.heap.size + R'.cells ≤ e.platform.maxCells
      omega
    · show T.slotsUsed + R'.slots ≤ e.platform.maxSlots
      omega
  · rw [State.stackLimits_setFrames]; rfl
  · rw [State.stackBytes_setFrames]; rfl
  · refine ⟨?_, Nat.le_refl _, Nat.le_refl _, ?_, ?_, fun a c9 h9 => ⟨c9, h9, rfl, rfl, fun _ _ => rfl⟩⟩
    · obtain ⟨t, ht, -⟩ := State.frames_cons hr
      show T.setVm s.vm = { ((T.setVm s.vm).setFrames (.invoking m args :: below)).setFrames (T.setVm s.vm).frames with heap := T.heap, slotsUsed := T.slotsUsed }
      rw [State.setFrames_setFrames, State.setFrames_self ht]
      rfl
    · show T.slotsUsed = T.slotsUsed + ((T.heap.toList.drop T.heap.size).map (·.slots.size)).sum
      rw [List.drop_eq_nil_of_le (Nat.le_of_eq Array.length_toList)]
      rfl
    · show ((T.heap.toList.drop T.heap.size).map (·.slots.size)).sum ≤ 0
      rw [List.drop_eq_nil_of_le (Nat.le_of_eq Array.length_toList)]
      exact Nat.le_refl _
--  'throw new E()': new; dup; invokespecial; athrow 
theorem vx_throw0 {cc : ByteArray} {pc : Nat} (hexec : p.tables.exec = Jvm.exec) (hb : c.code = cc) (hl : l.stackTraces = false) {own cls : String} {names : List String} {ik ic mc ms : Nat} {A : Nat → Prop}
    (hown : s.vm.findClass own = some m.cls) (hcls : Bundle.fit cls = true) (hnames : ∀ n ∈ names, Bundle.fit n = true)
    (hk : (Cond.classLink own ik cls).before args s = true) (hini : (Cond.initialized cls).before args s = true) (hat : ∀ w ∈ vx_at0 own ic cls names, w.before args s = true)
    (hgood : ∀ w ∈ Cond.classLink own ik cls :: Cond.initialized cls :: vx_at0 own ic cls names, vx_ot w = true)
    (hU : vx_Zq Bundle.tN "UNASSIGNED_STACK" Bundle.steD A s s.heap) (hN : vx_Zq Bundle.tN "SUPPRESSED_SENTINEL" Bundle.listD A s s.heap) (hS : va_S A s.heap H locs) (hsize : ls.size = c.maxLocals)
    (d0 : decode cc pc = .ok (.new ik, 3)) (d3 : decode cc (pc + 3) = .ok (.dup, 1)) (d4 : decode cc (pc + 4) = .ok (.invokespecial ic, 3)) (d7 : decode cc (pc + 7) = .ok (.athrow, 1))
    (hout : ∀ x ∈ c.exceptionTable.toList, covers x (pc + 7) = false)
    (hRframes : names.length + 3 < R.frames) (hRlocals : (rest.map fun v => v.category).sum + (13 * (names.length + 1) + 42) ≤ R.locals) (hRcells : cells + 1 ≤ R.cells) (hRslots : slots + 6 ≤ R.slots) (hlocks : meth.locks = false)
    (hx : ∀ t : State, s.vm.Alike t.vm → H.size ≤ t.heap.size → (∀ q : Nat, q < H.size → t.heap[q]? = H[q]?) → XC cls s t)
    (hf : ∀ z ∈ locs, free z.base) (hc : cells + 1 ≤ mc) (hs : slots + 6 ≤ ms) :
    W p l e R s m args below meth c H locs cells slots (vx_MQ below Qc XC args s mc ms free) (F0 m pc ls rest) := by
  intro T hT X
  have htr : e.platform.stackTraces = false := (show e.platform.stackTraces = l.stackTraces by rw [X.admits.platform]).trans hl
  have Y := vx_rebase X (R' := { frames := R.frames, locals := R.locals, cells := 1, slots := 6 }) (Nat.le_refl _) (Nat.le_refl _) hRcells hRslots
  obtain ⟨s', hA⟩ : ∃ z, z = (T.setVm s.vm).setFrames (.invoking m args :: below) := ⟨_, rfl⟩
  rw [← hA] at Y
  have hvm : s'.vm = s.vm := by rw [hA]; rfl
  have hhp : s'.heap = H := by rw [hA]; exact hT
  have hW0 : s.WarmedH s'.vm := by rw [hvm]; exact State.WarmedH.refl s
  have hat' : ∀ w ∈ vx_at0 own ic cls names, w.before args s' = true := fun w hw => vx_ot_at hW0 hvm.symm (hgood w (List.mem_cons_of_mem _ (List.mem_cons_of_mem _ hw))) (hat w hw)
  have hk' : (Cond.classLink own ik cls).before args s' = true := vx_ot_at hW0 hvm.symm (hgood _ List.mem_cons_self) hk
  have hini' : (Cond.initialized cls).before args s' = true := vx_ot_at hW0 hvm.symm (hgood _ (List.mem_cons_of_mem _ List.mem_cons_self)) hini
  have hU' : vx_Zq Bundle.tN "UNASSIGNED_STACK" Bundle.steD A s' s'.heap := by rw [hhp]; exact vx_Zq.moved hW0.alike (hU.kept hS.2.1)
  have hN' : vx_Zq Bundle.tN "SUPPRESSED_SENTINEL" Bundle.listD A s' s'.heap := by rw [hhp]; exact vx_Zq.moved hW0.alike (hN.kept hS.2.1)
  have h : ∀ w ∈ Bundle.ownAtoms0 own ic cls names, w.before args s' = true := vx_own hat' (vx_isRefq hU'.1) (vx_isRefq hN'.1) hU'.2.word hN'.2.word
  have hown' : s'.vm.findClass own = some m.cls := by rw [hvm]; exact hown
  have hins : (Cond.instantiable cls 6).before args s' = true := h _ (by simp [Bundle.ownAtoms0])
  obtain ⟨vm₁, cX, kX, hfX, hkX, -, -, X₁, st1⟩ := Y.newCold hexec (own := own) (C := cls) (index := ik) (n := 6) hown' hk' hins hini'
    (g := F0 m pc ls rest) rfl (by rw [hb]; exact d0) (Nat.le_refl _) (Nat.le_refl _)
  generalize hT1 : (T.setVm vm₁).pushCell { cls := cX, slots := kX.instanceTypes.map defaultValue, vm := .none } = T1 at X₁ st1
  have hcat : (Value.ref T.heap.size).category = 1 := rfl
  have hcellA : T1.heap[T.heap.size]? = some (freshCell cX kX) := by rw [← hT1]; exact State.heap_pushCell_size _ _
  have d3' : decode c.code (pc + 3) = .ok (.dup, 1) := by rw [hb]; exact d3
  obtain ⟨U, hsteps, hrun, hend, hW, hsame, ce, hce, hO⟩ := X₁.ctorThrow0 hexec htr (own := own) (cls := cls) (names := names) (ic := ic) hown' hcls hnames h (fun x hx => nomatch hx) hfX hkX hcellA (by rw [hhp, hT]; exact Nat.le_refl _)
    (g := { method := m, pc := pc + 4, locals := ls, stack := .ref T.heap.size :: .ref T.heap.size :: rest, locked := none }) rfl hsize rfl rfl (rest := rest) rfl
    (by rw [hb]; exact d4) (by rw [hb]; exact d7) hout hRframes (by simp only [List.map_cons, List.sum_cons, hcat]; omega) hlocks
  obtain ⟨f1, f2⟩ := vx_frame hsame
  rw [hhp] at f1 f2
  have hWs : s.WarmedH U.vm := State.WarmedH.trans hW0 hW
  have hcl : s.vm.findClass cls = some ce.cls := by
    have h9 := hO.cls
    rw [hvm] at h9
    exact h9
  have hall : s.sameButNew ({ U with vm := s.vm } : State) locs mc ms := by
    subst hA
    obtain ⟨e1, e2⟩ := hsame
    rw [State.setFrames_setFrames] at e1
    have h2 : (T.setVm s.vm).sameButNew ({ U with vm := s.vm } : State) [] (0 + 1) (0 + 6) := ⟨e1, e2⟩
    have h3 := X.same.trans h2
    rw [List.append_nil] at h3
    exact h3.mono hc hs
  refine ⟨U, ?_, .threw T.heap.size, hrun, hend, Or.inr ⟨T.heap.size, rfl, cls, ce, locs, hx U hWs.alike f1 (fun q hq => f2 q hq (fun z hz => nomatch hz)), hce, hO.vm, hcl, hWs, hall, hf⟩⟩
  refine st1 _ ?_
  show Steps p.tables e below (T1.setTop { method := m, pc := pc + 3, locals := ls, stack := .ref T.heap.size :: rest, locked := none }) _
  jvm_step X₁.here [X₁.here.top, hexec, d3', Value.category]
  exact hsteps
--  'throw new E("text")': new; dup; ldc; invokespecial; athrow 
theorem vx_throwS {cc : ByteArray} {pc : Nat} (hexec : p.tables.exec = Jvm.exec) (hb : c.code = cc) (hl : l.stackTraces = false) {own cls text : String} {names : List String} {ik is ic mc ms sa : Nat} {A : Nat → Prop}
    (hown : s.vm.findClass own = some m.cls) (hcls : Bundle.fit cls = true) (hnames : ∀ n ∈ names, Bundle.fit n = true)
    (hk : (Cond.classLink own ik cls).before args s = true) (hini : (Cond.initialized cls).before args s = true) (hstr : vk_R own is text sa s) (hat : ∀ w ∈ vx_atS own ic cls names, w.before args s = true)
    (hgood : ∀ w ∈ Cond.classLink own ik cls :: Cond.initialized cls :: vx_atS own ic cls names, vx_ot w = true)
    (hU : vx_Zq Bundle.tN "UNASSIGNED_STACK" Bundle.steD A s s.heap) (hN : vx_Zq Bundle.tN "SUPPRESSED_SENTINEL" Bundle.listD A s s.heap) (hS : va_S A s.heap H locs) (hsize : ls.size = c.maxLocals)
    (d0 : decode cc pc = .ok (.new ik, 3)) (d3 : decode cc (pc + 3) = .ok (.dup, 1)) (d4 : decode cc (pc + 4) = .ok (.ldc is, 2)) (d6 : decode cc (pc + 6) = .ok (.invokespecial ic, 3)) (d9 : decode cc (pc + 9) = .ok (.athrow, 1))
    (hout : ∀ x ∈ c.exceptionTable.toList, covers x (pc + 9) = false)
    (hRframes : names.length + 3 < R.frames) (hRlocals : (rest.map fun v => v.category).sum + (13 * (names.length + 1) + 43) ≤ R.locals) (hRcells : cells + 1 ≤ R.cells) (hRslots : slots + 6 ≤ R.slots) (hlocks : meth.locks = false)
    (hx : ∀ t : State, s.vm.Alike t.vm → H.size ≤ t.heap.size → (∀ q : Nat, q < H.size → t.heap[q]? = H[q]?) → XC cls s t)
    (hf : ∀ z ∈ locs, free z.base) (hc : cells + 1 ≤ mc) (hs : slots + 6 ≤ ms) :
    W p l e R s m args below meth c H locs cells slots (vx_MQ below Qc XC args s mc ms free) (F0 m pc ls rest) := by
  intro T hT X
  have htr : e.platform.stackTraces = false := (show e.platform.stackTraces = l.stackTraces by rw [X.admits.platform]).trans hl
  have Y := vx_rebase X (R' := { frames := R.frames, locals := R.locals, cells := 1, slots := 6 }) (Nat.le_refl _) (Nat.le_refl _) hRcells hRslots
  obtain ⟨s', hA⟩ : ∃ z, z = (T.setVm s.vm).setFrames (.invoking m args :: below) := ⟨_, rfl⟩
  rw [← hA] at Y
  have hvm : s'.vm = s.vm := by rw [hA]; rfl
  have hhp : s'.heap = H := by rw [hA]; exact hT
  have hW0 : s.WarmedH s'.vm := by rw [hvm]; exact State.WarmedH.refl s
  have hat' : ∀ w ∈ vx_atS own ic cls names, w.before args s' = true := fun w hw => vx_ot_at hW0 hvm.symm (hgood w (List.mem_cons_of_mem _ (List.mem_cons_of_mem _ hw))) (hat w hw)
  have hk' : (Cond.classLink own ik cls).before args s' = true := vx_ot_at hW0 hvm.symm (hgood _ List.mem_cons_self) hk
  have hini' : (Cond.initialized cls).before args s' = true := vx_ot_at hW0 hvm.symm (hgood _ (List.mem_cons_of_mem _ List.mem_cons_self)) hini
  have hU' : vx_Zq Bundle.tN "UNASSIGNED_STACK" Bundle.steD A s' s'.heap := by rw [hhp]; exact vx_Zq.moved hW0.alike (hU.kept hS.2.1)
  have hN' : vx_Zq Bundle.tN "SUPPRESSED_SENTINEL" Bundle.listD A s' s'.heap := by rw [hhp]; exact vx_Zq.moved hW0.alike (hN.kept hS.2.1)
  have h : ∀ w ∈ Bundle.ownAtoms own ic cls names, w.before args s' = true := vx_own hat' (vx_isRefq hU'.1) (vx_isRefq hN'.1) hU'.2.word hN'.2.word
  have hown' : s'.vm.findClass own = some m.cls := by rw [hvm]; exact hown
  have hins : (Cond.instantiable cls 6).before args s' = true := h _ (by simp [Bundle.ownAtoms])
  obtain ⟨vm₁, cX, kX, hfX, hkX, -, -, X₁, st1⟩ := Y.newCold hexec (own := own) (C := cls) (index := ik) (n := 6) hown' hk' hins hini'
    (g := F0 m pc ls rest) rfl (by rw [hb]; exact d0) (Nat.le_refl _) (Nat.le_refl _)
  generalize hT1 : (T.setVm vm₁).pushCell { cls := cX, slots := kX.instanceTypes.map defaultValue, vm := .none } = T1 at X₁ st1
  have hcat : (Value.ref T.heap.size).category = 1 := rfl
  have hcellA : T1.heap[T.heap.size]? = some (freshCell cX kX) := by rw [← hT1]; exact State.heap_pushCell_size _ _
  have d3' : decode c.code (pc + 3) = .ok (.dup, 1) := by rw [hb]; exact d3
  have d4' : decode c.code (pc + 4) = .ok (.ldc is, 2) := by rw [hb]; exact d4
  have hstr' : vk_R own is text sa s' := vk_R.warm hW0 hstr
  obtain ⟨U, hsteps, hrun, hend, hW, hsame, ce, hce, hO⟩ := X₁.ctorThrowS hexec htr (own := own) (cls := cls) (names := names) (ic := ic) hown' hcls hnames h (fun x hx => nomatch hx) hfX hkX hcellA (by rw [hhp, hT]; exact Nat.le_refl _) (msg := .ref sa) rfl
    (g := { method := m, pc := pc + 6, locals := ls, stack := .ref sa :: .ref T.heap.size :: .ref T.heap.size :: rest, locked := none }) rfl hsize rfl rfl (rest := rest) rfl
    (by rw [hb]; exact d6) (by rw [hb]; exact d9) hout hRframes (by simp only [List.map_cons, List.sum_cons, hcat]; omega) hlocks
  obtain ⟨f1, f2⟩ := vx_frame hsame
  rw [hhp] at f1 f2
  have hWs : s.WarmedH U.vm := State.WarmedH.trans hW0 hW
  have hcl : s.vm.findClass cls = some ce.cls := by
    have h9 := hO.cls
    rw [hvm] at h9
    exact h9
  have hall : s.sameButNew ({ U with vm := s.vm } : State) locs mc ms := by
    subst hA
    obtain ⟨e1, e2⟩ := hsame
    rw [State.setFrames_setFrames] at e1
    have h2 : (T.setVm s.vm).sameButNew ({ U with vm := s.vm } : State) [] (0 + 1) (0 + 6) := ⟨e1, e2⟩
    have h3 := X.same.trans h2
    rw [List.append_nil] at h3
    exact h3.mono hc hs
  refine ⟨U, ?_, .threw T.heap.size, hrun, hend, Or.inr ⟨T.heap.size, rfl, cls, ce, locs, hx U hWs.alike f1 (fun q hq => f2 q hq (fun z hz => nomatch hz)), hce, hO.vm, hcl, hWs, hall, hf⟩⟩
  refine st1 _ ?_
  show Steps p.tables e below (T1.setTop { method := m, pc := pc + 3, locals := ls, stack := .ref T.heap.size :: rest, locked := none }) _
  jvm_step X₁.here [X₁.here.top, hexec, d3', Value.category]
  exact X₁.ldcString hexec (own := own) (text := text) (index := is) (a := sa) hown' hstr'.1 hstr'.2
    (g := { method := m, pc := pc + 4, locals := ls, stack := .ref T.heap.size :: .ref T.heap.size :: rest, locked := none }) rfl d4' _ hsteps
--  'throw new E("text")', the text by a wide index 
theorem vx_throwSW {cc : ByteArray} {pc : Nat} (hexec : p.tables.exec = Jvm.exec) (hb : c.code = cc) (hl : l.stackTraces = false) {own cls text : String} {names : List String} {ik is ic mc ms sa : Nat} {A : Nat → Prop}
    (hown : s.vm.findClass own = some m.cls) (hcls : Bundle.fit cls = true) (hnames : ∀ n ∈ names, Bundle.fit n = true)
    (hk : (Cond.classLink own ik cls).before args s = true) (hini : (Cond.initialized cls).before args s = true) (hstr : vk_R own is text sa s) (hat : ∀ w ∈ vx_atS own ic cls names, w.before args s = true)
    (hgood : ∀ w ∈ Cond.classLink own ik cls :: Cond.initialized cls :: vx_atS own ic cls names, vx_ot w = true)
    (hU : vx_Zq Bundle.tN "UNASSIGNED_STACK" Bundle.steD A s s.heap) (hN : vx_Zq Bundle.tN "SUPPRESSED_SENTINEL" Bundle.listD A s s.heap) (hS : va_S A s.heap H locs) (hsize : ls.size = c.maxLocals)
    (d0 : decode cc pc = .ok (.new ik, 3)) (d3 : decode cc (pc + 3) = .ok (.dup, 1)) (d4 : decode cc (pc + 4) = .ok (.ldc_w is, 3)) (d7 : decode cc (pc + 7) = .ok (.invokespecial ic, 3)) (d10 : decode cc (pc + 10) = .ok (.athrow, 1))
    (hout : ∀ x ∈ c.exceptionTable.toList, covers x (pc + 10) = false)
    (hRframes : names.length + 3 < R.frames) (hRlocals : (rest.map fun v => v.category).sum + (13 * (names.length + 1) + 43) ≤ R.locals) (hRcells : cells + 1 ≤ R.cells) (hRslots : slots + 6 ≤ R.slots) (hlocks : meth.locks = false)
    (hx : ∀ t : State, s.vm.Alike t.vm → H.size ≤ t.heap.size → (∀ q : Nat, q < H.size → t.heap[q]? = H[q]?) → XC cls s t)
    (hf : ∀ z ∈ locs, free z.base) (hc : cells + 1 ≤ mc) (hs : slots + 6 ≤ ms) :
    W p l e R s m args below meth c H locs cells slots (vx_MQ below Qc XC args s mc ms free) (F0 m pc ls rest) := by
  intro T hT X
  have htr : e.platform.stackTraces = false := (show e.platform.stackTraces = l.stackTraces by rw [X.admits.platform]).trans hl
  have Y := vx_rebase X (R' := { frames := R.frames, locals := R.locals, cells := 1, slots := 6 }) (Nat.le_refl _) (Nat.le_refl _) hRcells hRslots
  obtain ⟨s', hA⟩ : ∃ z, z = (T.setVm s.vm).setFrames (.invoking m args :: below) := ⟨_, rfl⟩
  rw [← hA] at Y
  have hvm : s'.vm = s.vm := by rw [hA]; rfl
  have hhp : s'.heap = H := by rw [hA]; exact hT
  have hW0 : s.WarmedH s'.vm := by rw [hvm]; exact State.WarmedH.refl s
  have hat' : ∀ w ∈ vx_atS own ic cls names, w.before args s' = true := fun w hw => vx_ot_at hW0 hvm.symm (hgood w (List.mem_cons_of_mem _ (List.mem_cons_of_mem _ hw))) (hat w hw)
  have hk' : (Cond.classLink own ik cls).before args s' = true := vx_ot_at hW0 hvm.symm (hgood _ List.mem_cons_self) hk
  have hini' : (Cond.initialized cls).before args s' = true := vx_ot_at hW0 hvm.symm (hgood _ (List.mem_cons_of_mem _ List.mem_cons_self)) hini
  have hU' : vx_Zq Bundle.tN "UNASSIGNED_STACK" Bundle.steD A s' s'.heap := by rw [hhp]; exact vx_Zq.moved hW0.alike (hU.kept hS.2.1)
  have hN' : vx_Zq Bundle.tN "SUPPRESSED_SENTINEL" Bundle.listD A s' s'.heap := by rw [hhp]; exact vx_Zq.moved hW0.alike (hN.kept hS.2.1)
  have h : ∀ w ∈ Bundle.ownAtoms own ic cls names, w.before args s' = true := vx_own hat' (vx_isRefq hU'.1) (vx_isRefq hN'.1) hU'.2.word hN'.2.word
  have hown' : s'.vm.findClass own = some m.cls := by rw [hvm]; exact hown
  have hins : (Cond.instantiable cls 6).before args s' = true := h _ (by simp [Bundle.ownAtoms])
  obtain ⟨vm₁, cX, kX, hfX, hkX, -, -, X₁, st1⟩ := Y.newCold hexec (own := own) (C := cls) (index := ik) (n := 6) hown' hk' hins hini'
    (g := F0 m pc ls rest) rfl (by rw [hb]; exact d0) (Nat.le_refl _) (Nat.le_refl _)
  generalize hT1 : (T.setVm vm₁).pushCell { cls := cX, slots := kX.instanceTypes.map defaultValue, vm := .none } = T1 at X₁ st1
  have hcat : (Value.ref T.heap.size).category = 1 := rfl
  have hcellA : T1.heap[T.heap.size]? = some (freshCell cX kX) := by rw [← hT1]; exact State.heap_pushCell_size _ _
  have d3' : decode c.code (pc + 3) = .ok (.dup, 1) := by rw [hb]; exact d3
  have d4' : decode c.code (pc + 4) = .ok (.ldc_w is, 3) := by rw [hb]; exact d4
  have hstr' : vk_R own is text sa s' := vk_R.warm hW0 hstr
  obtain ⟨U, hsteps, hrun, hend, hW, hsame, ce, hce, hO⟩ := X₁.ctorThrowS hexec htr (own := own) (cls := cls) (names := names) (ic := ic) hown' hcls hnames h (fun x hx => nomatch hx) hfX hkX hcellA (by rw [hhp, hT]; exact Nat.le_refl _) (msg := .ref sa) rfl
    (g := { method := m, pc := pc + 7, locals := ls, stack := .ref sa :: .ref T.heap.size :: .ref T.heap.size :: rest, locked := none }) rfl hsize rfl rfl (rest := rest) rfl
    (by rw [hb]; exact d7) (by rw [hb]; exact d10) hout hRframes (by simp only [List.map_cons, List.sum_cons, hcat]; omega) hlocks
  obtain ⟨f1, f2⟩ := vx_frame hsame
  rw [hhp] at f1 f2
  have hWs : s.WarmedH U.vm := State.WarmedH.trans hW0 hW
  have hcl : s.vm.findClass cls = some ce.cls := by
    have h9 := hO.cls
    rw [hvm] at h9
    exact h9
  have hall : s.sameButNew ({ U with vm := s.vm } : State) locs mc ms := by
    subst hA
    obtain ⟨e1, e2⟩ := hsame
    rw [State.setFrames_setFrames] at e1
    have h2 : (T.setVm s.vm).sameButNew ({ U with vm := s.vm } : State) [] (0 + 1) (0 + 6) := ⟨e1, e2⟩
    have h3 := X.same.trans h2
    rw [List.append_nil] at h3
    exact h3.mono hc hs
  refine ⟨U, ?_, .threw T.heap.size, hrun, hend, Or.inr ⟨T.heap.size, rfl, cls, ce, locs, hx U hWs.alike f1 (fun q hq => f2 q hq (fun z hz => nomatch hz)), hce, hO.vm, hcl, hWs, hall, hf⟩⟩
  refine st1 _ ?_
  show Steps p.tables e below (T1.setTop { method := m, pc := pc + 3, locals := ls, stack := .ref T.heap.size :: rest, locked := none }) _
  jvm_step X₁.here [X₁.here.top, hexec, d3', Value.category]
  exact X₁.ldcStringW hexec (own := own) (text := text) (index := is) (a := sa) hown' hstr'.1 hstr'.2
    (g := { method := m, pc := pc + 4, locals := ls, stack := .ref T.heap.size :: .ref T.heap.size :: rest, locked := none }) rfl d4' _ hsteps
end Ends
section Bodies
variable {l : Launch}
theorem vx_ofW {y : MethodName} {ws ws' : List Cond} {rm : Room} {Pc : Array Value → State → Prop} {Qc : Array Value → State → Outcome → State → Prop} {XC : String → State → State → Prop} {mc ms : Nat} {free : Addr → Prop} {cc : ByteArray} {maxL : Nat} {ret : Option FieldType}
    (hy : plainName y.cls = true) (hw : ws = Cond.code y cc maxL ret :: ws')
    (body : ∀ p e s m args below meth c s₁, BodyLoose p l y (headSpec ws rm) cc maxL ret e s m args below meth c s₁ → c.maxLocals = maxL → (∀ x ∈ c.exceptionTable.toList, False) → Pc args s →
      W p l e (headSpec ws rm).room s m args below meth c s.heap [] 0 0 (vx_MQ below Qc XC args s mc ms free) (entryFrame m args maxL)) : vx_Met l y ws rm Pc Qc XC mc ms free := by
  refine MetFree.of_bodyS (code := cc) (maxLocals := maxL) (ret := ret) hy ?_ ?_
  · intro args s m h hn
    obtain ⟨meth, c, h1, h2, h3, h4, h5, h6, -, -⟩ := Cond.code_spec hn (atoms_spec (ws := ws) h _ (by rw [hw]; exact List.mem_cons_self))
    exact ⟨meth, c, h1, h2, h3, h4, h5, h6⟩
  · intro p e s m args below meth c s₁ B hml hP _
    have hh0 : s₁.heap = s.heap := by rw [B.state]; rfl
    have ht : ∀ x ∈ c.exceptionTable.toList, False := by
      obtain ⟨meth9, c9, h1, h2, -, -, -, -, h7, -⟩ := Cond.code_spec B.named (atoms_spec (ws := ws) B.pre _ (by rw [hw]; exact List.mem_cons_self))
      cases Option.some.inj (h1.symm.trans B.method)
      cases Option.some.inj (h2.symm.trans (Stand.of_body B).code)
      intro x hx
      rw [Array.isEmpty_iff.mp h7] at hx
      cases hx
    obtain ⟨t, a1, o, b1, b2, b3⟩ := body p e s m args below meth c s₁ B hml ht hP s₁ hh0 (Stand.of_body B)
    exact ⟨t, o, a1, b1, b2, b3⟩
--  the table of a body with handlers 
theorem vx_table {p : Program} {x y : MethodName} {S : Spec} {cc bytes : ByteArray} {maxL maxL' : Nat} {ret ret' : Option FieldType} {e : Env} {s s₁ : State} {m : MethodId} {args : Array Value} {below : List Frame} {meth : Method} {c : Code} {hh : List (Nat × Nat × Nat × Nat)}
    (B : BodyLoose p l y S cc maxL ret e s m args below meth c s₁) (h : (Cond.codeWith y bytes maxL' ret' hh).before args s = true) : c.exceptionTable.toList = tableOf hh := by
  obtain ⟨m9, meth9, c9, hn9, h1, h2, -, -, h6, -⟩ := Cond.codeWith_spec h
  cases Option.some.inj (hn9.symm.trans B.named)
  cases Option.some.inj (h1.symm.trans B.method)
  cases Option.some.inj (h2.symm.trans (Stand.of_body B).code)
  rw [← h6, table_eq]
end Bodies
end VXA
/-! ===== END ===== -/
/-! ===== BEGIN a static call of a method with an exception table ===== -/
section VXS
variable {p : Program} {l : Launch} {e : Env} {R : Room} {s : State} {m : MethodId} {args : Array Value} {below : List Frame} {meth : Method} {c : Code} {T : State} {H : Heap} {locs : List Loc} {cells slots : Nat}
abbrev vx_CSW (R : Room) (s : State) (args : Array Value) (own : String) (index : Nat) (y : MethodName) (bytes : ByteArray) (maxL : Nat) (ret : Option FieldType) (hh : List (Nat × Nat × Nat × Nat)) (ws : List Cond) (rm : Room) (mc ms n : Nat) : Prop :=
  (rm.cells = mc ∧ rm.slots = ms ∧ rm.frames + 1 ≤ R.frames ∧ 8 + (maxL + 11) + rm.locals ≤ R.locals ∧ (∀ w ∈ ws, ∀ (a' : Array Value) (U : State), s.WarmedH U.vm → w.before a' U = true) ∧ Cond.codeWith y bytes maxL ret hh ∈ ws) ∧
  (Cond.codeWith y bytes maxL ret hh).before args s = true ∧ (Cond.initialized y.cls).before args s = true ∧ (y.cls ≠ "java/lang/invoke/MethodHandle" ∧ y.cls ≠ "java/lang/invoke/VarHandle") ∧
  (∀ sig, parseMethodDescriptor y.desc = some sig → n = sig.parameters.length) ∧ (Cond.methodLink own index y).before args s = true ∧ (Cond.static y).before args s = true
theorem vx_cwSW {own : String} {index maxL mc ms : Nat} {y : MethodName} {bytes : ByteArray} {ret : Option FieldType} {hh : List (Nat × Nat × Nat × Nat)} {Ts ws ws' : List Cond} {rm : Room} (n : Nat) (ht : ∀ w ∈ Ts, w.before args s = true) (hT : GoodIn Ts (va_wsS own index y ws)) (hw : ws = Cond.codeWith y bytes maxL ret hh :: ws') (hrc : rm.cells = mc) (hrs : rm.slots = ms)
    (hd : y.cls ≠ "java/lang/invoke/MethodHandle" ∧ y.cls ≠ "java/lang/invoke/VarHandle" ∧ (parseMethodDescriptor y.desc).map (fun d => d.parameters.length) = some n) (hR : rm.frames + 1 ≤ R.frames ∧ 8 + (maxL + 11) + rm.locals ≤ R.locals) :
    vx_CSW R s args own index y bytes maxL ret hh ws rm mc ms n := by
  have ok : ∀ w ∈ va_wsS own index y ws, w.before args s = true := fun w h => ht w (hT w h).1
  have hG : GoodIn Ts ws := fun w h => hT w (by unfold va_wsS; exact List.mem_append_right _ h)
  have hc : Cond.codeWith y bytes maxL ret hh ∈ ws := by rw [hw]; exact List.mem_cons_self
  refine ⟨⟨hrc, hrs, hR.1, hR.2, pay_in ht hG, hc⟩, ht _ (hG _ hc).1, ok _ (by simp [va_wsS]), ⟨hd.1, hd.2.1⟩, fun sig h => ?_, ok _ (by simp [va_wsS]), ok _ (by simp [va_wsS])⟩
  have h2 := hd.2.2
  rw [h] at h2
  exact (Option.some.inj h2).symm
theorem vx_callSW (X : Stand p l e R s m args below meth c T locs cells slots) (hexec : p.tables.exec = Jvm.exec) {own : String} {index : Nat} {y : MethodName} {bytes : ByteArray} {maxL : Nat} {ret : Option FieldType} {hh : List (Nat × Nat × Nat × Nat)}
    (hown : s.vm.findClass own = some m.cls) (hlink : (Cond.methodLink own index y).before args s = true) (hstat : (Cond.static y).before args s = true) (hinit : (Cond.initialized y.cls).before args s = true)
    (hcode : (Cond.codeWith y bytes maxL ret hh).before args s = true) (hy : y.cls ≠ "java/lang/invoke/MethodHandle" ∧ y.cls ≠ "java/lang/invoke/VarHandle")
    {W9 : Nat} {Pre : Pt → Array Value → Prop} {Post : Pt → Array Value → Option Value → Pt → Prop} (hK : Back l R p e below s args y 3 W9 Pre Post)
    {g : JFrame} (hg : g.method = m) (hsize : g.locals.size = c.maxLocals) {argsL rest : List Value} (hlen : ∀ sig, parseMethodDescriptor y.desc = some sig → argsL.length = sig.parameters.length)
    (hstack : g.stack = argsL.reverse ++ rest) (hW : 2 * g.monitorRoom + (rest.map fun v => v.category).sum ≤ W9) (hdg : decode c.code g.pc = .ok (.invokestatic index, 3))
    (hpre : ∀ vm₁, s.WarmedH vm₁ → Pre ⟨T.setVm vm₁, locs, cells, slots⟩ argsL.toArray) :
    ∃ (v : Option Value) (vm₁ : Vm) (B : Pt), s.WarmedH vm₁ ∧ Stand p l e R s m args below meth c B.U B.locs B.cells B.slots ∧ Post ⟨T.setVm vm₁, locs, cells, slots⟩ argsL.toArray v B ∧
      ∀ target, Steps p.tables e below (B.U.setTop { g with pc := g.pc + 3, stack := v.toList ++ rest }) target → Steps p.tables e below (T.setTop g) target := by
  obtain ⟨mk, methM, cM, hnamed, hmethM, -, -, -, -, -, -, hsigM⟩ := Cond.codeWith_spec hcode
  have hstatic : methM.isStatic = true := Cond.static_spec hnamed hmethM hstat
  obtain ⟨kP, hkP, -⟩ := className_of_methodNamed hnamed
  have hinitP : kP.init = .initialized := Cond.initialized_spec (findClass_of_methodNamed hnamed) hkP hinit
  obtain ⟨vm₁, X₁, hstep₁⟩ := X.invokestatic hexec hown hlink hnamed hmethM hstatic hkP hinitP hy (g := g) hg (argsL := argsL) (rest := rest) (hlen _ hsigM) hstack hdg
  obtain ⟨v, B, X', hpost, hsteps⟩ := hK m meth c ⟨T.setVm vm₁, locs, cells, slots⟩ { g with stack := rest } (.invokestatic index) mk argsL.toArray X₁ hg hsize hdg hW (X₁.named hnamed) (hpre vm₁ X₁.warmed)
  exact ⟨v, vm₁, B, X₁.warmed, X', hpost, fun target h => hstep₁ _ fun acts => by rw [doInvoke_state]; exact hsteps.trans h⟩
theorem vx_runSW {y : MethodName} {bytes cc : ByteArray} {maxL nL mc ms n index : Nat} {ret : Option FieldType} {hh : List (Nat × Nat × Nat × Nat)} {ws : List Cond} {rm : Room} {Pc : Array Value → State → Prop} {Qc : Array Value → State → Outcome → State → Prop} {free : Addr → Prop} {Ts : List Cond} {own : String} {As rest : List Value} {g : JFrame}
    (S : CallFix p m c cc nL s args Ts own) (hM : Met l y ws rm Pc Qc mc ms free) (cw : vx_CSW R s args own index y bytes maxL ret hh ws rm mc ms n) (hp : PreS s H Pc As)
    (hg : g.method = m) (hn : As.length = n) (hsize : g.locals.size = nL) (hstack : g.stack = As.reverse ++ rest) (hW : 2 * g.monitorRoom + (rest.map fun v => v.category).sum ≤ 8) (hdg : decode cc g.pc = .ok (.invokestatic index, 3)) (hf : cells + mc ≤ R.cells ∧ slots + ms ≤ R.slots) :
    va_Run p l e R s m args below meth c H locs cells slots mc ms g rest (Qc As.toArray) (free) := by
  obtain ⟨⟨hrc, hrs, hfr, hlo, hws, hcw⟩, hcode, hini, hy, hlen, hl, hstt⟩ := cw
  have hK : Back l R p e below s args y 3 8 (PreOf R mc ms Pc) (PostOf Qc mc ms free) := va_backW (hh := hh) (bytes := bytes) (maxL := maxL) (ret := ret) hM hp.1 hrc hrs hfr hlo hws hcw (fun a' U hW => word_at hW (Or.inl (by first | rfl | simp [Cond.onTables, Cond.keeps, Cond.steady])) hini)
  obtain ⟨hx, hb, hml, ho, -⟩ := S
  intro T hT X
  obtain ⟨v, vm₁, ⟨U', l2, c2, s2⟩, hW₁, X', ⟨g', mk, t, L, e1, e2, hq, h1, hL, h2, h3⟩, st⟩ := vx_callSW X hx (hh := hh) (bytes := bytes) (maxL := maxL) (ret := ret) ho hl hstt hini hcode hy hK hg (hsize.trans hml.symm) (argsL := As) (rest := rest) (fun sig h => hn.trans (hlen sig h)) hstack hW (by rw [hb]; exact hdg)
    (fun vm₁ hW₁ => ⟨hf.1, hf.2, hp.2 (T.setVm vm₁) hT hW₁⟩)
  dsimp only [Pt.U, Pt.locs, Pt.cells, Pt.slots] at X' e1 e2 h1 h2 h3 st
  subst h1; subst h2; subst h3
  exact ⟨v, (T.setVm vm₁).calling g' mk As.toArray, t, U', L, hT, X', hL, e1, e2, hq, st⟩
--  not caught here, past rows that name other classes: it goes on to the caller 
--  a thing of a world lies in the heap 
theorem vx_lt {D : va_G} {cl : List vw_C} {ws : va_W} {H1 : Heap} (h : va_P D cl ws H1) {k : Nat} {q : Nat × va_E} (hk : ws[k]? = some q) : q.1 < H1.size := (h k q hk).lt
end VXS
/-! ===== END ===== -/
/-! ===== BEGIN methods with a table of their own: called by a name, returning or throwing ===== -/
section VXH
/-! vx_backW, vx_callVX, vx_callSX, vx_callVW, vx_runVW, vx_runVX, vx_runSX, vx_ofWH follow the same proofs as their sisters above (Free/Laws.lean, Shelf42/LK1.lean); vx_outP calls Shelf42/NT130.lean (outThrough). -/
section
variable {l : Launch} {R : Room} {p : Program} {e : Env} {below : List Frame} {s : State} {sargs : Array Value} {y : MethodName} {len W9 : Nat}
theorem vx_backW {ws : List Cond} {rm : Room} {Pc : Array Value → State → Prop} {Qc : Array Value → State → Outcome → State → Prop} {XC : String → State → State → Prop} {mc ms : Nat} {free : Addr → Prop} {bytes : ByteArray} {maxL : Nat} {ret : Option FieldType} {hh : List (Nat × Nat × Nat × Nat)}
    (hM : vx_Met l y ws rm Pc Qc XC mc ms free) (hblind : FrameBlind Pc) (hrc : rm.cells = mc) (hrs : rm.slots = ms)
    (hframes : rm.frames + 1 ≤ R.frames) (hlocals : W9 + (maxL + 11) + rm.locals ≤ R.locals)
    (hws : ∀ w ∈ ws, ∀ a' U, s.WarmedH U.vm → w.before a' U = true) (hcode : Cond.codeWith y bytes maxL ret hh ∈ ws) (hinit : ∀ a' U, s.WarmedH U.vm → (Cond.initialized y.cls).before a' U = true) :
    vx_Back l R p e below s sargs y len W9 (PreOf R mc ms Pc) (PostOf Qc mc ms free) (vx_Post XC mc ms free) := by
  intro m meth c A g ig mk a X hg hsize hdg hW hn hp
  have h1 : (headSpec ws rm).pre.before a A.U = true := atoms_intro fun w hw => hws w hw _ _ X.warmed
  have h2 : (Cond.codeWith y bytes maxL ret hh).before a A.U = true := hws _ hcode _ _ X.warmed
  have h3 : (Cond.initialized y.cls).before a A.U = true := hinit _ _ X.warmed
  have h4 : A.cells + (headSpec ws rm).room.cells ≤ R.cells := by rw [show (headSpec ws rm).room.cells = mc from hrc]; exact hp.1
  have h5 : A.slots + (headSpec ws rm).room.slots ≤ R.slots := by rw [show (headSpec ws rm).room.slots = ms from hrs]; exact hp.2.1
  have hPc : Pc a (A.U.calling g mk a) := hblind _ _ _ _ hp.2.2
  obtain ⟨U, Ls, c0, s0⟩ := A
  dsimp only [Pt.U, Pt.locs, Pt.cells, Pt.slots] at h1 h2 h3 h4 h5 X hn hPc ⊢
  obtain ⟨m9, methY, cY, hn9, hmY, hcY, -, hlY, -⟩ := Cond.codeWith_spec h2
  cases Option.some.inj (hn9.symm.trans hn)
  obtain ⟨kY, hkY, -⟩ := className_of_methodNamed hn
  have hinitY : kY.init = .initialized := Cond.initialized_spec (findClass_of_methodNamed hn) hkY h3
  have h : At U g.method c below := by rw [hg]; exact X.here
  have hlocals9 : W9 + (maxL + 11) + (headSpec ws rm).room.locals ≤ R.locals := hlocals
  have happ : (headSpec ws rm).appliesLoose y e.platform (U.calling g mk a) = true :=
    Spec.appliesLoose_calling (g := g) h hdg hn hkY hinitY
      (X.room_calling (g := g) (R' := (headSpec ws rm).room) hsize hmY hcY hframes (by rw [hlY]; omega) h4 h5) h1
  obtain ⟨mid, hmid⟩ := h.above
  have hfr : (U.setTop g).frames = (.java g :: mid) ++ below := by rw [State.frames_setTop' g h.top, hmid]; rfl
  obtain ⟨o, s₂, hsteps, -, hend, hq⟩ := Steps.callFree hM p X.admits X.cas X.clock (acts := []) hfr happ hPc trivial
  have hq' : vx_Q Qc XC mc ms free a (U.calling g mk a) o s₂ := hq
  rw [State.frames_setTop' g h.top] at hend
  obtain ⟨g₀, hg0⟩ := Option.isSome_iff_exists.mp h.top
  obtain ⟨r, hr⟩ := State.topJava?_eq_some.mp hg0
  have hr' : (({ U with heap := s₂.heap, slotsUsed := s₂.slotsUsed } : State).setVm s₂.vm).frames = .java g₀ :: r := hr
  rcases hq' with ⟨hqc, L, hfe, hL⟩ | ⟨q, rfl, E, ce, L, hx, hce, hcv, hcl, hW₂, hsm, hL⟩
  · obtain ⟨⟨v, rfl⟩, hW₂, e2, q2, q3, q4, q5, q6⟩ := id hfe
    have e3 : s₂ = ({ (U.calling g mk a).setFrames s₂.frames with heap := s₂.heap, slotsUsed := s₂.slotsUsed } : State).setVm s₂.vm := by
      have : s₂ = ({ s₂ with vm := (U.calling g mk a).vm } : State).setVm s₂.vm := rfl
      rw [e2] at this
      exact this
    obtain ⟨c₂, i₂, len₂, hc₂, hd₂, hf₂⟩ := hend
    have hW' : U.WarmedH s₂.vm := hW₂
    have hcc : c₂ = c := by
      have h1 : s₂.code? g.method = U.code? g.method := by
        rw [State.code?_eq, State.code?_eq, hW'.alike.method?]
      exact Option.some.inj (hc₂.symm.trans (h1.trans h.code))
    subst hcc
    have hlen : len₂ = len := by rw [hdg] at hd₂; cases hd₂; rfl
    subst hlen
    have hs₂ : s₂ = (({ U with heap := s₂.heap, slotsUsed := s₂.slotsUsed } : State).setVm s₂.vm).setTop { g with pc := g.pc + len₂, stack := v.toList ++ g.stack } := by
      refine e3.trans ?_
      rw [hf₂, State.calling_eq h.top, State.setFrames_setFrames, State.setTop_of_frames _ hr', hr]
      rfl
    have hsame : U.sameButNew ({ U with heap := s₂.heap, slotsUsed := s₂.slotsUsed } : State) L mc ms := by
      refine ⟨?_, q2, q3, q4, q5, q6⟩
      obtain ⟨t, ht, -⟩ := State.frames_cons hr
      show ({ U with heap := s₂.heap, slotsUsed := s₂.slotsUsed } : State) = { U.setFrames U.frames with heap := s₂.heap, slotsUsed := s₂.slotsUsed }
      rw [State.setFrames_self ht]
    subst hg
    refine Or.inl ⟨v, ⟨(({ U with heap := s₂.heap, slotsUsed := s₂.slotsUsed } : State).setVm s₂.vm), Ls ++ L, c0 + mc, s0 + ms⟩,
      ⟨X.admits, X.cas, X.clock, X.frames, X.room, X.hears, X.method, X.code, (X.here.setHeapUsed s₂.heap s₂.slotsUsed).setVm hW'.alike, X.tail, State.WarmedH.trans X.warmed hW', X.limits, X.bytes, X.same.trans (hsame.setVm s.vm)⟩,
      ⟨g, mk, s₂, L, rfl, rfl, hqc, rfl, hL, rfl, rfl⟩, ?_⟩
    show Steps p.tables e below _ ((({ U with heap := s₂.heap, slotsUsed := s₂.slotsUsed } : State).setVm s₂.vm).setTop { g with pc := g.pc + len₂, stack := v.toList ++ g.stack })
    rw [← hs₂]
    exact hsteps
  · obtain ⟨e2, q2, q3, q4, q5, q6⟩ := id hsm
    have e3 : s₂ = ({ (U.calling g mk a).setFrames s₂.frames with heap := s₂.heap, slotsUsed := s₂.slotsUsed } : State).setVm s₂.vm := by
      have : s₂ = ({ s₂ with vm := (U.calling g mk a).vm } : State).setVm s₂.vm := rfl
      rw [e2] at this
      exact this
    have hf₂ : s₂.frames = .throwing q :: .java g :: U.frames.tail := hend
    have hW' : U.WarmedH s₂.vm := hW₂
    have hs₂ : s₂ = ((({ U with heap := s₂.heap, slotsUsed := s₂.slotsUsed } : State).setVm s₂.vm).setTop g).pushFrame (.throwing q) := by
      refine e3.trans ?_
      rw [hf₂, State.calling_eq h.top, State.setFrames_setFrames, State.pushFrame, State.frames_setTop _ hr', State.setTop_of_frames _ hr', State.setFrames_setFrames, hr]
      rfl
    have hsame : U.sameButNew ({ U with heap := s₂.heap, slotsUsed := s₂.slotsUsed } : State) L mc ms := by
      refine ⟨?_, q2, q3, q4, q5, q6⟩
      obtain ⟨t, ht, -⟩ := State.frames_cons hr
      show ({ U with heap := s₂.heap, slotsUsed := s₂.slotsUsed } : State) = { U.setFrames U.frames with heap := s₂.heap, slotsUsed := s₂.slotsUsed }
      rw [State.setFrames_self ht]
    subst hg
    refine Or.inr ⟨q, ⟨(({ U with heap := s₂.heap, slotsUsed := s₂.slotsUsed } : State).setVm s₂.vm), Ls ++ L, c0 + mc, s0 + ms⟩,
      ⟨X.admits, X.cas, X.clock, X.frames, X.room, X.hears, X.method, X.code, (X.here.setHeapUsed s₂.heap s₂.slotsUsed).setVm hW'.alike, X.tail, State.WarmedH.trans X.warmed hW', X.limits, X.bytes, X.same.trans (hsame.setVm s.vm)⟩,
      ⟨g, mk, s₂, L, E, ce, rfl, rfl, hx, hce, hcv, hcl, rfl, hL, rfl, rfl⟩, ?_⟩
    show Steps p.tables e below _ (((({ U with heap := s₂.heap, slotsUsed := s₂.slotsUsed } : State).setVm s₂.vm).setTop g).pushFrame (.throwing q))
    rw [← hs₂]
    exact hsteps
end
variable {p : Program} {l : Launch} {e : Env} {R : Room} {s : State} {m : MethodId} {args : Array Value} {below : List Frame} {meth : Method} {c : Code} {T : State} {H : Heap} {locs : List Loc} {cells slots : Nat}
theorem vx_callVX (X : Stand p l e R s m args below meth c T locs cells slots) (hexec : p.tables.exec = Jvm.exec) {own C : String} {index : Nat} {y : MethodName} {bytes : ByteArray} {maxL : Nat} {ret : Option FieldType} {hh : List (Nat × Nat × Nat × Nat)}
    (hown : s.vm.findClass own = some m.cls) (hlink : (Cond.methodLink own index y).before args s = true) (hinst : (Cond.instanceMethod y).before args s = true) (hsel : (Cond.selects C y y).before args s = true)
    (hcode : (Cond.codeWith y bytes maxL ret hh).before args s = true) (hy : y.cls ≠ "java/lang/invoke/MethodHandle" ∧ y.cls ≠ "java/lang/invoke/VarHandle")
    {W9 : Nat} {Pre : Pt → Array Value → Prop} {Post : Pt → Array Value → Option Value → Pt → Prop} {PostX : Pt → Array Value → Addr → Pt → Prop} (hK : vx_Back l R p e below s args y 3 W9 Pre Post PostX)
    {b : Addr} {cellB : Cell} (hcell : T.heap[b]? = some cellB) (hobj : cellB.vm.isStatics = false) (hcls : s.vm.findClass C = some cellB.cls)
    {g : JFrame} (hg : g.method = m) (hsize : g.locals.size = c.maxLocals) {argsL rest : List Value} (hlen : ∀ sig, parseMethodDescriptor y.desc = some sig → argsL.length = sig.parameters.length)
    (hstack : g.stack = argsL.reverse ++ .ref b :: rest) (hW : 2 * g.monitorRoom + (rest.map fun v => v.category).sum ≤ W9) (hdg : decode c.code g.pc = .ok (.invokevirtual index, 3))
    (hpre : ∀ vm₁, s.WarmedH vm₁ → Pre ⟨T.setVm vm₁, locs, cells, slots⟩ (Value.ref b :: argsL).toArray) :
    (∃ (v : Option Value) (vm₁ : Vm) (B : Pt), s.WarmedH vm₁ ∧ Stand p l e R s m args below meth c B.U B.locs B.cells B.slots ∧ Post ⟨T.setVm vm₁, locs, cells, slots⟩ (Value.ref b :: argsL).toArray v B ∧
      ∀ target, Steps p.tables e below (B.U.setTop { g with pc := g.pc + 3, stack := v.toList ++ rest }) target → Steps p.tables e below (T.setTop g) target) ∨
    (∃ (q : Addr) (vm₁ : Vm) (B : Pt), s.WarmedH vm₁ ∧ Stand p l e R s m args below meth c B.U B.locs B.cells B.slots ∧ PostX ⟨T.setVm vm₁, locs, cells, slots⟩ (Value.ref b :: argsL).toArray q B ∧
      Steps p.tables e below (T.setTop g) ((B.U.setTop { g with stack := rest }).pushFrame (.throwing q))) := by
  obtain ⟨mk, methM, hnamed, hmethM, hstM, habM⟩ := Cond.instanceMethod_spec hinst
  obtain ⟨m8, methM', cM, hn8, hmethM', -, -, -, -, -, -, hsigM⟩ := Cond.codeWith_spec hcode
  cases Option.some.inj (hn8.symm.trans hnamed)
  cases hmethM.symm.trans hmethM'
  obtain ⟨c2, r2, m2, q1, q2, q3, q4, kP, hkP, hkPi⟩ := Cond.selects_spec hsel
  cases hcls.symm.trans q1
  cases (State.methodFound?_of_named hnamed hy).symm.trans q2
  cases hnamed.symm.trans q3
  have hselP : selectMethod e.platform s.vm cellB.cls mk = .method mk := by rw [Launch.admits_selectMethod X.admits]; exact q4
  obtain ⟨vm₁, X₁, hstep₁⟩ := X.invokevirtual hexec hown hlink hnamed hmethM hstM hkP hkPi hy (a := b) (cell := cellB) hcell
    (fun z h => by rw [h] at hobj; cases hobj) hselP hmethM habM hkP hkPi (g := g) hg (argsL := argsL) (rest := rest) (hlen _ hsigM) hstack hdg
  rcases hK m meth c ⟨T.setVm vm₁, locs, cells, slots⟩ { g with stack := rest } (.invokevirtual index) mk (Value.ref b :: argsL).toArray X₁ hg hsize hdg hW (X₁.named hnamed) (hpre vm₁ X₁.warmed) with ⟨v, B, X', hpost, hsteps⟩ | ⟨q, B, X', hpost, hsteps⟩
  · exact Or.inl ⟨v, vm₁, B, X₁.warmed, X', hpost, fun target h => hstep₁ _ fun acts => by rw [doInvoke_state]; exact hsteps.trans h⟩
  · exact Or.inr ⟨q, vm₁, B, X₁.warmed, X', hpost, hstep₁ _ fun acts => by rw [doInvoke_state]; exact hsteps⟩
theorem vx_callSX (X : Stand p l e R s m args below meth c T locs cells slots) (hexec : p.tables.exec = Jvm.exec) {own : String} {index : Nat} {y : MethodName} {bytes : ByteArray} {maxL : Nat} {ret : Option FieldType} {hh : List (Nat × Nat × Nat × Nat)}
    (hown : s.vm.findClass own = some m.cls) (hlink : (Cond.methodLink own index y).before args s = true) (hstat : (Cond.static y).before args s = true) (hinit : (Cond.initialized y.cls).before args s = true)
    (hcode : (Cond.codeWith y bytes maxL ret hh).before args s = true) (hy : y.cls ≠ "java/lang/invoke/MethodHandle" ∧ y.cls ≠ "java/lang/invoke/VarHandle")
    {W9 : Nat} {Pre : Pt → Array Value → Prop} {Post : Pt → Array Value → Option Value → Pt → Prop} {PostX : Pt → Array Value → Addr → Pt → Prop} (hK : vx_Back l R p e below s args y 3 W9 Pre Post PostX)
    {g : JFrame} (hg : g.method = m) (hsize : g.locals.size = c.maxLocals) {argsL rest : List Value} (hlen : ∀ sig, parseMethodDescriptor y.desc = some sig → argsL.length = sig.parameters.length)
    (hstack : g.stack = argsL.reverse ++ rest) (hW : 2 * g.monitorRoom + (rest.map fun v => v.category).sum ≤ W9) (hdg : decode c.code g.pc = .ok (.invokestatic index, 3))
    (hpre : ∀ vm₁, s.WarmedH vm₁ → Pre ⟨T.setVm vm₁, locs, cells, slots⟩ argsL.toArray) :
    (∃ (v : Option Value) (vm₁ : Vm) (B : Pt), s.WarmedH vm₁ ∧ Stand p l e R s m args below meth c B.U B.locs B.cells B.slots ∧ Post ⟨T.setVm vm₁, locs, cells, slots⟩ argsL.toArray v B ∧
      ∀ target, Steps p.tables e below (B.U.setTop { g with pc := g.pc + 3, stack := v.toList ++ rest }) target → Steps p.tables e below (T.setTop g) target) ∨
    (∃ (q : Addr) (vm₁ : Vm) (B : Pt), s.WarmedH vm₁ ∧ Stand p l e R s m args below meth c B.U B.locs B.cells B.slots ∧ PostX ⟨T.setVm vm₁, locs, cells, slots⟩ argsL.toArray q B ∧
      Steps p.tables e below (T.setTop g) ((B.U.setTop { g with stack := rest }).pushFrame (.throwing q))) := by
  obtain ⟨mk, methM, cM, hnamed, hmethM, -, -, -, -, -, -, hsigM⟩ := Cond.codeWith_spec hcode
  have hstatic : methM.isStatic = true := Cond.static_spec hnamed hmethM hstat
  obtain ⟨kP, hkP, -⟩ := className_of_methodNamed hnamed
  have hinitP : kP.init = .initialized := Cond.initialized_spec (findClass_of_methodNamed hnamed) hkP hinit
  obtain ⟨vm₁, X₁, hstep₁⟩ := X.invokestatic hexec hown hlink hnamed hmethM hstatic hkP hinitP hy (g := g) hg (argsL := argsL) (rest := rest) (hlen _ hsigM) hstack hdg
  rcases hK m meth c ⟨T.setVm vm₁, locs, cells, slots⟩ { g with stack := rest } (.invokestatic index) mk argsL.toArray X₁ hg hsize hdg hW (X₁.named hnamed) (hpre vm₁ X₁.warmed) with ⟨v, B, X', hpost, hsteps⟩ | ⟨q, B, X', hpost, hsteps⟩
  · exact Or.inl ⟨v, vm₁, B, X₁.warmed, X', hpost, fun target h => hstep₁ _ fun acts => by rw [doInvoke_state]; exact hsteps.trans h⟩
  · exact Or.inr ⟨q, vm₁, B, X₁.warmed, X', hpost, hstep₁ _ fun acts => by rw [doInvoke_state]; exact hsteps⟩
theorem vx_callVW (X : Stand p l e R s m args below meth c T locs cells slots) (hexec : p.tables.exec = Jvm.exec) {own C : String} {index : Nat} {y : MethodName} {bytes : ByteArray} {maxL : Nat} {ret : Option FieldType} {hh : List (Nat × Nat × Nat × Nat)}
    (hown : s.vm.findClass own = some m.cls) (hlink : (Cond.methodLink own index y).before args s = true) (hinst : (Cond.instanceMethod y).before args s = true) (hsel : (Cond.selects C y y).before args s = true)
    (hcode : (Cond.codeWith y bytes maxL ret hh).before args s = true) (hy : y.cls ≠ "java/lang/invoke/MethodHandle" ∧ y.cls ≠ "java/lang/invoke/VarHandle")
    {W9 : Nat} {Pre : Pt → Array Value → Prop} {Post : Pt → Array Value → Option Value → Pt → Prop} (hK : Back l R p e below s args y 3 W9 Pre Post)
    {b : Addr} {cellB : Cell} (hcell : T.heap[b]? = some cellB) (hobj : cellB.vm.isStatics = false) (hcls : s.vm.findClass C = some cellB.cls)
    {g : JFrame} (hg : g.method = m) (hsize : g.locals.size = c.maxLocals) {argsL rest : List Value} (hlen : ∀ sig, parseMethodDescriptor y.desc = some sig → argsL.length = sig.parameters.length)
    (hstack : g.stack = argsL.reverse ++ .ref b :: rest) (hW : 2 * g.monitorRoom + (rest.map fun v => v.category).sum ≤ W9) (hdg : decode c.code g.pc = .ok (.invokevirtual index, 3))
    (hpre : ∀ vm₁, s.WarmedH vm₁ → Pre ⟨T.setVm vm₁, locs, cells, slots⟩ (Value.ref b :: argsL).toArray) :
    ∃ (v : Option Value) (vm₁ : Vm) (B : Pt), s.WarmedH vm₁ ∧ Stand p l e R s m args below meth c B.U B.locs B.cells B.slots ∧ Post ⟨T.setVm vm₁, locs, cells, slots⟩ (Value.ref b :: argsL).toArray v B ∧
      ∀ target, Steps p.tables e below (B.U.setTop { g with pc := g.pc + 3, stack := v.toList ++ rest }) target → Steps p.tables e below (T.setTop g) target := by
  obtain ⟨mk, methM, hnamed, hmethM, hstM, habM⟩ := Cond.instanceMethod_spec hinst
  obtain ⟨m8, methM', cM, hn8, hmethM', -, -, -, -, -, -, hsigM⟩ := Cond.codeWith_spec hcode
  cases Option.some.inj (hn8.symm.trans hnamed)
  cases hmethM.symm.trans hmethM'
  obtain ⟨c2, r2, m2, q1, q2, q3, q4, kP, hkP, hkPi⟩ := Cond.selects_spec hsel
  cases hcls.symm.trans q1
  cases (State.methodFound?_of_named hnamed hy).symm.trans q2
  cases hnamed.symm.trans q3
  have hselP : selectMethod e.platform s.vm cellB.cls mk = .method mk := by rw [Launch.admits_selectMethod X.admits]; exact q4
  obtain ⟨vm₁, X₁, hstep₁⟩ := X.invokevirtual hexec hown hlink hnamed hmethM hstM hkP hkPi hy (a := b) (cell := cellB) hcell
    (fun z h => by rw [h] at hobj; cases hobj) hselP hmethM habM hkP hkPi (g := g) hg (argsL := argsL) (rest := rest) (hlen _ hsigM) hstack hdg
  obtain ⟨v, B, X', hpost, hsteps⟩ := hK m meth c ⟨T.setVm vm₁, locs, cells, slots⟩ { g with stack := rest } (.invokevirtual index) mk (Value.ref b :: argsL).toArray X₁ hg hsize hdg hW (X₁.named hnamed) (hpre vm₁ X₁.warmed)
  exact ⟨v, vm₁, B, X₁.warmed, X', hpost, fun target h => hstep₁ _ fun acts => by rw [doInvoke_state]; exact hsteps.trans h⟩
abbrev vx_CVW (R : Room) (s : State) (args : Array Value) (own C : String) (index : Nat) (y : MethodName) (bytes : ByteArray) (maxL : Nat) (ret : Option FieldType) (hh : List (Nat × Nat × Nat × Nat)) (ws : List Cond) (rm : Room) (mc ms n : Nat) : Prop :=
  (rm.cells = mc ∧ rm.slots = ms ∧ rm.frames + 1 ≤ R.frames ∧ 8 + (maxL + 11) + rm.locals ≤ R.locals ∧ (∀ w ∈ ws, ∀ (a' : Array Value) (U : State), s.WarmedH U.vm → w.before a' U = true) ∧ Cond.codeWith y bytes maxL ret hh ∈ ws) ∧
  (Cond.codeWith y bytes maxL ret hh).before args s = true ∧ (Cond.initialized y.cls).before args s = true ∧ (y.cls ≠ "java/lang/invoke/MethodHandle" ∧ y.cls ≠ "java/lang/invoke/VarHandle") ∧
  (∀ sig, parseMethodDescriptor y.desc = some sig → n = sig.parameters.length) ∧ (Cond.methodLink own index y).before args s = true ∧ (Cond.instanceMethod y).before args s = true ∧ (Cond.selects C y y).before args s = true
theorem vx_cwVW {own C : String} {index maxL mc ms : Nat} {y : MethodName} {bytes : ByteArray} {ret : Option FieldType} {hh : List (Nat × Nat × Nat × Nat)} {Ts ws ws' : List Cond} {rm : Room} (n : Nat) (ht : ∀ w ∈ Ts, w.before args s = true) (hT : GoodIn Ts (wsV own index C y ws)) (hw : ws = Cond.codeWith y bytes maxL ret hh :: ws') (hrc : rm.cells = mc) (hrs : rm.slots = ms)
    (hd : y.cls = C ∧ y.cls ≠ "java/lang/invoke/MethodHandle" ∧ y.cls ≠ "java/lang/invoke/VarHandle" ∧ (parseMethodDescriptor y.desc).map (fun d => d.parameters.length) = some n) (hR : rm.frames + 1 ≤ R.frames ∧ 8 + (maxL + 11) + rm.locals ≤ R.locals) :
    vx_CVW R s args own C index y bytes maxL ret hh ws rm mc ms n := by
  obtain ⟨hC, hd⟩ := hd
  subst hC
  have ok : ∀ w ∈ wsV own index y.cls y ws, w.before args s = true := fun w h => ht w (hT w h).1
  have hG : GoodIn Ts ws := fun w h => hT w (by unfold wsV; exact List.mem_append_right _ h)
  have hc : Cond.codeWith y bytes maxL ret hh ∈ ws := by rw [hw]; exact List.mem_cons_self
  refine ⟨⟨hrc, hrs, hR.1, hR.2, pay_in ht hG, hc⟩, ht _ (hG _ hc).1, ok _ (by simp [wsV]), ⟨hd.1, hd.2.1⟩, fun sig h => ?_, ok _ (by simp [wsV]), ok _ (by simp [wsV]), ok _ (by simp [wsV])⟩
  have h2 := hd.2.2
  rw [h] at h2
  exact (Option.some.inj h2).symm
theorem vx_runVW {y : MethodName} {bytes cc : ByteArray} {maxL nL mc ms n index : Nat} {ret : Option FieldType} {hh : List (Nat × Nat × Nat × Nat)} {ws : List Cond} {rm : Room} {Pc : Array Value → State → Prop} {Qc : Array Value → State → Outcome → State → Prop} {free : Addr → Prop} {Ts : List Cond} {own C : String} {b : Addr} {As rest : List Value} {g : JFrame}
    (S : CallFix p m c cc nL s args Ts own) (hM : Met l y ws rm Pc Qc mc ms free) (cw : vx_CVW R s args own C index y bytes maxL ret hh ws rm mc ms n) (hp : PreV s H C b Pc As)
    (hg : g.method = m) (hn : As.length = n) (hsize : g.locals.size = nL) (hstack : g.stack = As.reverse ++ .ref b :: rest) (hW : 2 * g.monitorRoom + (rest.map fun v => v.category).sum ≤ 8) (hdg : decode cc g.pc = .ok (.invokevirtual index, 3)) (hf : cells + mc ≤ R.cells ∧ slots + ms ≤ R.slots) :
    va_Run p l e R s m args below meth c H locs cells slots mc ms g rest (Qc (Value.ref b :: As).toArray) free := by
  obtain ⟨⟨hrc, hrs, hfr, hlo, hws, hcw⟩, hcode, hini, hy, hlen, hl, hin, hse⟩ := cw
  have hK : Back l R p e below s args y 3 8 (PreOf R mc ms Pc) (PostOf Qc mc ms free) := va_backW (hh := hh) (bytes := bytes) (maxL := maxL) (ret := ret) hM hp.1 hrc hrs hfr hlo hws hcw (fun a' U hW => word_at hW (Or.inl (by first | rfl | simp [Cond.onTables, Cond.keeps, Cond.steady])) hini)
  obtain ⟨hx, hb, hml, ho, -⟩ := S
  obtain ⟨-, ⟨cellB, hcB, hoB, hclB⟩, hPc⟩ := hp
  intro T hT X
  obtain ⟨v, vm₁, ⟨U', l2, c2, s2⟩, hW₁, X', ⟨g', mk, t, L, e1, e2, hq, h1, hL, h2, h3⟩, st⟩ := vx_callVW X hx (C := C) (hh := hh) (bytes := bytes) (maxL := maxL) (ret := ret) ho hl hin hse hcode hy hK (by rw [hT]; exact hcB) hoB hclB hg (hsize.trans hml.symm) (argsL := As) (rest := rest) (fun sig h => hn.trans (hlen sig h)) hstack hW (by rw [hb]; exact hdg)
    (fun vm₁ hW₁ => ⟨hf.1, hf.2, hPc (T.setVm vm₁) hT hW₁⟩)
  dsimp only [Pt.U, Pt.locs, Pt.cells, Pt.slots] at X' e1 e2 h1 h2 h3 st
  subst h1; subst h2; subst h3
  exact ⟨v, (T.setVm vm₁).calling g' mk (Value.ref b :: As).toArray, t, U', L, hT, X', hL, e1, e2, hq, st⟩
section
variable {y : MethodName} {bytes cc : ByteArray} {maxL nL mc ms n index : Nat} {ret : Option FieldType} {ws : List Cond} {rm : Room} {Pc : Array Value → State → Prop} {Qc : Array Value → State → Outcome → State → Prop} {XC : String → State → State → Prop} {free : Addr → Prop} {Ts : List Cond} {own C : String} {b : Addr} {As rest : List Value} {g : JFrame}
theorem vx_runVX {hh : List (Nat × Nat × Nat × Nat)} (S : CallFix p m c cc nL s args Ts own) (hM : vx_Met l y ws rm Pc Qc XC mc ms free) (cw : vx_CVW R s args own C index y bytes maxL ret hh ws rm mc ms n) (hp : PreV s H C b Pc As)
    (hg : g.method = m) (hn : As.length = n) (hsize : g.locals.size = nL) (hstack : g.stack = As.reverse ++ .ref b :: rest) (hW : 2 * g.monitorRoom + (rest.map fun v => v.category).sum ≤ 8) (hdg : decode cc g.pc = .ok (.invokevirtual index, 3)) (hf : cells + mc ≤ R.cells ∧ slots + ms ≤ R.slots) :
    vx_Run p l e R s m args below meth c H locs cells slots mc ms g rest (Qc (Value.ref b :: As).toArray) XC free := by
  obtain ⟨⟨hrc, hrs, hfr, hlo, hws, hcw⟩, hcode, hini, hy, hlen, hl, hin, hse⟩ := cw
  have hK : vx_Back l R p e below s args y 3 8 (PreOf R mc ms Pc) (PostOf Qc mc ms free) (vx_Post XC mc ms free) := vx_backW (hh := hh) (bytes := bytes) (maxL := maxL) (ret := ret) hM hp.1 hrc hrs hfr hlo hws hcw (fun a' U hW => word_at hW (Or.inl (by first | rfl | simp [Cond.onTables, Cond.keeps, Cond.steady])) hini)
  obtain ⟨hx, hb, hml, ho, -⟩ := S
  obtain ⟨-, ⟨cellB, hcB, hoB, hclB⟩, hPc⟩ := hp
  intro T hT X
  rcases vx_callVX X hx (C := C) (hh := hh) (bytes := bytes) (maxL := maxL) (ret := ret) ho hl hin hse hcode hy hK (by rw [hT]; exact hcB) hoB hclB hg (hsize.trans hml.symm) (argsL := As) (rest := rest) (fun sig h => hn.trans (hlen sig h)) hstack hW (by rw [hb]; exact hdg)
    (fun vm₁ hW₁ => ⟨hf.1, hf.2, hPc (T.setVm vm₁) hT hW₁⟩) with ⟨v, vm₁, ⟨U', l2, c2, s2⟩, hW₁, X', ⟨g', mk, t, L, e1, e2, hq, h1, hL, h2, h3⟩, st⟩ | ⟨q, vm₁, ⟨U', l2, c2, s2⟩, hW₁, X', ⟨g', mk, t, L, E, ce, e1, e2, hq, hce, hcv, hcl, h1, hL, h2, h3⟩, st⟩
  · dsimp only [Pt.U, Pt.locs, Pt.cells, Pt.slots] at X' e1 e2 h1 h2 h3 st
    subst h1; subst h2; subst h3
    exact Or.inl ⟨v, (T.setVm vm₁).calling g' mk (Value.ref b :: As).toArray, t, U', L, hT, X', hL, e1, e2, hq, st⟩
  · dsimp only [Pt.U, Pt.locs, Pt.cells, Pt.slots] at X' e1 e2 h1 h2 h3 st hcl
    subst h1; subst h2; subst h3
    exact Or.inr ⟨q, (T.setVm vm₁).calling g' mk (Value.ref b :: As).toArray, t, U', L, E, ce, hT, X', hL, e1, e2, hq, hce, hcv, vx_cls hW₁ hcl, st⟩
theorem vx_runSX {hh : List (Nat × Nat × Nat × Nat)} (S : CallFix p m c cc nL s args Ts own) (hM : vx_Met l y ws rm Pc Qc XC mc ms free) (cw : vx_CSW R s args own index y bytes maxL ret hh ws rm mc ms n) (hp : PreS s H Pc As)
    (hg : g.method = m) (hn : As.length = n) (hsize : g.locals.size = nL) (hstack : g.stack = As.reverse ++ rest) (hW : 2 * g.monitorRoom + (rest.map fun v => v.category).sum ≤ 8) (hdg : decode cc g.pc = .ok (.invokestatic index, 3)) (hf : cells + mc ≤ R.cells ∧ slots + ms ≤ R.slots) :
    vx_Run p l e R s m args below meth c H locs cells slots mc ms g rest (Qc As.toArray) XC free := by
  obtain ⟨⟨hrc, hrs, hfr, hlo, hws, hcw⟩, hcode, hini, hy, hlen, hl, hstt⟩ := cw
  have hK : vx_Back l R p e below s args y 3 8 (PreOf R mc ms Pc) (PostOf Qc mc ms free) (vx_Post XC mc ms free) := vx_backW (hh := hh) (bytes := bytes) (maxL := maxL) (ret := ret) hM hp.1 hrc hrs hfr hlo hws hcw (fun a' U hW => word_at hW (Or.inl (by first | rfl | simp [Cond.onTables, Cond.keeps, Cond.steady])) hini)
  obtain ⟨hx, hb, hml, ho, -⟩ := S
  intro T hT X
  rcases vx_callSX X hx (hh := hh) (bytes := bytes) (maxL := maxL) (ret := ret) ho hl hstt hini hcode hy hK hg (hsize.trans hml.symm) (argsL := As) (rest := rest) (fun sig h => hn.trans (hlen sig h)) hstack hW (by rw [hb]; exact hdg)
    (fun vm₁ hW₁ => ⟨hf.1, hf.2, hp.2 (T.setVm vm₁) hT hW₁⟩) with ⟨v, vm₁, ⟨U', l2, c2, s2⟩, hW₁, X', ⟨g', mk, t, L, e1, e2, hq, h1, hL, h2, h3⟩, st⟩ | ⟨q, vm₁, ⟨U', l2, c2, s2⟩, hW₁, X', ⟨g', mk, t, L, E, ce, e1, e2, hq, hce, hcv, hcl, h1, hL, h2, h3⟩, st⟩
  · dsimp only [Pt.U, Pt.locs, Pt.cells, Pt.slots] at X' e1 e2 h1 h2 h3 st
    subst h1; subst h2; subst h3
    exact Or.inl ⟨v, (T.setVm vm₁).calling g' mk As.toArray, t, U', L, hT, X', hL, e1, e2, hq, st⟩
  · dsimp only [Pt.U, Pt.locs, Pt.cells, Pt.slots] at X' e1 e2 h1 h2 h3 st hcl
    subst h1; subst h2; subst h3
    exact Or.inr ⟨q, (T.setVm vm₁).calling g' mk As.toArray, t, U', L, E, ce, hT, X', hL, e1, e2, hq, hce, hcv, vx_cls hW₁ hcl, st⟩
end
end VXH
theorem vx_ofWH {l : Launch} {y : MethodName} {ws ws' : List Cond} {rm : Room} {Pc : Array Value → State → Prop} {Qc : Array Value → State → Outcome → State → Prop} {XC : String → State → State → Prop} {mc ms : Nat} {free : Addr → Prop} {cc : ByteArray} {maxL : Nat} {ret : Option FieldType} {hh : List (Nat × Nat × Nat × Nat)}
    (hy : plainName y.cls = true) (hw : ws = Cond.codeWith y cc maxL ret hh :: ws')
    (body : ∀ p e s m args below meth c s₁, BodyLoose p l y (headSpec ws rm) cc maxL ret e s m args below meth c s₁ → c.maxLocals = maxL → Pc args s →
      W p l e (headSpec ws rm).room s m args below meth c s.heap [] 0 0 (vx_MQ below Qc XC args s mc ms free) (entryFrame m args maxL)) : vx_Met l y ws rm Pc Qc XC mc ms free := by
  refine MetFree.of_bodyS (code := cc) (maxLocals := maxL) (ret := ret) hy ?_ ?_
  · intro args s m h hn
    obtain ⟨m9, meth, c, hn9, h1, h2, h3, h4, -, h5, h6, -⟩ := Cond.codeWith_spec (atoms_spec (ws := ws) h _ (by rw [hw]; exact List.mem_cons_self))
    cases hn.symm.trans hn9
    exact ⟨meth, c, h1, h2, h3, h4, h5, h6⟩
  · intro p e s m args below meth c s₁ B hml hP _
    have hh0 : s₁.heap = s.heap := by rw [B.state]; rfl
    obtain ⟨t, a1, o, b1, b2, b3⟩ := body p e s m args below meth c s₁ B hml hP s₁ hh0 (Stand.of_body B)
    exact ⟨t, o, a1, b1, b2, b3⟩
/-! ===== END ===== -/
end
section
/-! ===== BEGIN printed: names, fields, word lists, decode rows ===== -/
def RX0 : String := "TrustedUpdates$Document"
def TX0 : u_T := fun k => match k with
  | 0 => ("TrustedUpdates$Document", "row", "LTrustedUpdates$Row;", true)
  | 1 => ("TrustedUpdates$Document", "keySets", "[I", true)
  | 2 => ("TrustedUpdates$Document", "versions", "[I", true)
  | 3 => ("TrustedUpdates$Document", "targets", "[I", true)
  | 4 => ("TrustedUpdates$Document", "delegations", "[I", true)
  | 5 => ("TrustedUpdates$Document", "place", "I", false)
  | 6 => ("TrustedUpdates$Document", "sound", "Z", false)
  | 7 => ("TrustedUpdates$Document", "bare", "Z", false)
  | 8 => ("TrustedUpdates$Document", "whole", "Z", false)
  | 9 => ("TrustedUpdates$Document", "role", "I", false)
  | 10 => ("TrustedUpdates$Document", "version", "I", false)
  | 11 => ("TrustedUpdates$Document", "end", "I", false)
  | 12 => ("TrustedUpdates$Document", "targetCount", "I", false)
  | 13 => ("TrustedUpdates$Document", "delegationCount", "I", false)
  | _ => ("TrustedUpdates$Document", "signedSize", "I", false)
def tyX0 : Nat → FieldType := fun k => match k with
  | 0 => .object "TrustedUpdates$Row"
  | 1 => .array .int
  | 2 => .array .int
  | 3 => .array .int
  | 4 => .array .int
  | 5 => .int
  | 6 => .boolean
  | 7 => .boolean
  | 8 => .boolean
  | 9 => .int
  | 10 => .int
  | 11 => .int
  | 12 => .int
  | 13 => .int
  | _ => .int
abbrev wsX00 : List Cond := u_ws RX0 TX0 15
theorem nmX0 : ∀ a, a < 15 → ∀ b, b < 15 → a ≠ b → (TX0 a).2.1 ≠ (TX0 b).2.1 := by decide +kernel
theorem tyX0_ok : ∀ k, k < 15 → parseFieldDescriptor (TX0 k).2.2.1 = some (tyX0 k) := by decide +kernel
abbrev cX0_init : ByteArray := prog_2_method_1_code
def yX0_init : MethodName := ⟨RX0, "<init>", "()V"⟩
abbrev cX0_isWhole : ByteArray := prog_2_method_2_code
def yX0_isWhole : MethodName := ⟨RX0, "isWhole", "()Z"⟩
abbrev cX0_isBare : ByteArray := prog_2_method_3_code
def yX0_isBare : MethodName := ⟨RX0, "isBare", "()Z"⟩
abbrev cX0_row : ByteArray := prog_2_method_4_code
def yX0_row : MethodName := ⟨RX0, "row", "()LTrustedUpdates$Row;"⟩
abbrev cX0_role : ByteArray := prog_2_method_5_code
def yX0_role : MethodName := ⟨RX0, "role", "()I"⟩
abbrev cX0_version : ByteArray := prog_2_method_6_code
def yX0_version : MethodName := ⟨RX0, "version", "()I"⟩
abbrev cX0_end : ByteArray := prog_2_method_7_code
def yX0_end : MethodName := ⟨RX0, "end", "()I"⟩
abbrev cX0_signedSize : ByteArray := prog_2_method_8_code
def yX0_signedSize : MethodName := ⟨RX0, "signedSize", "()I"⟩
abbrev cX0_signatureCount : ByteArray := prog_2_method_9_code
def yX0_signatureCount : MethodName := ⟨RX0, "signatureCount", "()I"⟩
abbrev cX0_clear : ByteArray := prog_2_method_10_code
def yX0_clear : MethodName := ⟨RX0, "clear", "()V"⟩
abbrev cX0_read : ByteArray := prog_2_method_11_code
def yX0_read : MethodName := ⟨RX0, "read", "(LTrustedUpdates$Row;)V"⟩
abbrev cX0_next : ByteArray := prog_2_method_12_code
def yX0_next : MethodName := ⟨RX0, "next", "(II)I"⟩
abbrev cX0_skip : ByteArray := prog_2_method_13_code
def yX0_skip : MethodName := ⟨RX0, "skip", "(I)V"⟩
abbrev cX0_readSigned : ByteArray := prog_2_method_14_code
def yX0_readSigned : MethodName := ⟨RX0, "readSigned", "()V"⟩
abbrev cX0_readRootKeySets : ByteArray := prog_2_method_15_code
def yX0_readRootKeySets : MethodName := ⟨RX0, "readRootKeySets", "()V"⟩
abbrev cX0_readKeySet : ByteArray := prog_2_method_16_code
def yX0_readKeySet : MethodName := ⟨RX0, "readKeySet", "()V"⟩
abbrev cX0_readEntries : ByteArray := prog_2_method_17_code
def yX0_readEntries : MethodName := ⟨RX0, "readEntries", "()V"⟩
abbrev cX0_readTargets : ByteArray := prog_2_method_18_code
def yX0_readTargets : MethodName := ⟨RX0, "readTargets", "()V"⟩
abbrev cX0_readLetters : ByteArray := prog_2_method_19_code
def yX0_readLetters : MethodName := ⟨RX0, "readLetters", "(II)V"⟩
abbrev cX0_isNamedAsEarlier : ByteArray := prog_2_method_20_code
def yX0_isNamedAsEarlier : MethodName := ⟨RX0, "isNamedAsEarlier", "(I)Z"⟩
abbrev cX0_readDelegations : ByteArray := prog_2_method_21_code
def yX0_readDelegations : MethodName := ⟨RX0, "readDelegations", "()V"⟩
abbrev cX0_readSignatures : ByteArray := prog_2_method_22_code
def yX0_readSignatures : MethodName := ⟨RX0, "readSignatures", "()V"⟩
abbrev cX0_signatureOf : ByteArray := prog_2_method_23_code
def yX0_signatureOf : MethodName := ⟨RX0, "signatureOf", "(I)I"⟩
abbrev cX0_hasSignatureOf : ByteArray := prog_2_method_24_code
def yX0_hasSignatureOf : MethodName := ⟨RX0, "hasSignatureOf", "(I)Z"⟩
abbrev cX0_isSignedAsAsked : ByteArray := prog_2_method_25_code
def yX0_isSignedAsAsked : MethodName := ⟨RX0, "isSignedAsAsked", "(LTrustedUpdates$Row;I)Z"⟩
abbrev cX0_rootVouchesFor : ByteArray := prog_2_method_26_code
def yX0_rootVouchesFor : MethodName := ⟨RX0, "rootVouchesFor", "(LTrustedUpdates$Document;I)Z"⟩
abbrev cX0_hasKeySetOf : ByteArray := prog_2_method_27_code
def yX0_hasKeySetOf : MethodName := ⟨RX0, "hasKeySetOf", "(LTrustedUpdates$Document;I)Z"⟩
abbrev cX0_stampedVersion : ByteArray := prog_2_method_28_code
def yX0_stampedVersion : MethodName := ⟨RX0, "stampedVersion", "()I"⟩
abbrev cX0_stampedDigest : ByteArray := prog_2_method_29_code
def yX0_stampedDigest : MethodName := ⟨RX0, "stampedDigest", "()I"⟩
abbrev cX0_versionFor : ByteArray := prog_2_method_30_code
def yX0_versionFor : MethodName := ⟨RX0, "versionFor", "(I)I"⟩
abbrev cX0_targetNamed : ByteArray := prog_2_method_31_code
def yX0_targetNamed : MethodName := ⟨RX0, "targetNamed", "(LTrustedUpdates$Row;)I"⟩
abbrev cX0_delegationCount : ByteArray := prog_2_method_32_code
def yX0_delegationCount : MethodName := ⟨RX0, "delegationCount", "()I"⟩
abbrev cX0_delegationPlace : ByteArray := prog_2_method_33_code
def yX0_delegationPlace : MethodName := ⟨RX0, "delegationPlace", "(I)I"⟩
abbrev cX0_delegateOf : ByteArray := prog_2_method_34_code
def yX0_delegateOf : MethodName := ⟨RX0, "delegateOf", "(I)I"⟩
abbrev cX0_isFinal : ByteArray := prog_2_method_35_code
def yX0_isFinal : MethodName := ⟨RX0, "isFinal", "(I)Z"⟩
abbrev cX0_delegatedKeySet : ByteArray := prog_2_method_36_code
def yX0_delegatedKeySet : MethodName := ⟨RX0, "delegatedKeySet", "(I)I"⟩
abbrev cX0_delegates : ByteArray := prog_2_method_37_code
def yX0_delegates : MethodName := ⟨RX0, "delegates", "(ILTrustedUpdates$Row;)Z"⟩
def RX1 : String := "TrustedUpdates$Row"
def TX1 : u_T := fun k => match k with
  | 0 => ("TrustedUpdates$Row", "bytes", "[I", true)
  | _ => ("TrustedUpdates$Row", "size", "I", false)
def tyX1 : Nat → FieldType := fun k => match k with
  | 0 => .array .int
  | _ => .int
abbrev wsX10 : List Cond := u_ws RX1 TX1 2
theorem nmX1 : ∀ a, a < 2 → ∀ b, b < 2 → a ≠ b → (TX1 a).2.1 ≠ (TX1 b).2.1 := by decide +kernel
theorem tyX1_ok : ∀ k, k < 2 → parseFieldDescriptor (TX1 k).2.2.1 = some (tyX1 k) := by decide +kernel
abbrev cX1_init : ByteArray := prog_3_method_1_code
def yX1_init : MethodName := ⟨RX1, "<init>", "(I)V"⟩
abbrev cX1_size : ByteArray := prog_3_method_2_code
def yX1_size : MethodName := ⟨RX1, "size", "()I"⟩
abbrev cX1_has : ByteArray := prog_3_method_3_code
def yX1_has : MethodName := ⟨RX1, "has", "(I)Z"⟩
abbrev cX1_hasRoomFor : ByteArray := prog_3_method_4_code
def yX1_hasRoomFor : MethodName := ⟨RX1, "hasRoomFor", "(I)Z"⟩
abbrev cX1_byteAt : ByteArray := prog_3_method_5_code
def yX1_byteAt : MethodName := ⟨RX1, "byteAt", "(I)I"⟩
abbrev cX1_wordAt : ByteArray := prog_3_method_6_code
def yX1_wordAt : MethodName := ⟨RX1, "wordAt", "(I)I"⟩
abbrev cX1_replace : ByteArray := prog_3_method_7_code
def yX1_replace : MethodName := ⟨RX1, "replace", "(II)V"⟩
abbrev cX1_append : ByteArray := prog_3_method_8_code
def yX1_append : MethodName := ⟨RX1, "append", "(I)V"⟩
abbrev cX1_appendLowest : ByteArray := prog_3_method_9_code
def yX1_appendLowest : MethodName := ⟨RX1, "appendLowest", "(JI)V"⟩
abbrev cX1_appendWord : ByteArray := prog_3_method_10_code
def yX1_appendWord : MethodName := ⟨RX1, "appendWord", "(I)V"⟩
abbrev cX1_keepFirst : ByteArray := prog_3_method_11_code
def yX1_keepFirst : MethodName := ⟨RX1, "keepFirst", "(I)V"⟩
abbrev cX1_become : ByteArray := prog_3_method_12_code
def yX1_become : MethodName := ⟨RX1, "become", "(LTrustedUpdates$Row;)V"⟩
abbrev cX1_mixOfFirst : ByteArray := prog_3_method_13_code
def yX1_mixOfFirst : MethodName := ⟨RX1, "mixOfFirst", "(II)I"⟩
abbrev cX1_wholeDigest : ByteArray := prog_3_method_14_code
def yX1_wholeDigest : MethodName := ⟨RX1, "wholeDigest", "()I"⟩
abbrev cX1_agrees : ByteArray := prog_3_method_15_code
def yX1_agrees : MethodName := ⟨RX1, "agrees", "(ILTrustedUpdates$Row;II)Z"⟩
def RX2 : String := "TrustedUpdates$Search"
def TX2 : u_T := fun k => match k with
  | 0 => ("TrustedUpdates$Search", "trust", "LTrustedUpdates$Trust;", true)
  | 1 => ("TrustedUpdates$Search", "name", "LTrustedUpdates$Row;", true)
  | 2 => ("TrustedUpdates$Search", "visitedRoles", "I", false)
  | 3 => ("TrustedUpdates$Search", "visitCount", "I", false)
  | 4 => ("TrustedUpdates$Search", "foundRole", "I", false)
  | 5 => ("TrustedUpdates$Search", "foundPlace", "I", false)
  | _ => ("TrustedUpdates$Search", "over", "Z", false)
def tyX2 : Nat → FieldType := fun k => match k with
  | 0 => .object "TrustedUpdates$Trust"
  | 1 => .object "TrustedUpdates$Row"
  | 2 => .int
  | 3 => .int
  | 4 => .int
  | 5 => .int
  | _ => .boolean
abbrev wsX20 : List Cond := u_ws RX2 TX2 7
theorem nmX2 : ∀ a, a < 7 → ∀ b, b < 7 → a ≠ b → (TX2 a).2.1 ≠ (TX2 b).2.1 := by decide +kernel
theorem tyX2_ok : ∀ k, k < 7 → parseFieldDescriptor (TX2 k).2.2.1 = some (tyX2 k) := by decide +kernel
abbrev cX2_init : ByteArray := prog_4_method_1_code
def yX2_init : MethodName := ⟨RX2, "<init>", "(LTrustedUpdates$Trust;)V"⟩
abbrev cX2_visitCount : ByteArray := prog_4_method_2_code
def yX2_visitCount : MethodName := ⟨RX2, "visitCount", "()I"⟩
abbrev cX2_foundRole : ByteArray := prog_4_method_3_code
def yX2_foundRole : MethodName := ⟨RX2, "foundRole", "()I"⟩
abbrev cX2_foundTargetIs : ByteArray := prog_4_method_4_code
def yX2_foundTargetIs : MethodName := ⟨RX2, "foundTargetIs", "(LTrustedUpdates$Row;)Z"⟩
abbrev cX2_run : ByteArray := prog_4_method_5_code
def yX2_run : MethodName := ⟨RX2, "run", "(JI)V"⟩
abbrev cX2_visit : ByteArray := prog_4_method_6_code
def yX2_visit : MethodName := ⟨RX2, "visit", "(II)V"⟩
abbrev cX2_mayFollow : ByteArray := prog_4_method_7_code
def yX2_mayFollow : MethodName := ⟨RX2, "mayFollow", "(LTrustedUpdates$Document;I)Z"⟩
def RX3 : String := "TrustedUpdates$Trust"
def TX3 : u_T := fun k => match k with
  | 0 => ("TrustedUpdates$Trust", "documents", "[LTrustedUpdates$Document;", true)
  | 1 => ("TrustedUpdates$Trust", "none", "LTrustedUpdates$Document;", true)
  | _ => ("TrustedUpdates$Trust", "clock", "I", false)
def tyX3 : Nat → FieldType := fun k => match k with
  | 0 => .array (.object "TrustedUpdates$Document")
  | 1 => .object "TrustedUpdates$Document"
  | _ => .int
abbrev wsX30 : List Cond := u_ws RX3 TX3 3
theorem nmX3 : ∀ a, a < 3 → ∀ b, b < 3 → a ≠ b → (TX3 a).2.1 ≠ (TX3 b).2.1 := by decide +kernel
theorem tyX3_ok : ∀ k, k < 3 → parseFieldDescriptor (TX3 k).2.2.1 = some (tyX3 k) := by decide +kernel
abbrev cX3_init : ByteArray := prog_5_method_1_code
def yX3_init : MethodName := ⟨RX3, "<init>", "()V"⟩
abbrev cX3_documentOf : ByteArray := prog_5_method_2_code
def yX3_documentOf : MethodName := ⟨RX3, "documentOf", "(I)LTrustedUpdates$Document;"⟩
abbrev cX3_advanceClock : ByteArray := prog_5_method_3_code
def yX3_advanceClock : MethodName := ⟨RX3, "advanceClock", "(I)I"⟩
abbrev cX3_findsEnded : ByteArray := prog_5_method_4_code
def yX3_findsEnded : MethodName := ⟨RX3, "findsEnded", "(LTrustedUpdates$Document;)Z"⟩
abbrev cX3_isInForce : ByteArray := prog_5_method_5_code
def yX3_isInForce : MethodName := ⟨RX3, "isInForce", "(I)Z"⟩
abbrev cX3_isFresh : ByteArray := prog_5_method_6_code
def yX3_isFresh : MethodName := ⟨RX3, "isFresh", "(I)Z"⟩
abbrev cX3_allowsSeeking : ByteArray := prog_5_method_7_code
def yX3_allowsSeeking : MethodName := ⟨RX3, "allowsSeeking", "()Z"⟩
abbrev cX3_startFrom : ByteArray := prog_5_method_8_code
def yX3_startFrom : MethodName := ⟨RX3, "startFrom", "(LTrustedUpdates$Document;)V"⟩
abbrev cX3_hasGroundFor : ByteArray := prog_5_method_9_code
def yX3_hasGroundFor : MethodName := ⟨RX3, "hasGroundFor", "(I)Z"⟩
abbrev cX3_findsSigned : ByteArray := prog_5_method_10_code
def yX3_findsSigned : MethodName := ⟨RX3, "findsSigned", "(LTrustedUpdates$Document;)Z"⟩
abbrev cX3_findsVersionsRight : ByteArray := prog_5_method_11_code
def yX3_findsVersionsRight : MethodName := ⟨RX3, "findsVersionsRight", "(LTrustedUpdates$Document;)Z"⟩
abbrev cX3_isNoOlderStamp : ByteArray := prog_5_method_12_code
def yX3_isNoOlderStamp : MethodName := ⟨RX3, "isNoOlderStamp", "(LTrustedUpdates$Document;)Z"⟩
abbrev cX3_isAsStamped : ByteArray := prog_5_method_13_code
def yX3_isAsStamped : MethodName := ⟨RX3, "isAsStamped", "(LTrustedUpdates$Document;)Z"⟩
abbrev cX3_isNoOlderSnapshot : ByteArray := prog_5_method_14_code
def yX3_isNoOlderSnapshot : MethodName := ⟨RX3, "isNoOlderSnapshot", "(LTrustedUpdates$Document;)Z"⟩
abbrev cX3_take : ByteArray := prog_5_method_15_code
def yX3_take : MethodName := ⟨RX3, "take", "(LTrustedUpdates$Document;)V"⟩
abbrev cX3_changesOnlineKeys : ByteArray := prog_5_method_16_code
def yX3_changesOnlineKeys : MethodName := ⟨RX3, "changesOnlineKeys", "(LTrustedUpdates$Document;)Z"⟩
def RX4 : String := "TrustedUpdates"
def TX4 : u_T := fun k => match k with
  | 0 => ("TrustedUpdates", "draft", "LTrustedUpdates$Row;", true)
  | 1 => ("TrustedUpdates", "content", "LTrustedUpdates$Row;", true)
  | 2 => ("TrustedUpdates", "offered", "LTrustedUpdates$Document;", true)
  | 3 => ("TrustedUpdates", "trust", "LTrustedUpdates$Trust;", true)
  | 4 => ("TrustedUpdates", "search", "LTrustedUpdates$Search;", true)
  | 5 => ("TrustedUpdates", "latestVisits", "I", false)
  | _ => ("TrustedUpdates", "installs", "I", false)
def tyX4 : Nat → FieldType := fun k => match k with
  | 0 => .object "TrustedUpdates$Row"
  | 1 => .object "TrustedUpdates$Row"
  | 2 => .object "TrustedUpdates$Document"
  | 3 => .object "TrustedUpdates$Trust"
  | 4 => .object "TrustedUpdates$Search"
  | 5 => .int
  | _ => .int
abbrev wsX40 : List Cond := u_ws RX4 TX4 7
theorem nmX4 : ∀ a, a < 7 → ∀ b, b < 7 → a ≠ b → (TX4 a).2.1 ≠ (TX4 b).2.1 := by decide +kernel
theorem tyX4_ok : ∀ k, k < 7 → parseFieldDescriptor (TX4 k).2.2.1 = some (tyX4 k) := by decide +kernel
abbrev cX4_init : ByteArray := prog_1_method_1_code
def yX4_init : MethodName := ⟨RX4, "<init>", "()V"⟩
abbrev cX4_put : ByteArray := prog_1_method_2_code
def yX4_put : MethodName := ⟨RX4, "put", "(JI)Z"⟩
abbrev cX4_cut : ByteArray := prog_1_method_3_code
def yX4_cut : MethodName := ⟨RX4, "cut", "(I)Z"⟩
abbrev cX4_alter : ByteArray := prog_1_method_4_code
def yX4_alter : MethodName := ⟨RX4, "alter", "(II)Z"⟩
abbrev cX4_length : ByteArray := prog_1_method_5_code
def yX4_length : MethodName := ⟨RX4, "length", "()I"⟩
abbrev cX4_at : ByteArray := prog_1_method_6_code
def yX4_at : MethodName := ⟨RX4, "at", "(I)I"⟩
abbrev cX4_mix : ByteArray := prog_1_method_7_code
def yX4_mix : MethodName := ⟨RX4, "mix", "(I)I"⟩
abbrev cX4_digest : ByteArray := prog_1_method_8_code
def yX4_digest : MethodName := ⟨RX4, "digest", "()Z"⟩
abbrev cX4_sign : ByteArray := prog_1_method_9_code
def yX4_sign : MethodName := ⟨RX4, "sign", "(I)I"⟩
abbrev cX4_content : ByteArray := prog_1_method_10_code
def yX4_content : MethodName := ⟨RX4, "content", "()I"⟩
abbrev cX4_tick : ByteArray := prog_1_method_11_code
def yX4_tick : MethodName := ⟨RX4, "tick", "(I)I"⟩
abbrev cX4_begin : ByteArray := prog_1_method_12_code
def yX4_begin : MethodName := ⟨RX4, "begin", "()V"⟩
abbrev cX4_offer : ByteArray := prog_1_method_13_code
def yX4_offer : MethodName := ⟨RX4, "offer", "()I"⟩
abbrev cX4_trusted : ByteArray := prog_1_method_14_code
def yX4_trusted : MethodName := ⟨RX4, "trusted", "(IZ)I"⟩
abbrev cX4_seek : ByteArray := prog_1_method_15_code
def yX4_seek : MethodName := ⟨RX4, "seek", "(JI)I"⟩
abbrev cX4_visits : ByteArray := prog_1_method_16_code
def yX4_visits : MethodName := ⟨RX4, "visits", "()I"⟩
abbrev cX4_install : ByteArray := prog_1_method_17_code
def yX4_install : MethodName := ⟨RX4, "install", "(JI)I"⟩
abbrev cX4_installed : ByteArray := prog_1_method_18_code
def yX4_installed : MethodName := ⟨RX4, "installed", "()I"⟩
abbrev cX4_refuseUnlessSearchable : ByteArray := prog_1_method_19_code
def yX4_refuseUnlessSearchable : MethodName := ⟨RX4, "refuseUnlessSearchable", "(JI)V"⟩
abbrev cX4_isName : ByteArray := prog_1_method_20_code
def yX4_isName : MethodName := ⟨RX4, "isName", "(JI)Z"⟩
def RX5 : String := "TrustedUpdatesModel"
def TX5 : u_T := fun k => match k with
  | 0 => ("TrustedUpdatesModel", "thrown", "I", false)
  | 1 => ("TrustedUpdatesModel", "row", "[I", true)
  | 2 => ("TrustedUpdatesModel", "sizes", "[I", true)
  | 3 => ("TrustedUpdatesModel", "has", "[Z", true)
  | 4 => ("TrustedUpdatesModel", "clock", "I", false)
  | 5 => ("TrustedUpdatesModel", "visited", "I", false)
  | 6 => ("TrustedUpdatesModel", "installed", "I", false)
  | 7 => ("TrustedUpdatesModel", "at", "I", false)
  | 8 => ("TrustedUpdatesModel", "end", "I", false)
  | 9 => ("TrustedUpdatesModel", "good", "Z", false)
  | 10 => ("TrustedUpdatesModel", "signed", "I", false)
  | 11 => ("TrustedUpdatesModel", "keySet", "I", false)
  | 12 => ("TrustedUpdatesModel", "foundLength", "I", false)
  | 13 => ("TrustedUpdatesModel", "foundDigest", "I", false)
  | 14 => ("TrustedUpdatesModel", "depth", "I", false)
  | 15 => ("TrustedUpdatesModel", "path", "[I", true)
  | 16 => ("TrustedUpdatesModel", "going", "[I", true)
  | _ => ("TrustedUpdatesModel", "seen", "I", false)
def tyX5 : Nat → FieldType := fun k => match k with
  | 0 => .int
  | 1 => .array .int
  | 2 => .array .int
  | 3 => .array .boolean
  | 4 => .int
  | 5 => .int
  | 6 => .int
  | 7 => .int
  | 8 => .int
  | 9 => .boolean
  | 10 => .int
  | 11 => .int
  | 12 => .int
  | 13 => .int
  | 14 => .int
  | 15 => .array .int
  | 16 => .array .int
  | _ => .int
abbrev wsX50 : List Cond := u_ws RX5 TX5 18
theorem nmX5 : ∀ a, a < 18 → ∀ b, b < 18 → a ≠ b → (TX5 a).2.1 ≠ (TX5 b).2.1 := by decide +kernel
theorem tyX5_ok : ∀ k, k < 18 → parseFieldDescriptor (TX5 k).2.2.1 = some (tyX5 k) := by decide +kernel
abbrev cX5_init : ByteArray := prog_7_method_1_code
def yX5_init : MethodName := ⟨RX5, "<init>", "()V"⟩
abbrev cX5_thrown : ByteArray := prog_7_method_2_code
def yX5_thrown : MethodName := ⟨RX5, "thrown", "()I"⟩
abbrev cX5_fail : ByteArray := prog_7_method_3_code
def yX5_fail : MethodName := ⟨RX5, "fail", "(I)I"⟩
abbrev cX5_add : ByteArray := prog_7_method_4_code
def yX5_add : MethodName := ⟨RX5, "add", "(I)V"⟩
abbrev cX5_put : ByteArray := prog_7_method_5_code
def yX5_put : MethodName := ⟨RX5, "put", "(JI)Z"⟩
abbrev cX5_cut : ByteArray := prog_7_method_6_code
def yX5_cut : MethodName := ⟨RX5, "cut", "(I)Z"⟩
abbrev cX5_alter : ByteArray := prog_7_method_7_code
def yX5_alter : MethodName := ⟨RX5, "alter", "(II)Z"⟩
abbrev cX5_length : ByteArray := prog_7_method_8_code
def yX5_length : MethodName := ⟨RX5, "length", "()I"⟩
abbrev cX5_at : ByteArray := prog_7_method_9_code
def yX5_at : MethodName := ⟨RX5, "at", "(I)I"⟩
abbrev cX5_mixOf : ByteArray := prog_7_method_10_code
def yX5_mixOf : MethodName := ⟨RX5, "mixOf", "(III)I"⟩
abbrev cX5_mix : ByteArray := prog_7_method_11_code
def yX5_mix : MethodName := ⟨RX5, "mix", "(I)I"⟩
abbrev cX5_addFour : ByteArray := prog_7_method_12_code
def yX5_addFour : MethodName := ⟨RX5, "addFour", "(I)V"⟩
abbrev cX5_digest : ByteArray := prog_7_method_13_code
def yX5_digest : MethodName := ⟨RX5, "digest", "()Z"⟩
abbrev cX5_four : ByteArray := prog_7_method_14_code
def yX5_four : MethodName := ⟨RX5, "four", "(I)I"⟩
abbrev cX5_next : ByteArray := prog_7_method_15_code
def yX5_next : MethodName := ⟨RX5, "next", "()I"⟩
abbrev cX5_between : ByteArray := prog_7_method_16_code
def yX5_between : MethodName := ⟨RX5, "between", "(II)I"⟩
abbrev cX5_skip : ByteArray := prog_7_method_17_code
def yX5_skip : MethodName := ⟨RX5, "skip", "(I)V"⟩
abbrev cX5_passKeys : ByteArray := prog_7_method_18_code
def yX5_passKeys : MethodName := ⟨RX5, "passKeys", "()V"⟩
abbrev cX5_passLetters : ByteArray := prog_7_method_19_code
def yX5_passLetters : MethodName := ⟨RX5, "passLetters", "(II)V"⟩
abbrev cX5_areSame : ByteArray := prog_7_method_20_code
def yX5_areSame : MethodName := ⟨RX5, "areSame", "(II)Z"⟩
abbrev cX5_passTargets : ByteArray := prog_7_method_21_code
def yX5_passTargets : MethodName := ⟨RX5, "passTargets", "()V"⟩
abbrev cX5_passBody : ByteArray := prog_7_method_22_code
def yX5_passBody : MethodName := ⟨RX5, "passBody", "(I)V"⟩
abbrev cX5_passSigned : ByteArray := prog_7_method_23_code
def yX5_passSigned : MethodName := ⟨RX5, "passSigned", "(I)Z"⟩
abbrev cX5_isDocument : ByteArray := prog_7_method_24_code
def yX5_isDocument : MethodName := ⟨RX5, "isDocument", "(I)Z"⟩
abbrev cX5_hasSignature : ByteArray := prog_7_method_25_code
def yX5_hasSignature : MethodName := ⟨RX5, "hasSignature", "(II)Z"⟩
abbrev cX5_isSigned : ByteArray := prog_7_method_26_code
def yX5_isSigned : MethodName := ⟨RX5, "isSigned", "(II)Z"⟩
abbrev cX5_keysOf : ByteArray := prog_7_method_27_code
def yX5_keysOf : MethodName := ⟨RX5, "keysOf", "(II)I"⟩
abbrev cX5_versionOf : ByteArray := prog_7_method_28_code
def yX5_versionOf : MethodName := ⟨RX5, "versionOf", "(I)I"⟩
abbrev cX5_endOf : ByteArray := prog_7_method_29_code
def yX5_endOf : MethodName := ⟨RX5, "endOf", "(I)I"⟩
abbrev cX5_isOver : ByteArray := prog_7_method_30_code
def yX5_isOver : MethodName := ⟨RX5, "isOver", "(I)Z"⟩
abbrev cX5_stands : ByteArray := prog_7_method_31_code
def yX5_stands : MethodName := ⟨RX5, "stands", "(I)Z"⟩
abbrev cX5_said : ByteArray := prog_7_method_32_code
def yX5_said : MethodName := ⟨RX5, "said", "(II)I"⟩
abbrev cX5_sign : ByteArray := prog_7_method_33_code
def yX5_sign : MethodName := ⟨RX5, "sign", "(I)I"⟩
abbrev cX5_copy : ByteArray := prog_7_method_34_code
def yX5_copy : MethodName := ⟨RX5, "copy", "(II)V"⟩
abbrev cX5_content : ByteArray := prog_7_method_35_code
def yX5_content : MethodName := ⟨RX5, "content", "()I"⟩
abbrev cX5_tick : ByteArray := prog_7_method_36_code
def yX5_tick : MethodName := ⟨RX5, "tick", "(I)I"⟩
abbrev cX5_roleOfDraft : ByteArray := prog_7_method_37_code
def yX5_roleOfDraft : MethodName := ⟨RX5, "roleOfDraft", "()I"⟩
abbrev cX5_trust : ByteArray := prog_7_method_38_code
def yX5_trust : MethodName := ⟨RX5, "trust", "(I)V"⟩
abbrev cX5_begin : ByteArray := prog_7_method_39_code
def yX5_begin : MethodName := ⟨RX5, "begin", "()V"⟩
abbrev cX5_areSameKeys : ByteArray := prog_7_method_40_code
def yX5_areSameKeys : MethodName := ⟨RX5, "areSameKeys", "(I)Z"⟩
abbrev cX5_offerRoot : ByteArray := prog_7_method_41_code
def yX5_offerRoot : MethodName := ⟨RX5, "offerRoot", "()I"⟩
abbrev cX5_offerStamp : ByteArray := prog_7_method_42_code
def yX5_offerStamp : MethodName := ⟨RX5, "offerStamp", "()I"⟩
abbrev cX5_offerSnapshot : ByteArray := prog_7_method_43_code
def yX5_offerSnapshot : MethodName := ⟨RX5, "offerSnapshot", "()I"⟩
abbrev cX5_offerTargets : ByteArray := prog_7_method_44_code
def yX5_offerTargets : MethodName := ⟨RX5, "offerTargets", "(I)I"⟩
abbrev cX5_offer : ByteArray := prog_7_method_45_code
def yX5_offer : MethodName := ⟨RX5, "offer", "()I"⟩
abbrev cX5_trusted : ByteArray := prog_7_method_46_code
def yX5_trusted : MethodName := ⟨RX5, "trusted", "(IZ)I"⟩
abbrev cX5_letter : ByteArray := prog_7_method_47_code
def yX5_letter : MethodName := ⟨RX5, "letter", "(JI)I"⟩
abbrev cX5_isName : ByteArray := prog_7_method_48_code
def yX5_isName : MethodName := ⟨RX5, "isName", "(JI)Z"⟩
abbrev cX5_begins : ByteArray := prog_7_method_49_code
def yX5_begins : MethodName := ⟨RX5, "begins", "(IIJ)Z"⟩
abbrev cX5_isFresh : ByteArray := prog_7_method_50_code
def yX5_isFresh : MethodName := ⟨RX5, "isFresh", "(I)Z"⟩
abbrev cX5_hasTarget : ByteArray := prog_7_method_51_code
def yX5_hasTarget : MethodName := ⟨RX5, "hasTarget", "(IJI)Z"⟩
abbrev cX5_delegation : ByteArray := prog_7_method_52_code
def yX5_delegation : MethodName := ⟨RX5, "delegation", "(II)I"⟩
abbrev cX5_visit : ByteArray := prog_7_method_53_code
def yX5_visit : MethodName := ⟨RX5, "visit", "(I)V"⟩
abbrev cX5_find : ByteArray := prog_7_method_54_code
def yX5_find : MethodName := ⟨RX5, "find", "(JI)I"⟩
abbrev cX5_wrongSeek : ByteArray := prog_7_method_55_code
def yX5_wrongSeek : MethodName := ⟨RX5, "wrongSeek", "(JI)I"⟩
abbrev cX5_seek : ByteArray := prog_7_method_56_code
def yX5_seek : MethodName := ⟨RX5, "seek", "(JI)I"⟩
abbrev cX5_visits : ByteArray := prog_7_method_57_code
def yX5_visits : MethodName := ⟨RX5, "visits", "()I"⟩
abbrev cX5_install : ByteArray := prog_7_method_58_code
def yX5_install : MethodName := ⟨RX5, "install", "(JI)I"⟩
abbrev cX5_installed : ByteArray := prog_7_method_59_code
def yX5_installed : MethodName := ⟨RX5, "installed", "()I"⟩
def RJ10 : String := "java/lang/System"
def TJ10 : u_T := fun k => match k with
  | _ => ("", "", "", false)
def tyJ10 : Nat → FieldType := fun k => match k with
  | _ => .int
abbrev wsJ100 : List Cond := u_ws RJ10 TJ10 0
theorem nmJ10 : ∀ a, a < 0 → ∀ b, b < 0 → a ≠ b → (TJ10 a).2.1 ≠ (TJ10 b).2.1 := by decide +kernel
theorem tyJ10_ok : ∀ k, k < 0 → parseFieldDescriptor (TJ10 k).2.2.1 = some (tyJ10 k) := by decide +kernel
def RL : String := "TrustedUpdatesLaw"
abbrev cL_at : ByteArray := method_3_code
def yL_at : MethodName := ⟨RL, "at", "(LTrustedUpdates;I[J)I"⟩
abbrev cL_sign : ByteArray := method_4_code
def yL_sign : MethodName := ⟨RL, "sign", "(LTrustedUpdates;I[J)I"⟩
abbrev cL_tick : ByteArray := method_5_code
def yL_tick : MethodName := ⟨RL, "tick", "(LTrustedUpdates;I[J)I"⟩
abbrev cL_begin : ByteArray := method_6_code
def yL_begin : MethodName := ⟨RL, "begin", "(LTrustedUpdates;)I"⟩
abbrev cL_offer : ByteArray := method_7_code
def yL_offer : MethodName := ⟨RL, "offer", "(LTrustedUpdates;[J)I"⟩
abbrev cL_trusted : ByteArray := method_8_code
def yL_trusted : MethodName := ⟨RL, "trusted", "(LTrustedUpdates;IZ[J)I"⟩
abbrev cL_seek : ByteArray := method_9_code
def yL_seek : MethodName := ⟨RL, "seek", "(LTrustedUpdates;JI[J)I"⟩
abbrev cL_install : ByteArray := method_10_code
def yL_install : MethodName := ⟨RL, "install", "(LTrustedUpdates;JI[J)I"⟩
abbrev cL_law : ByteArray := code
def yL_law : MethodName := ⟨RL, "law", "([I)Z"⟩
def wsX1_init : List Cond := .code yX1_init cX1_init 2 none :: ([.methodLink RX1 3 objectInit, .instanceMethod objectInit, .code objectInit ⟨#[0xb1]⟩ 1 none, .arrayClass .int, .fieldLink RX1 9 "TrustedUpdates$Row" "bytes" "[I"] ++ wsX10)
def wsX0_init : List Cond := .code yX0_init cX0_init 1 none :: ([.methodLink RX0 3 objectInit, .instanceMethod objectInit, .code objectInit ⟨#[0xb1]⟩ 1 none, .classLink RX0 9 RX1, .instantiable RX1 2, .initialized RX1, .fieldLink RX0 14 "TrustedUpdates$Document" "row" "LTrustedUpdates$Row;", .arrayClass .int, .fieldLink RX0 20 "TrustedUpdates$Document" "keySets" "[I", .fieldLink RX0 24 "TrustedUpdates$Document" "versions" "[I", .fieldLink RX0 27 "TrustedUpdates$Document" "targets" "[I", .fieldLink RX0 30 "TrustedUpdates$Document" "delegations" "[I", .methodLink RX0 11 yX1_init, .instanceMethod yX1_init, .code yX1_init cX1_init 2 none, .methodLink RX1 3 objectInit, .fieldLink RX1 9 "TrustedUpdates$Row" "bytes" "[I"] ++ wsX10 ++ wsX00)
def wsX0_isWhole : List Cond := .code yX0_isWhole cX0_isWhole 1 (some .boolean) :: ([.fieldLink RX0 33 "TrustedUpdates$Document" "whole" "Z"] ++ wsX00)
def wsX0_isBare : List Cond := .code yX0_isBare cX0_isBare 1 (some .boolean) :: ([.fieldLink RX0 37 "TrustedUpdates$Document" "bare" "Z"] ++ wsX00)
def wsX0_row : List Cond := .code yX0_row cX0_row 1 (some (.object "TrustedUpdates$Row")) :: ([.fieldLink RX0 14 "TrustedUpdates$Document" "row" "LTrustedUpdates$Row;"] ++ wsX00)
def wsX0_role : List Cond := .code yX0_role cX0_role 1 (some .int) :: ([.fieldLink RX0 40 "TrustedUpdates$Document" "role" "I"] ++ wsX00)
def wsX0_version : List Cond := .code yX0_version cX0_version 1 (some .int) :: ([.fieldLink RX0 44 "TrustedUpdates$Document" "version" "I"] ++ wsX00)
def wsX0_end : List Cond := .code yX0_end cX0_end 1 (some .int) :: ([.fieldLink RX0 47 "TrustedUpdates$Document" "end" "I"] ++ wsX00)
def wsX0_signedSize : List Cond := .code yX0_signedSize cX0_signedSize 1 (some .int) :: ([.fieldLink RX0 50 "TrustedUpdates$Document" "signedSize" "I"] ++ wsX00)
def wsX1_byteAt : List Cond := .code yX1_byteAt cX1_byteAt 2 (some .int) :: ([.fieldLink RX1 15 "TrustedUpdates$Row" "size" "I", .fieldLink RX1 9 "TrustedUpdates$Row" "bytes" "[I"] ++ wsX10)
def wsX0_signatureCount : List Cond := .code yX0_signatureCount cX0_signatureCount 1 (some .int) :: ([.fieldLink RX0 14 "TrustedUpdates$Document" "row" "LTrustedUpdates$Row;", .fieldLink RX0 50 "TrustedUpdates$Document" "signedSize" "I", .methodLink RX0 53 yX1_byteAt, .instanceMethod yX1_byteAt, .selects RX1 yX1_byteAt yX1_byteAt, .initialized RX1, .code yX1_byteAt cX1_byteAt 2 (some .int), .fieldLink RX1 15 "TrustedUpdates$Row" "size" "I", .fieldLink RX1 9 "TrustedUpdates$Row" "bytes" "[I"] ++ wsX00 ++ wsX10)
def wsX0_clear : List Cond := .code yX0_clear cX0_clear 1 none :: ([.fieldLink RX0 33 "TrustedUpdates$Document" "whole" "Z"] ++ wsX00)
def wsX1_become : List Cond := .code yX1_become cX1_become 2 none :: ([.fieldLink RX1 15 "TrustedUpdates$Row" "size" "I", .fieldLink RX1 9 "TrustedUpdates$Row" "bytes" "[I", .methodLink RX1 23 arraycopyName, .native arraycopyName, .static arraycopyName, .initialized "java/lang/System"] ++ wsX10)
def wsX0_next : List Cond := .code yX0_next cX0_next 4 (some .int) :: ([.fieldLink RX0 14 "TrustedUpdates$Document" "row" "LTrustedUpdates$Row;", .fieldLink RX0 61 "TrustedUpdates$Document" "place" "I", .fieldLink RX0 64 "TrustedUpdates$Document" "sound" "Z", .methodLink RX0 53 yX1_byteAt, .instanceMethod yX1_byteAt, .selects RX1 yX1_byteAt yX1_byteAt, .initialized RX1, .code yX1_byteAt cX1_byteAt 2 (some .int), .fieldLink RX1 15 "TrustedUpdates$Row" "size" "I", .fieldLink RX1 9 "TrustedUpdates$Row" "bytes" "[I"] ++ wsX00 ++ wsX10)
def wsX0_readKeySet : List Cond := .code yX0_readKeySet cX0_readKeySet 5 none :: ([.methodLink RX0 77 yX0_next, .instanceMethod yX0_next, .selects RX0 yX0_next yX0_next, .initialized RX0, .code yX0_next cX0_next 4 (some .int), .fieldLink RX0 14 "TrustedUpdates$Document" "row" "LTrustedUpdates$Row;", .fieldLink RX0 61 "TrustedUpdates$Document" "place" "I", .fieldLink RX0 64 "TrustedUpdates$Document" "sound" "Z", .methodLink RX0 53 yX1_byteAt, .instanceMethod yX1_byteAt, .selects RX1 yX1_byteAt yX1_byteAt, .initialized RX1, .code yX1_byteAt cX1_byteAt 2 (some .int), .fieldLink RX1 15 "TrustedUpdates$Row" "size" "I", .fieldLink RX1 9 "TrustedUpdates$Row" "bytes" "[I"] ++ wsX00 ++ wsX10)
def wsX0_readRootKeySets : List Cond := .code yX0_readRootKeySets cX0_readRootKeySets 2 none :: ([.fieldLink RX0 20 "TrustedUpdates$Document" "keySets" "[I", .fieldLink RX0 61 "TrustedUpdates$Document" "place" "I", .methodLink RX0 96 yX0_readKeySet, .instanceMethod yX0_readKeySet, .selects RX0 yX0_readKeySet yX0_readKeySet, .initialized RX0, .code yX0_readKeySet cX0_readKeySet 5 none, .methodLink RX0 77 yX0_next, .instanceMethod yX0_next, .selects RX0 yX0_next yX0_next, .code yX0_next cX0_next 4 (some .int), .fieldLink RX0 14 "TrustedUpdates$Document" "row" "LTrustedUpdates$Row;", .fieldLink RX0 64 "TrustedUpdates$Document" "sound" "Z", .methodLink RX0 53 yX1_byteAt, .instanceMethod yX1_byteAt, .selects RX1 yX1_byteAt yX1_byteAt, .initialized RX1, .code yX1_byteAt cX1_byteAt 2 (some .int), .fieldLink RX1 15 "TrustedUpdates$Row" "size" "I", .fieldLink RX1 9 "TrustedUpdates$Row" "bytes" "[I"] ++ wsX00 ++ wsX10)
def wsX0_skip : List Cond := .code yX0_skip cX0_skip 3 none :: ([.methodLink RX0 77 yX0_next, .instanceMethod yX0_next, .selects RX0 yX0_next yX0_next, .initialized RX0, .code yX0_next cX0_next 4 (some .int), .fieldLink RX0 14 "TrustedUpdates$Document" "row" "LTrustedUpdates$Row;", .fieldLink RX0 61 "TrustedUpdates$Document" "place" "I", .fieldLink RX0 64 "TrustedUpdates$Document" "sound" "Z", .methodLink RX0 53 yX1_byteAt, .instanceMethod yX1_byteAt, .selects RX1 yX1_byteAt yX1_byteAt, .initialized RX1, .code yX1_byteAt cX1_byteAt 2 (some .int), .fieldLink RX1 15 "TrustedUpdates$Row" "size" "I", .fieldLink RX1 9 "TrustedUpdates$Row" "bytes" "[I"] ++ wsX00 ++ wsX10)
def wsX0_readEntries : List Cond := .code yX0_readEntries cX0_readEntries 7 none :: ([.fieldLink RX0 24 "TrustedUpdates$Document" "versions" "[I", .methodLink RX0 77 yX0_next, .instanceMethod yX0_next, .selects RX0 yX0_next yX0_next, .initialized RX0, .code yX0_next cX0_next 4 (some .int), .fieldLink RX0 14 "TrustedUpdates$Document" "row" "LTrustedUpdates$Row;", .fieldLink RX0 61 "TrustedUpdates$Document" "place" "I", .fieldLink RX0 64 "TrustedUpdates$Document" "sound" "Z", .methodLink RX0 53 yX1_byteAt, .instanceMethod yX1_byteAt, .selects RX1 yX1_byteAt yX1_byteAt, .initialized RX1, .code yX1_byteAt cX1_byteAt 2 (some .int), .fieldLink RX1 15 "TrustedUpdates$Row" "size" "I", .fieldLink RX1 9 "TrustedUpdates$Row" "bytes" "[I"] ++ wsX00 ++ wsX10)
def wsX0_readLetters : List Cond := .code yX0_readLetters cX0_readLetters 5 none :: ([.methodLink RX0 77 yX0_next, .instanceMethod yX0_next, .selects RX0 yX0_next yX0_next, .initialized RX0, .code yX0_next cX0_next 4 (some .int), .fieldLink RX0 14 "TrustedUpdates$Document" "row" "LTrustedUpdates$Row;", .fieldLink RX0 61 "TrustedUpdates$Document" "place" "I", .fieldLink RX0 64 "TrustedUpdates$Document" "sound" "Z", .methodLink RX0 53 yX1_byteAt, .instanceMethod yX1_byteAt, .selects RX1 yX1_byteAt yX1_byteAt, .initialized RX1, .code yX1_byteAt cX1_byteAt 2 (some .int), .fieldLink RX1 15 "TrustedUpdates$Row" "size" "I", .fieldLink RX1 9 "TrustedUpdates$Row" "bytes" "[I"] ++ wsX00 ++ wsX10)
def wsX1_agrees : List Cond := .code yX1_agrees cX1_agrees 7 (some .boolean) :: ([.methodLink RX1 35 yX1_byteAt, .instanceMethod yX1_byteAt, .selects RX1 yX1_byteAt yX1_byteAt, .initialized RX1, .code yX1_byteAt cX1_byteAt 2 (some .int), .fieldLink RX1 15 "TrustedUpdates$Row" "size" "I", .fieldLink RX1 9 "TrustedUpdates$Row" "bytes" "[I"] ++ wsX10)
def wsX0_isNamedAsEarlier : List Cond := .code yX0_isNamedAsEarlier cX0_isNamedAsEarlier 3 (some .boolean) :: ([.fieldLink RX0 14 "TrustedUpdates$Document" "row" "LTrustedUpdates$Row;", .fieldLink RX0 27 "TrustedUpdates$Document" "targets" "[I", .methodLink RX0 53 yX1_byteAt, .instanceMethod yX1_byteAt, .selects RX1 yX1_byteAt yX1_byteAt, .initialized RX1, .code yX1_byteAt cX1_byteAt 2 (some .int), .fieldLink RX1 15 "TrustedUpdates$Row" "size" "I", .fieldLink RX1 9 "TrustedUpdates$Row" "bytes" "[I", .methodLink RX0 110 yX1_agrees, .instanceMethod yX1_agrees, .selects RX1 yX1_agrees yX1_agrees, .code yX1_agrees cX1_agrees 7 (some .boolean), .methodLink RX1 35 yX1_byteAt] ++ wsX00 ++ wsX10)
def wsX0_readTargets_r1 : List Cond := [Cond.fieldLink RX0 99 "TrustedUpdates$Document" "targetCount" "I", Cond.fieldLink RX0 27 "TrustedUpdates$Document" "targets" "[I", Cond.fieldLink RX0 61 "TrustedUpdates$Document" "place" "I", Cond.fieldLink RX0 64 "TrustedUpdates$Document" "sound" "Z", Cond.methodLink RX0 77 yX0_next, Cond.instanceMethod yX0_next, Cond.selects RX0 yX0_next yX0_next, Cond.initialized RX0, Cond.code yX0_next cX0_next 4 (some .int), Cond.fieldLink RX0 14 "TrustedUpdates$Document" "row" "LTrustedUpdates$Row;", Cond.methodLink RX0 53 yX1_byteAt, Cond.instanceMethod yX1_byteAt, Cond.selects RX1 yX1_byteAt yX1_byteAt, Cond.initialized RX1, Cond.code yX1_byteAt cX1_byteAt 2 (some .int), Cond.fieldLink RX1 15 "TrustedUpdates$Row" "size" "I", Cond.fieldLink RX1 9 "TrustedUpdates$Row" "bytes" "[I", Cond.methodLink RX0 102 yX0_readLetters, Cond.instanceMethod yX0_readLetters, Cond.selects RX0 yX0_readLetters yX0_readLetters, Cond.code yX0_readLetters cX0_readLetters 5 none, Cond.methodLink RX0 84 yX0_skip, Cond.instanceMethod yX0_skip, Cond.selects RX0 yX0_skip yX0_skip]
def wsX0_readTargets_r2 : List Cond := [Cond.code yX0_skip cX0_skip 3 none, Cond.methodLink RX0 106 yX0_isNamedAsEarlier, Cond.instanceMethod yX0_isNamedAsEarlier, Cond.selects RX0 yX0_isNamedAsEarlier yX0_isNamedAsEarlier, Cond.code yX0_isNamedAsEarlier cX0_isNamedAsEarlier 3 (some .boolean), Cond.methodLink RX0 110 yX1_agrees, Cond.instanceMethod yX1_agrees, Cond.selects RX1 yX1_agrees yX1_agrees, Cond.code yX1_agrees cX1_agrees 7 (some .boolean), Cond.methodLink RX1 35 yX1_byteAt]
def wsX0_readTargets : List Cond := .code yX0_readTargets cX0_readTargets 2 none :: ((wsX0_readTargets_r1 ++ wsX0_readTargets_r2) ++ wsX00 ++ wsX10)
def wsX0_readDelegations_r1 : List Cond := [Cond.fieldLink RX0 114 "TrustedUpdates$Document" "delegationCount" "I", Cond.fieldLink RX0 30 "TrustedUpdates$Document" "delegations" "[I", Cond.fieldLink RX0 61 "TrustedUpdates$Document" "place" "I", Cond.fieldLink RX0 64 "TrustedUpdates$Document" "sound" "Z", Cond.methodLink RX0 77 yX0_next, Cond.instanceMethod yX0_next, Cond.selects RX0 yX0_next yX0_next, Cond.initialized RX0, Cond.code yX0_next cX0_next 4 (some .int), Cond.fieldLink RX0 14 "TrustedUpdates$Document" "row" "LTrustedUpdates$Row;", Cond.methodLink RX0 53 yX1_byteAt, Cond.instanceMethod yX1_byteAt, Cond.selects RX1 yX1_byteAt yX1_byteAt, Cond.initialized RX1, Cond.code yX1_byteAt cX1_byteAt 2 (some .int), Cond.fieldLink RX1 15 "TrustedUpdates$Row" "size" "I", Cond.fieldLink RX1 9 "TrustedUpdates$Row" "bytes" "[I", Cond.methodLink RX0 96 yX0_readKeySet, Cond.instanceMethod yX0_readKeySet, Cond.selects RX0 yX0_readKeySet yX0_readKeySet, Cond.code yX0_readKeySet cX0_readKeySet 5 none, Cond.methodLink RX0 102 yX0_readLetters, Cond.instanceMethod yX0_readLetters, Cond.selects RX0 yX0_readLetters yX0_readLetters]
def wsX0_readDelegations_r2 : List Cond := [Cond.code yX0_readLetters cX0_readLetters 5 none]
def wsX0_readDelegations : List Cond := .code yX0_readDelegations cX0_readDelegations 4 none :: ((wsX0_readDelegations_r1 ++ wsX0_readDelegations_r2) ++ wsX00 ++ wsX10)
def wsX0_readSigned_r1 : List Cond := [Cond.fieldLink RX0 40 "TrustedUpdates$Document" "role" "I", Cond.fieldLink RX0 44 "TrustedUpdates$Document" "version" "I", Cond.fieldLink RX0 47 "TrustedUpdates$Document" "end" "I", Cond.methodLink RX0 77 yX0_next, Cond.instanceMethod yX0_next, Cond.selects RX0 yX0_next yX0_next, Cond.initialized RX0, Cond.code yX0_next cX0_next 4 (some .int), Cond.fieldLink RX0 14 "TrustedUpdates$Document" "row" "LTrustedUpdates$Row;", Cond.fieldLink RX0 61 "TrustedUpdates$Document" "place" "I", Cond.fieldLink RX0 64 "TrustedUpdates$Document" "sound" "Z", Cond.methodLink RX0 53 yX1_byteAt, Cond.instanceMethod yX1_byteAt, Cond.selects RX1 yX1_byteAt yX1_byteAt, Cond.initialized RX1, Cond.code yX1_byteAt cX1_byteAt 2 (some .int), Cond.fieldLink RX1 15 "TrustedUpdates$Row" "size" "I", Cond.fieldLink RX1 9 "TrustedUpdates$Row" "bytes" "[I", Cond.methodLink RX0 81 yX0_readRootKeySets, Cond.instanceMethod yX0_readRootKeySets, Cond.selects RX0 yX0_readRootKeySets yX0_readRootKeySets, Cond.code yX0_readRootKeySets cX0_readRootKeySets 2 none, Cond.fieldLink RX0 20 "TrustedUpdates$Document" "keySets" "[I", Cond.methodLink RX0 96 yX0_readKeySet]
def wsX0_readSigned_r2 : List Cond := [Cond.instanceMethod yX0_readKeySet, Cond.selects RX0 yX0_readKeySet yX0_readKeySet, Cond.code yX0_readKeySet cX0_readKeySet 5 none, Cond.methodLink RX0 84 yX0_skip, Cond.instanceMethod yX0_skip, Cond.selects RX0 yX0_skip yX0_skip, Cond.code yX0_skip cX0_skip 3 none, Cond.methodLink RX0 87 yX0_readEntries, Cond.instanceMethod yX0_readEntries, Cond.selects RX0 yX0_readEntries yX0_readEntries, Cond.code yX0_readEntries cX0_readEntries 7 none, Cond.fieldLink RX0 24 "TrustedUpdates$Document" "versions" "[I", Cond.methodLink RX0 90 yX0_readTargets, Cond.instanceMethod yX0_readTargets, Cond.selects RX0 yX0_readTargets yX0_readTargets, Cond.code yX0_readTargets cX0_readTargets 2 none, Cond.fieldLink RX0 99 "TrustedUpdates$Document" "targetCount" "I", Cond.fieldLink RX0 27 "TrustedUpdates$Document" "targets" "[I", Cond.methodLink RX0 102 yX0_readLetters, Cond.instanceMethod yX0_readLetters, Cond.selects RX0 yX0_readLetters yX0_readLetters, Cond.code yX0_readLetters cX0_readLetters 5 none, Cond.methodLink RX0 106 yX0_isNamedAsEarlier, Cond.instanceMethod yX0_isNamedAsEarlier]
def wsX0_readSigned_r3 : List Cond := [Cond.selects RX0 yX0_isNamedAsEarlier yX0_isNamedAsEarlier, Cond.code yX0_isNamedAsEarlier cX0_isNamedAsEarlier 3 (some .boolean), Cond.methodLink RX0 110 yX1_agrees, Cond.instanceMethod yX1_agrees, Cond.selects RX1 yX1_agrees yX1_agrees, Cond.code yX1_agrees cX1_agrees 7 (some .boolean), Cond.methodLink RX1 35 yX1_byteAt, Cond.methodLink RX0 93 yX0_readDelegations, Cond.instanceMethod yX0_readDelegations, Cond.selects RX0 yX0_readDelegations yX0_readDelegations, Cond.code yX0_readDelegations cX0_readDelegations 4 none, Cond.fieldLink RX0 114 "TrustedUpdates$Document" "delegationCount" "I", Cond.fieldLink RX0 30 "TrustedUpdates$Document" "delegations" "[I"]
def wsX0_readSigned : List Cond := .code yX0_readSigned cX0_readSigned 2 none :: ((wsX0_readSigned_r1 ++ (wsX0_readSigned_r2 ++ wsX0_readSigned_r3)) ++ wsX00 ++ wsX10)
def wsX1_size : List Cond := .code yX1_size cX1_size 1 (some .int) :: ([.fieldLink RX1 15 "TrustedUpdates$Row" "size" "I"] ++ wsX10)
def wsX0_readSignatures : List Cond := .code yX0_readSignatures cX0_readSignatures 3 none :: ([.methodLink RX0 77 yX0_next, .instanceMethod yX0_next, .selects RX0 yX0_next yX0_next, .initialized RX0, .code yX0_next cX0_next 4 (some .int), .fieldLink RX0 14 "TrustedUpdates$Document" "row" "LTrustedUpdates$Row;", .fieldLink RX0 61 "TrustedUpdates$Document" "place" "I", .fieldLink RX0 64 "TrustedUpdates$Document" "sound" "Z", .methodLink RX0 53 yX1_byteAt, .instanceMethod yX1_byteAt, .selects RX1 yX1_byteAt yX1_byteAt, .initialized RX1, .code yX1_byteAt cX1_byteAt 2 (some .int), .fieldLink RX1 15 "TrustedUpdates$Row" "size" "I", .fieldLink RX1 9 "TrustedUpdates$Row" "bytes" "[I", .methodLink RX0 84 yX0_skip, .instanceMethod yX0_skip, .selects RX0 yX0_skip yX0_skip, .code yX0_skip cX0_skip 3 none] ++ wsX00 ++ wsX10)
def wsX0_read_r1 : List Cond := [Cond.fieldLink RX0 14 "TrustedUpdates$Document" "row" "LTrustedUpdates$Row;", Cond.fieldLink RX0 61 "TrustedUpdates$Document" "place" "I", Cond.fieldLink RX0 64 "TrustedUpdates$Document" "sound" "Z", Cond.fieldLink RX0 50 "TrustedUpdates$Document" "signedSize" "I", Cond.fieldLink RX0 37 "TrustedUpdates$Document" "bare" "Z", Cond.fieldLink RX0 33 "TrustedUpdates$Document" "whole" "Z", Cond.methodLink RX0 57 yX1_become, Cond.instanceMethod yX1_become, Cond.selects RX1 yX1_become yX1_become, Cond.initialized RX1, Cond.code yX1_become cX1_become 2 none, Cond.fieldLink RX1 15 "TrustedUpdates$Row" "size" "I", Cond.fieldLink RX1 9 "TrustedUpdates$Row" "bytes" "[I", Cond.methodLink RX1 23 arraycopyName, Cond.native arraycopyName, Cond.static arraycopyName, Cond.initialized "java/lang/System", Cond.methodLink RX0 67 yX0_readSigned, Cond.instanceMethod yX0_readSigned, Cond.selects RX0 yX0_readSigned yX0_readSigned, Cond.initialized RX0, Cond.code yX0_readSigned cX0_readSigned 2 none, Cond.fieldLink RX0 40 "TrustedUpdates$Document" "role" "I", Cond.fieldLink RX0 44 "TrustedUpdates$Document" "version" "I"]
def wsX0_read_r2 : List Cond := [Cond.fieldLink RX0 47 "TrustedUpdates$Document" "end" "I", Cond.methodLink RX0 77 yX0_next, Cond.instanceMethod yX0_next, Cond.selects RX0 yX0_next yX0_next, Cond.code yX0_next cX0_next 4 (some .int), Cond.methodLink RX0 53 yX1_byteAt, Cond.instanceMethod yX1_byteAt, Cond.selects RX1 yX1_byteAt yX1_byteAt, Cond.code yX1_byteAt cX1_byteAt 2 (some .int), Cond.methodLink RX0 81 yX0_readRootKeySets, Cond.instanceMethod yX0_readRootKeySets, Cond.selects RX0 yX0_readRootKeySets yX0_readRootKeySets, Cond.code yX0_readRootKeySets cX0_readRootKeySets 2 none, Cond.fieldLink RX0 20 "TrustedUpdates$Document" "keySets" "[I", Cond.methodLink RX0 96 yX0_readKeySet, Cond.instanceMethod yX0_readKeySet, Cond.selects RX0 yX0_readKeySet yX0_readKeySet, Cond.code yX0_readKeySet cX0_readKeySet 5 none, Cond.methodLink RX0 84 yX0_skip, Cond.instanceMethod yX0_skip, Cond.selects RX0 yX0_skip yX0_skip, Cond.code yX0_skip cX0_skip 3 none, Cond.methodLink RX0 87 yX0_readEntries, Cond.instanceMethod yX0_readEntries]
def wsX0_read_r3 : List Cond := [Cond.selects RX0 yX0_readEntries yX0_readEntries, Cond.code yX0_readEntries cX0_readEntries 7 none, Cond.fieldLink RX0 24 "TrustedUpdates$Document" "versions" "[I", Cond.methodLink RX0 90 yX0_readTargets, Cond.instanceMethod yX0_readTargets, Cond.selects RX0 yX0_readTargets yX0_readTargets, Cond.code yX0_readTargets cX0_readTargets 2 none, Cond.fieldLink RX0 99 "TrustedUpdates$Document" "targetCount" "I", Cond.fieldLink RX0 27 "TrustedUpdates$Document" "targets" "[I", Cond.methodLink RX0 102 yX0_readLetters, Cond.instanceMethod yX0_readLetters, Cond.selects RX0 yX0_readLetters yX0_readLetters, Cond.code yX0_readLetters cX0_readLetters 5 none, Cond.methodLink RX0 106 yX0_isNamedAsEarlier, Cond.instanceMethod yX0_isNamedAsEarlier, Cond.selects RX0 yX0_isNamedAsEarlier yX0_isNamedAsEarlier, Cond.code yX0_isNamedAsEarlier cX0_isNamedAsEarlier 3 (some .boolean), Cond.methodLink RX0 110 yX1_agrees, Cond.instanceMethod yX1_agrees, Cond.selects RX1 yX1_agrees yX1_agrees, Cond.code yX1_agrees cX1_agrees 7 (some .boolean), Cond.methodLink RX1 35 yX1_byteAt, Cond.methodLink RX0 93 yX0_readDelegations, Cond.instanceMethod yX0_readDelegations]
def wsX0_read_r4 : List Cond := [Cond.selects RX0 yX0_readDelegations yX0_readDelegations, Cond.code yX0_readDelegations cX0_readDelegations 4 none, Cond.fieldLink RX0 114 "TrustedUpdates$Document" "delegationCount" "I", Cond.fieldLink RX0 30 "TrustedUpdates$Document" "delegations" "[I", Cond.methodLink RX0 70 yX1_size, Cond.instanceMethod yX1_size, Cond.selects RX1 yX1_size yX1_size, Cond.code yX1_size cX1_size 1 (some .int), Cond.methodLink RX0 74 yX0_readSignatures, Cond.instanceMethod yX0_readSignatures, Cond.selects RX0 yX0_readSignatures yX0_readSignatures, Cond.code yX0_readSignatures cX0_readSignatures 3 none]
def wsX0_read : List Cond := .code yX0_read cX0_read 2 none :: ((wsX0_read_r1 ++ (wsX0_read_r2 ++ (wsX0_read_r3 ++ wsX0_read_r4))) ++ wsX00 ++ wsX10)
def wsX1_mixOfFirst : List Cond := .code yX1_mixOfFirst cX1_mixOfFirst 5 (some .int) :: ([.constant RX1 29 (-1640531527), .fieldLink RX1 15 "TrustedUpdates$Row" "size" "I", .fieldLink RX1 9 "TrustedUpdates$Row" "bytes" "[I", .constant RX1 30 (16777619)] ++ wsX10)
def wsX0_signatureOf : List Cond := .code yX0_signatureOf cX0_signatureOf 2 (some .int) :: ([.fieldLink RX0 14 "TrustedUpdates$Document" "row" "LTrustedUpdates$Row;", .fieldLink RX0 50 "TrustedUpdates$Document" "signedSize" "I", .methodLink RX0 117 yX1_mixOfFirst, .instanceMethod yX1_mixOfFirst, .selects RX1 yX1_mixOfFirst yX1_mixOfFirst, .initialized RX1, .code yX1_mixOfFirst cX1_mixOfFirst 5 (some .int), .constant RX1 29 (-1640531527), .fieldLink RX1 15 "TrustedUpdates$Row" "size" "I", .fieldLink RX1 9 "TrustedUpdates$Row" "bytes" "[I", .constant RX1 30 (16777619)] ++ wsX00 ++ wsX10)
def wsX1_wordAt : List Cond := .code yX1_wordAt cX1_wordAt 2 (some .int) :: ([.fieldLink RX1 15 "TrustedUpdates$Row" "size" "I", .fieldLink RX1 9 "TrustedUpdates$Row" "bytes" "[I"] ++ wsX10)
def wsX0_hasSignatureOf_r1 : List Cond := [Cond.fieldLink RX0 50 "TrustedUpdates$Document" "signedSize" "I", Cond.fieldLink RX0 14 "TrustedUpdates$Document" "row" "LTrustedUpdates$Row;", Cond.methodLink RX0 120 yX0_signatureOf, Cond.instanceMethod yX0_signatureOf, Cond.selects RX0 yX0_signatureOf yX0_signatureOf, Cond.initialized RX0, Cond.code yX0_signatureOf cX0_signatureOf 2 (some .int), Cond.methodLink RX0 117 yX1_mixOfFirst, Cond.instanceMethod yX1_mixOfFirst, Cond.selects RX1 yX1_mixOfFirst yX1_mixOfFirst, Cond.initialized RX1, Cond.code yX1_mixOfFirst cX1_mixOfFirst 5 (some .int), Cond.constant RX1 29 (-1640531527), Cond.fieldLink RX1 15 "TrustedUpdates$Row" "size" "I", Cond.fieldLink RX1 9 "TrustedUpdates$Row" "bytes" "[I", Cond.constant RX1 30 (16777619), Cond.methodLink RX0 123 yX0_signatureCount, Cond.instanceMethod yX0_signatureCount, Cond.selects RX0 yX0_signatureCount yX0_signatureCount, Cond.code yX0_signatureCount cX0_signatureCount 1 (some .int), Cond.methodLink RX0 53 yX1_byteAt, Cond.instanceMethod yX1_byteAt, Cond.selects RX1 yX1_byteAt yX1_byteAt, Cond.code yX1_byteAt cX1_byteAt 2 (some .int)]
def wsX0_hasSignatureOf_r2 : List Cond := [Cond.methodLink RX0 126 yX1_wordAt, Cond.instanceMethod yX1_wordAt, Cond.selects RX1 yX1_wordAt yX1_wordAt, Cond.code yX1_wordAt cX1_wordAt 2 (some .int)]
def wsX0_hasSignatureOf : List Cond := .code yX0_hasSignatureOf cX0_hasSignatureOf 6 (some .boolean) :: ((wsX0_hasSignatureOf_r1 ++ wsX0_hasSignatureOf_r2) ++ wsX00 ++ wsX10)
def wsX0_isSignedAsAsked_r1 : List Cond := [Cond.methodLink RX0 53 yX1_byteAt, Cond.instanceMethod yX1_byteAt, Cond.selects RX1 yX1_byteAt yX1_byteAt, Cond.initialized RX1, Cond.code yX1_byteAt cX1_byteAt 2 (some .int), Cond.fieldLink RX1 15 "TrustedUpdates$Row" "size" "I", Cond.fieldLink RX1 9 "TrustedUpdates$Row" "bytes" "[I", Cond.methodLink RX0 129 yX0_hasSignatureOf, Cond.instanceMethod yX0_hasSignatureOf, Cond.selects RX0 yX0_hasSignatureOf yX0_hasSignatureOf, Cond.initialized RX0, Cond.code yX0_hasSignatureOf cX0_hasSignatureOf 6 (some .boolean), Cond.fieldLink RX0 50 "TrustedUpdates$Document" "signedSize" "I", Cond.fieldLink RX0 14 "TrustedUpdates$Document" "row" "LTrustedUpdates$Row;", Cond.methodLink RX0 120 yX0_signatureOf, Cond.instanceMethod yX0_signatureOf, Cond.selects RX0 yX0_signatureOf yX0_signatureOf, Cond.code yX0_signatureOf cX0_signatureOf 2 (some .int), Cond.methodLink RX0 117 yX1_mixOfFirst, Cond.instanceMethod yX1_mixOfFirst, Cond.selects RX1 yX1_mixOfFirst yX1_mixOfFirst, Cond.code yX1_mixOfFirst cX1_mixOfFirst 5 (some .int), Cond.constant RX1 29 (-1640531527), Cond.constant RX1 30 (16777619)]
def wsX0_isSignedAsAsked_r2 : List Cond := [Cond.methodLink RX0 123 yX0_signatureCount, Cond.instanceMethod yX0_signatureCount, Cond.selects RX0 yX0_signatureCount yX0_signatureCount, Cond.code yX0_signatureCount cX0_signatureCount 1 (some .int), Cond.methodLink RX0 126 yX1_wordAt, Cond.instanceMethod yX1_wordAt, Cond.selects RX1 yX1_wordAt yX1_wordAt, Cond.code yX1_wordAt cX1_wordAt 2 (some .int)]
def wsX0_isSignedAsAsked : List Cond := .code yX0_isSignedAsAsked cX0_isSignedAsAsked 7 (some .boolean) :: ((wsX0_isSignedAsAsked_r1 ++ wsX0_isSignedAsAsked_r2) ++ wsX10 ++ wsX00)
def wsX0_rootVouchesFor_r1 : List Cond := [Cond.fieldLink RX0 14 "TrustedUpdates$Document" "row" "LTrustedUpdates$Row;", Cond.fieldLink RX0 20 "TrustedUpdates$Document" "keySets" "[I", Cond.methodLink RX0 132 yX0_isSignedAsAsked, Cond.instanceMethod yX0_isSignedAsAsked, Cond.selects RX0 yX0_isSignedAsAsked yX0_isSignedAsAsked, Cond.initialized RX0, Cond.code yX0_isSignedAsAsked cX0_isSignedAsAsked 7 (some .boolean), Cond.methodLink RX0 53 yX1_byteAt, Cond.instanceMethod yX1_byteAt, Cond.selects RX1 yX1_byteAt yX1_byteAt, Cond.initialized RX1, Cond.code yX1_byteAt cX1_byteAt 2 (some .int), Cond.fieldLink RX1 15 "TrustedUpdates$Row" "size" "I", Cond.fieldLink RX1 9 "TrustedUpdates$Row" "bytes" "[I", Cond.methodLink RX0 129 yX0_hasSignatureOf, Cond.instanceMethod yX0_hasSignatureOf, Cond.selects RX0 yX0_hasSignatureOf yX0_hasSignatureOf, Cond.code yX0_hasSignatureOf cX0_hasSignatureOf 6 (some .boolean), Cond.fieldLink RX0 50 "TrustedUpdates$Document" "signedSize" "I", Cond.methodLink RX0 120 yX0_signatureOf, Cond.instanceMethod yX0_signatureOf, Cond.selects RX0 yX0_signatureOf yX0_signatureOf, Cond.code yX0_signatureOf cX0_signatureOf 2 (some .int), Cond.methodLink RX0 117 yX1_mixOfFirst]
def wsX0_rootVouchesFor_r2 : List Cond := [Cond.instanceMethod yX1_mixOfFirst, Cond.selects RX1 yX1_mixOfFirst yX1_mixOfFirst, Cond.code yX1_mixOfFirst cX1_mixOfFirst 5 (some .int), Cond.constant RX1 29 (-1640531527), Cond.constant RX1 30 (16777619), Cond.methodLink RX0 123 yX0_signatureCount, Cond.instanceMethod yX0_signatureCount, Cond.selects RX0 yX0_signatureCount yX0_signatureCount, Cond.code yX0_signatureCount cX0_signatureCount 1 (some .int), Cond.methodLink RX0 126 yX1_wordAt, Cond.instanceMethod yX1_wordAt, Cond.selects RX1 yX1_wordAt yX1_wordAt, Cond.code yX1_wordAt cX1_wordAt 2 (some .int)]
def wsX0_rootVouchesFor : List Cond := .code yX0_rootVouchesFor cX0_rootVouchesFor 3 (some .boolean) :: ((wsX0_rootVouchesFor_r1 ++ wsX0_rootVouchesFor_r2) ++ wsX00 ++ wsX10)
def wsX0_hasKeySetOf : List Cond := .code yX0_hasKeySetOf cX0_hasKeySetOf 4 (some .boolean) :: ([.fieldLink RX0 20 "TrustedUpdates$Document" "keySets" "[I", .fieldLink RX0 14 "TrustedUpdates$Document" "row" "LTrustedUpdates$Row;", .methodLink RX0 53 yX1_byteAt, .instanceMethod yX1_byteAt, .selects RX1 yX1_byteAt yX1_byteAt, .initialized RX1, .code yX1_byteAt cX1_byteAt 2 (some .int), .fieldLink RX1 15 "TrustedUpdates$Row" "size" "I", .fieldLink RX1 9 "TrustedUpdates$Row" "bytes" "[I", .methodLink RX0 110 yX1_agrees, .instanceMethod yX1_agrees, .selects RX1 yX1_agrees yX1_agrees, .code yX1_agrees cX1_agrees 7 (some .boolean), .methodLink RX1 35 yX1_byteAt] ++ wsX00 ++ wsX10)
def wsX0_stampedVersion : List Cond := .code yX0_stampedVersion cX0_stampedVersion 1 (some .int) :: ([.fieldLink RX0 14 "TrustedUpdates$Document" "row" "LTrustedUpdates$Row;", .methodLink RX0 53 yX1_byteAt, .instanceMethod yX1_byteAt, .selects RX1 yX1_byteAt yX1_byteAt, .initialized RX1, .code yX1_byteAt cX1_byteAt 2 (some .int), .fieldLink RX1 15 "TrustedUpdates$Row" "size" "I", .fieldLink RX1 9 "TrustedUpdates$Row" "bytes" "[I"] ++ wsX00 ++ wsX10)
def wsX0_stampedDigest : List Cond := .code yX0_stampedDigest cX0_stampedDigest 1 (some .int) :: ([.fieldLink RX0 14 "TrustedUpdates$Document" "row" "LTrustedUpdates$Row;", .methodLink RX0 126 yX1_wordAt, .instanceMethod yX1_wordAt, .selects RX1 yX1_wordAt yX1_wordAt, .initialized RX1, .code yX1_wordAt cX1_wordAt 2 (some .int), .fieldLink RX1 15 "TrustedUpdates$Row" "size" "I", .fieldLink RX1 9 "TrustedUpdates$Row" "bytes" "[I"] ++ wsX00 ++ wsX10)
def wsX0_versionFor : List Cond := .code yX0_versionFor cX0_versionFor 2 (some .int) :: ([.fieldLink RX0 24 "TrustedUpdates$Document" "versions" "[I"] ++ wsX00)
def wsX0_targetNamed : List Cond := .code yX0_targetNamed cX0_targetNamed 4 (some .int) :: ([.fieldLink RX0 99 "TrustedUpdates$Document" "targetCount" "I", .fieldLink RX0 27 "TrustedUpdates$Document" "targets" "[I", .fieldLink RX0 14 "TrustedUpdates$Document" "row" "LTrustedUpdates$Row;", .methodLink RX0 53 yX1_byteAt, .instanceMethod yX1_byteAt, .selects RX1 yX1_byteAt yX1_byteAt, .initialized RX1, .code yX1_byteAt cX1_byteAt 2 (some .int), .fieldLink RX1 15 "TrustedUpdates$Row" "size" "I", .fieldLink RX1 9 "TrustedUpdates$Row" "bytes" "[I", .methodLink RX0 70 yX1_size, .instanceMethod yX1_size, .selects RX1 yX1_size yX1_size, .code yX1_size cX1_size 1 (some .int), .methodLink RX0 110 yX1_agrees, .instanceMethod yX1_agrees, .selects RX1 yX1_agrees yX1_agrees, .code yX1_agrees cX1_agrees 7 (some .boolean), .methodLink RX1 35 yX1_byteAt] ++ wsX00 ++ wsX10)
def wsX0_delegationCount : List Cond := .code yX0_delegationCount cX0_delegationCount 1 (some .int) :: ([.fieldLink RX0 114 "TrustedUpdates$Document" "delegationCount" "I"] ++ wsX00)
def wsX0_delegationPlace : List Cond := .code yX0_delegationPlace cX0_delegationPlace 2 (some .int) :: ([.fieldLink RX0 114 "TrustedUpdates$Document" "delegationCount" "I", .fieldLink RX0 30 "TrustedUpdates$Document" "delegations" "[I"] ++ wsX00)
def wsX0_delegateOf : List Cond := .code yX0_delegateOf cX0_delegateOf 2 (some .int) :: ([.fieldLink RX0 14 "TrustedUpdates$Document" "row" "LTrustedUpdates$Row;", .methodLink RX0 136 yX0_delegationPlace, .instanceMethod yX0_delegationPlace, .selects RX0 yX0_delegationPlace yX0_delegationPlace, .initialized RX0, .code yX0_delegationPlace cX0_delegationPlace 2 (some .int), .fieldLink RX0 114 "TrustedUpdates$Document" "delegationCount" "I", .fieldLink RX0 30 "TrustedUpdates$Document" "delegations" "[I", .methodLink RX0 53 yX1_byteAt, .instanceMethod yX1_byteAt, .selects RX1 yX1_byteAt yX1_byteAt, .initialized RX1, .code yX1_byteAt cX1_byteAt 2 (some .int), .fieldLink RX1 15 "TrustedUpdates$Row" "size" "I", .fieldLink RX1 9 "TrustedUpdates$Row" "bytes" "[I"] ++ wsX00 ++ wsX10)
def wsX0_isFinal : List Cond := .code yX0_isFinal cX0_isFinal 2 (some .boolean) :: ([.fieldLink RX0 14 "TrustedUpdates$Document" "row" "LTrustedUpdates$Row;", .methodLink RX0 136 yX0_delegationPlace, .instanceMethod yX0_delegationPlace, .selects RX0 yX0_delegationPlace yX0_delegationPlace, .initialized RX0, .code yX0_delegationPlace cX0_delegationPlace 2 (some .int), .fieldLink RX0 114 "TrustedUpdates$Document" "delegationCount" "I", .fieldLink RX0 30 "TrustedUpdates$Document" "delegations" "[I", .methodLink RX0 53 yX1_byteAt, .instanceMethod yX1_byteAt, .selects RX1 yX1_byteAt yX1_byteAt, .initialized RX1, .code yX1_byteAt cX1_byteAt 2 (some .int), .fieldLink RX1 15 "TrustedUpdates$Row" "size" "I", .fieldLink RX1 9 "TrustedUpdates$Row" "bytes" "[I"] ++ wsX00 ++ wsX10)
def wsX0_delegatedKeySet : List Cond := .code yX0_delegatedKeySet cX0_delegatedKeySet 2 (some .int) :: ([.methodLink RX0 136 yX0_delegationPlace, .instanceMethod yX0_delegationPlace, .selects RX0 yX0_delegationPlace yX0_delegationPlace, .initialized RX0, .code yX0_delegationPlace cX0_delegationPlace 2 (some .int), .fieldLink RX0 114 "TrustedUpdates$Document" "delegationCount" "I", .fieldLink RX0 30 "TrustedUpdates$Document" "delegations" "[I"] ++ wsX00)
def wsX0_delegates : List Cond := .code yX0_delegates cX0_delegates 5 (some .boolean) :: ([.fieldLink RX0 14 "TrustedUpdates$Document" "row" "LTrustedUpdates$Row;", .methodLink RX0 139 yX0_delegatedKeySet, .instanceMethod yX0_delegatedKeySet, .selects RX0 yX0_delegatedKeySet yX0_delegatedKeySet, .initialized RX0, .code yX0_delegatedKeySet cX0_delegatedKeySet 2 (some .int), .methodLink RX0 136 yX0_delegationPlace, .instanceMethod yX0_delegationPlace, .selects RX0 yX0_delegationPlace yX0_delegationPlace, .code yX0_delegationPlace cX0_delegationPlace 2 (some .int), .fieldLink RX0 114 "TrustedUpdates$Document" "delegationCount" "I", .fieldLink RX0 30 "TrustedUpdates$Document" "delegations" "[I", .methodLink RX0 53 yX1_byteAt, .instanceMethod yX1_byteAt, .selects RX1 yX1_byteAt yX1_byteAt, .initialized RX1, .code yX1_byteAt cX1_byteAt 2 (some .int), .fieldLink RX1 15 "TrustedUpdates$Row" "size" "I", .fieldLink RX1 9 "TrustedUpdates$Row" "bytes" "[I", .methodLink RX0 110 yX1_agrees, .instanceMethod yX1_agrees, .selects RX1 yX1_agrees yX1_agrees, .code yX1_agrees cX1_agrees 7 (some .boolean), .methodLink RX1 35 yX1_byteAt] ++ wsX00 ++ wsX10)
def wsX1_has : List Cond := .code yX1_has cX1_has 2 (some .boolean) :: ([.fieldLink RX1 15 "TrustedUpdates$Row" "size" "I"] ++ wsX10)
def wsX1_hasRoomFor : List Cond := .code yX1_hasRoomFor cX1_hasRoomFor 2 (some .boolean) :: ([.fieldLink RX1 9 "TrustedUpdates$Row" "bytes" "[I", .fieldLink RX1 15 "TrustedUpdates$Row" "size" "I"] ++ wsX10)
def wsX1_replace : List Cond := .code yX1_replace cX1_replace 3 none :: ([.fieldLink RX1 15 "TrustedUpdates$Row" "size" "I", .fieldLink RX1 9 "TrustedUpdates$Row" "bytes" "[I"] ++ wsX10)
def wsX1_append : List Cond := .code yX1_append cX1_append 2 none :: ([.fieldLink RX1 15 "TrustedUpdates$Row" "size" "I", .fieldLink RX1 9 "TrustedUpdates$Row" "bytes" "[I"] ++ wsX10)
def wsX1_appendLowest : List Cond := .code yX1_appendLowest cX1_appendLowest 5 none :: ([.methodLink RX1 19 yX1_append, .instanceMethod yX1_append, .selects RX1 yX1_append yX1_append, .initialized RX1, .code yX1_append cX1_append 2 none, .fieldLink RX1 15 "TrustedUpdates$Row" "size" "I", .fieldLink RX1 9 "TrustedUpdates$Row" "bytes" "[I"] ++ wsX10)
def wsX1_appendWord : List Cond := .code yX1_appendWord cX1_appendWord 2 none :: ([.methodLink RX1 19 yX1_append, .instanceMethod yX1_append, .selects RX1 yX1_append yX1_append, .initialized RX1, .code yX1_append cX1_append 2 none, .fieldLink RX1 15 "TrustedUpdates$Row" "size" "I", .fieldLink RX1 9 "TrustedUpdates$Row" "bytes" "[I"] ++ wsX10)
def wsX1_keepFirst : List Cond := .code yX1_keepFirst cX1_keepFirst 2 none :: ([.fieldLink RX1 15 "TrustedUpdates$Row" "size" "I"] ++ wsX10)
def wsX1_wholeDigest : List Cond := .code yX1_wholeDigest cX1_wholeDigest 1 (some .int) :: ([.fieldLink RX1 15 "TrustedUpdates$Row" "size" "I", .methodLink RX1 31 yX1_mixOfFirst, .instanceMethod yX1_mixOfFirst, .selects RX1 yX1_mixOfFirst yX1_mixOfFirst, .initialized RX1, .code yX1_mixOfFirst cX1_mixOfFirst 5 (some .int), .constant RX1 29 (-1640531527), .fieldLink RX1 9 "TrustedUpdates$Row" "bytes" "[I", .constant RX1 30 (16777619)] ++ wsX10)
def wsX2_init : List Cond := .code yX2_init cX2_init 2 none :: ([.methodLink RX2 3 objectInit, .instanceMethod objectInit, .code objectInit ⟨#[0xb1]⟩ 1 none, .fieldLink RX2 9 "TrustedUpdates$Search" "trust" "LTrustedUpdates$Trust;", .classLink RX2 15 RX1, .instantiable RX1 2, .initialized RX1, .fieldLink RX2 20 "TrustedUpdates$Search" "name" "LTrustedUpdates$Row;", .methodLink RX2 17 yX1_init, .instanceMethod yX1_init, .code yX1_init cX1_init 2 none, .methodLink RX1 3 objectInit, .arrayClass .int, .fieldLink RX1 9 "TrustedUpdates$Row" "bytes" "[I"] ++ wsX20 ++ wsX10)
def wsX2_visitCount : List Cond := .code yX2_visitCount cX2_visitCount 1 (some .int) :: ([.fieldLink RX2 24 "TrustedUpdates$Search" "visitCount" "I"] ++ wsX20)
def wsX2_foundRole : List Cond := .code yX2_foundRole cX2_foundRole 1 (some .int) :: ([.fieldLink RX2 28 "TrustedUpdates$Search" "foundRole" "I"] ++ wsX20)
def wsX3_documentOf : List Cond := .code yX3_documentOf cX3_documentOf 2 (some (.object "TrustedUpdates$Document")) :: ([.fieldLink RX3 18 "TrustedUpdates$Trust" "documents" "[LTrustedUpdates$Document;", .fieldLink RX3 12 "TrustedUpdates$Trust" "none" "LTrustedUpdates$Document;"] ++ wsX30)
def wsX2_foundTargetIs_r1 : List Cond := [Cond.fieldLink RX2 9 "TrustedUpdates$Search" "trust" "LTrustedUpdates$Trust;", Cond.fieldLink RX2 28 "TrustedUpdates$Search" "foundRole" "I", Cond.fieldLink RX2 43 "TrustedUpdates$Search" "foundPlace" "I", Cond.methodLink RX2 31 yX3_documentOf, Cond.instanceMethod yX3_documentOf, Cond.selects RX3 yX3_documentOf yX3_documentOf, Cond.initialized RX3, Cond.code yX3_documentOf cX3_documentOf 2 (some (.object "TrustedUpdates$Document")), Cond.fieldLink RX3 18 "TrustedUpdates$Trust" "documents" "[LTrustedUpdates$Document;", Cond.fieldLink RX3 12 "TrustedUpdates$Trust" "none" "LTrustedUpdates$Document;", Cond.methodLink RX2 37 yX0_row, Cond.instanceMethod yX0_row, Cond.selects RX0 yX0_row yX0_row, Cond.initialized RX0, Cond.code yX0_row cX0_row 1 (some (.object "TrustedUpdates$Row")), Cond.fieldLink RX0 14 "TrustedUpdates$Document" "row" "LTrustedUpdates$Row;", Cond.methodLink RX2 46 yX1_byteAt, Cond.instanceMethod yX1_byteAt, Cond.selects RX1 yX1_byteAt yX1_byteAt, Cond.initialized RX1, Cond.code yX1_byteAt cX1_byteAt 2 (some .int), Cond.fieldLink RX1 15 "TrustedUpdates$Row" "size" "I", Cond.fieldLink RX1 9 "TrustedUpdates$Row" "bytes" "[I", Cond.methodLink RX2 50 yX1_size]
def wsX2_foundTargetIs_r2 : List Cond := [Cond.instanceMethod yX1_size, Cond.selects RX1 yX1_size yX1_size, Cond.code yX1_size cX1_size 1 (some .int), Cond.methodLink RX2 54 yX1_wordAt, Cond.instanceMethod yX1_wordAt, Cond.selects RX1 yX1_wordAt yX1_wordAt, Cond.code yX1_wordAt cX1_wordAt 2 (some .int), Cond.methodLink RX2 57 yX1_wholeDigest, Cond.instanceMethod yX1_wholeDigest, Cond.selects RX1 yX1_wholeDigest yX1_wholeDigest, Cond.code yX1_wholeDigest cX1_wholeDigest 1 (some .int), Cond.methodLink RX1 31 yX1_mixOfFirst, Cond.instanceMethod yX1_mixOfFirst, Cond.selects RX1 yX1_mixOfFirst yX1_mixOfFirst, Cond.code yX1_mixOfFirst cX1_mixOfFirst 5 (some .int), Cond.constant RX1 29 (-1640531527), Cond.constant RX1 30 (16777619)]
def wsX2_foundTargetIs : List Cond := .code yX2_foundTargetIs cX2_foundTargetIs 3 (some .boolean) :: ((wsX2_foundTargetIs_r1 ++ wsX2_foundTargetIs_r2) ++ wsX20 ++ wsX30 ++ wsX00 ++ wsX10)
def wsX3_findsEnded : List Cond := .code yX3_findsEnded cX3_findsEnded 2 (some .boolean) :: ([.fieldLink RX3 22 "TrustedUpdates$Trust" "clock" "I", .methodLink RX3 26 yX0_end, .instanceMethod yX0_end, .selects RX0 yX0_end yX0_end, .initialized RX0, .code yX0_end cX0_end 1 (some .int), .fieldLink RX0 47 "TrustedUpdates$Document" "end" "I"] ++ wsX30 ++ wsX00)
def wsX3_isInForce : List Cond := .code yX3_isInForce cX3_isInForce 3 (some .boolean) :: ([.methodLink RX3 30 yX3_documentOf, .instanceMethod yX3_documentOf, .selects RX3 yX3_documentOf yX3_documentOf, .initialized RX3, .code yX3_documentOf cX3_documentOf 2 (some (.object "TrustedUpdates$Document")), .fieldLink RX3 18 "TrustedUpdates$Trust" "documents" "[LTrustedUpdates$Document;", .fieldLink RX3 12 "TrustedUpdates$Trust" "none" "LTrustedUpdates$Document;", .methodLink RX3 34 yX0_isWhole, .instanceMethod yX0_isWhole, .selects RX0 yX0_isWhole yX0_isWhole, .initialized RX0, .code yX0_isWhole cX0_isWhole 1 (some .boolean), .fieldLink RX0 33 "TrustedUpdates$Document" "whole" "Z", .methodLink RX3 38 yX3_findsEnded, .instanceMethod yX3_findsEnded, .selects RX3 yX3_findsEnded yX3_findsEnded, .code yX3_findsEnded cX3_findsEnded 2 (some .boolean), .fieldLink RX3 22 "TrustedUpdates$Trust" "clock" "I", .methodLink RX3 26 yX0_end, .instanceMethod yX0_end, .selects RX0 yX0_end yX0_end, .code yX0_end cX0_end 1 (some .int), .fieldLink RX0 47 "TrustedUpdates$Document" "end" "I"] ++ wsX30 ++ wsX00)
def wsX3_isFresh_r1 : List Cond := [Cond.methodLink RX3 42 yX3_isInForce, Cond.instanceMethod yX3_isInForce, Cond.selects RX3 yX3_isInForce yX3_isInForce, Cond.initialized RX3, Cond.code yX3_isInForce cX3_isInForce 3 (some .boolean), Cond.methodLink RX3 30 yX3_documentOf, Cond.instanceMethod yX3_documentOf, Cond.selects RX3 yX3_documentOf yX3_documentOf, Cond.code yX3_documentOf cX3_documentOf 2 (some (.object "TrustedUpdates$Document")), Cond.fieldLink RX3 18 "TrustedUpdates$Trust" "documents" "[LTrustedUpdates$Document;", Cond.fieldLink RX3 12 "TrustedUpdates$Trust" "none" "LTrustedUpdates$Document;", Cond.methodLink RX3 34 yX0_isWhole, Cond.instanceMethod yX0_isWhole, Cond.selects RX0 yX0_isWhole yX0_isWhole, Cond.initialized RX0, Cond.code yX0_isWhole cX0_isWhole 1 (some .boolean), Cond.fieldLink RX0 33 "TrustedUpdates$Document" "whole" "Z", Cond.methodLink RX3 38 yX3_findsEnded, Cond.instanceMethod yX3_findsEnded, Cond.selects RX3 yX3_findsEnded yX3_findsEnded, Cond.code yX3_findsEnded cX3_findsEnded 2 (some .boolean), Cond.fieldLink RX3 22 "TrustedUpdates$Trust" "clock" "I", Cond.methodLink RX3 26 yX0_end, Cond.instanceMethod yX0_end]
def wsX3_isFresh_r2 : List Cond := [Cond.selects RX0 yX0_end yX0_end, Cond.code yX0_end cX0_end 1 (some .int), Cond.fieldLink RX0 47 "TrustedUpdates$Document" "end" "I", Cond.methodLink RX3 46 yX0_version, Cond.instanceMethod yX0_version, Cond.selects RX0 yX0_version yX0_version, Cond.code yX0_version cX0_version 1 (some .int), Cond.fieldLink RX0 44 "TrustedUpdates$Document" "version" "I", Cond.methodLink RX3 49 yX0_versionFor, Cond.instanceMethod yX0_versionFor, Cond.selects RX0 yX0_versionFor yX0_versionFor, Cond.code yX0_versionFor cX0_versionFor 2 (some .int), Cond.fieldLink RX0 24 "TrustedUpdates$Document" "versions" "[I"]
def wsX3_isFresh : List Cond := .code yX3_isFresh cX3_isFresh 2 (some .boolean) :: ((wsX3_isFresh_r1 ++ wsX3_isFresh_r2) ++ wsX30 ++ wsX00)
def wsX2_mayFollow_r1 : List Cond := [Cond.fieldLink RX2 20 "TrustedUpdates$Search" "name" "LTrustedUpdates$Row;", Cond.fieldLink RX2 67 "TrustedUpdates$Search" "visitedRoles" "I", Cond.fieldLink RX2 9 "TrustedUpdates$Search" "trust" "LTrustedUpdates$Trust;", Cond.methodLink RX2 89 yX0_delegateOf, Cond.instanceMethod yX0_delegateOf, Cond.selects RX0 yX0_delegateOf yX0_delegateOf, Cond.initialized RX0, Cond.code yX0_delegateOf cX0_delegateOf 2 (some .int), Cond.fieldLink RX0 14 "TrustedUpdates$Document" "row" "LTrustedUpdates$Row;", Cond.methodLink RX0 136 yX0_delegationPlace, Cond.instanceMethod yX0_delegationPlace, Cond.selects RX0 yX0_delegationPlace yX0_delegationPlace, Cond.code yX0_delegationPlace cX0_delegationPlace 2 (some .int), Cond.fieldLink RX0 114 "TrustedUpdates$Document" "delegationCount" "I", Cond.fieldLink RX0 30 "TrustedUpdates$Document" "delegations" "[I", Cond.methodLink RX0 53 yX1_byteAt, Cond.instanceMethod yX1_byteAt, Cond.selects RX1 yX1_byteAt yX1_byteAt, Cond.initialized RX1, Cond.code yX1_byteAt cX1_byteAt 2 (some .int), Cond.fieldLink RX1 15 "TrustedUpdates$Row" "size" "I", Cond.fieldLink RX1 9 "TrustedUpdates$Row" "bytes" "[I", Cond.methodLink RX2 96 yX0_delegates, Cond.instanceMethod yX0_delegates]
def wsX2_mayFollow_r2 : List Cond := [Cond.selects RX0 yX0_delegates yX0_delegates, Cond.code yX0_delegates cX0_delegates 5 (some .boolean), Cond.methodLink RX0 139 yX0_delegatedKeySet, Cond.instanceMethod yX0_delegatedKeySet, Cond.selects RX0 yX0_delegatedKeySet yX0_delegatedKeySet, Cond.code yX0_delegatedKeySet cX0_delegatedKeySet 2 (some .int), Cond.methodLink RX0 110 yX1_agrees, Cond.instanceMethod yX1_agrees, Cond.selects RX1 yX1_agrees yX1_agrees, Cond.code yX1_agrees cX1_agrees 7 (some .boolean), Cond.methodLink RX1 35 yX1_byteAt, Cond.methodLink RX2 100 yX3_isFresh, Cond.instanceMethod yX3_isFresh, Cond.selects RX3 yX3_isFresh yX3_isFresh, Cond.initialized RX3, Cond.code yX3_isFresh cX3_isFresh 2 (some .boolean), Cond.methodLink RX3 42 yX3_isInForce, Cond.instanceMethod yX3_isInForce, Cond.selects RX3 yX3_isInForce yX3_isInForce, Cond.code yX3_isInForce cX3_isInForce 3 (some .boolean), Cond.methodLink RX3 30 yX3_documentOf, Cond.instanceMethod yX3_documentOf, Cond.selects RX3 yX3_documentOf yX3_documentOf, Cond.code yX3_documentOf cX3_documentOf 2 (some (.object "TrustedUpdates$Document"))]
def wsX2_mayFollow_r3 : List Cond := [Cond.fieldLink RX3 18 "TrustedUpdates$Trust" "documents" "[LTrustedUpdates$Document;", Cond.fieldLink RX3 12 "TrustedUpdates$Trust" "none" "LTrustedUpdates$Document;", Cond.methodLink RX3 34 yX0_isWhole, Cond.instanceMethod yX0_isWhole, Cond.selects RX0 yX0_isWhole yX0_isWhole, Cond.code yX0_isWhole cX0_isWhole 1 (some .boolean), Cond.fieldLink RX0 33 "TrustedUpdates$Document" "whole" "Z", Cond.methodLink RX3 38 yX3_findsEnded, Cond.instanceMethod yX3_findsEnded, Cond.selects RX3 yX3_findsEnded yX3_findsEnded, Cond.code yX3_findsEnded cX3_findsEnded 2 (some .boolean), Cond.fieldLink RX3 22 "TrustedUpdates$Trust" "clock" "I", Cond.methodLink RX3 26 yX0_end, Cond.instanceMethod yX0_end, Cond.selects RX0 yX0_end yX0_end, Cond.code yX0_end cX0_end 1 (some .int), Cond.fieldLink RX0 47 "TrustedUpdates$Document" "end" "I", Cond.methodLink RX3 46 yX0_version, Cond.instanceMethod yX0_version, Cond.selects RX0 yX0_version yX0_version, Cond.code yX0_version cX0_version 1 (some .int), Cond.fieldLink RX0 44 "TrustedUpdates$Document" "version" "I", Cond.methodLink RX3 49 yX0_versionFor, Cond.instanceMethod yX0_versionFor]
def wsX2_mayFollow_r4 : List Cond := [Cond.selects RX0 yX0_versionFor yX0_versionFor, Cond.code yX0_versionFor cX0_versionFor 2 (some .int), Cond.fieldLink RX0 24 "TrustedUpdates$Document" "versions" "[I", Cond.methodLink RX2 31 yX3_documentOf, Cond.methodLink RX2 37 yX0_row, Cond.instanceMethod yX0_row, Cond.selects RX0 yX0_row yX0_row, Cond.code yX0_row cX0_row 1 (some (.object "TrustedUpdates$Row")), Cond.methodLink RX2 103 yX0_delegatedKeySet, Cond.methodLink RX2 106 yX0_isSignedAsAsked, Cond.instanceMethod yX0_isSignedAsAsked, Cond.selects RX0 yX0_isSignedAsAsked yX0_isSignedAsAsked, Cond.code yX0_isSignedAsAsked cX0_isSignedAsAsked 7 (some .boolean), Cond.methodLink RX0 129 yX0_hasSignatureOf, Cond.instanceMethod yX0_hasSignatureOf, Cond.selects RX0 yX0_hasSignatureOf yX0_hasSignatureOf, Cond.code yX0_hasSignatureOf cX0_hasSignatureOf 6 (some .boolean), Cond.fieldLink RX0 50 "TrustedUpdates$Document" "signedSize" "I", Cond.methodLink RX0 120 yX0_signatureOf, Cond.instanceMethod yX0_signatureOf, Cond.selects RX0 yX0_signatureOf yX0_signatureOf, Cond.code yX0_signatureOf cX0_signatureOf 2 (some .int), Cond.methodLink RX0 117 yX1_mixOfFirst, Cond.instanceMethod yX1_mixOfFirst]
def wsX2_mayFollow_r5 : List Cond := [Cond.selects RX1 yX1_mixOfFirst yX1_mixOfFirst, Cond.code yX1_mixOfFirst cX1_mixOfFirst 5 (some .int), Cond.constant RX1 29 (-1640531527), Cond.constant RX1 30 (16777619), Cond.methodLink RX0 123 yX0_signatureCount, Cond.instanceMethod yX0_signatureCount, Cond.selects RX0 yX0_signatureCount yX0_signatureCount, Cond.code yX0_signatureCount cX0_signatureCount 1 (some .int), Cond.methodLink RX0 126 yX1_wordAt, Cond.instanceMethod yX1_wordAt, Cond.selects RX1 yX1_wordAt yX1_wordAt, Cond.code yX1_wordAt cX1_wordAt 2 (some .int)]
def wsX2_mayFollow : List Cond := .code yX2_mayFollow cX2_mayFollow 4 (some .boolean) :: ((wsX2_mayFollow_r1 ++ (wsX2_mayFollow_r2 ++ (wsX2_mayFollow_r3 ++ (wsX2_mayFollow_r4 ++ wsX2_mayFollow_r5)))) ++ wsX20 ++ wsX00 ++ wsX10 ++ wsX30)
def wsX2_visit_r1 : List Cond := [Cond.fieldLink RX2 67 "TrustedUpdates$Search" "visitedRoles" "I", Cond.fieldLink RX2 24 "TrustedUpdates$Search" "visitCount" "I", Cond.fieldLink RX2 9 "TrustedUpdates$Search" "trust" "LTrustedUpdates$Trust;", Cond.fieldLink RX2 20 "TrustedUpdates$Search" "name" "LTrustedUpdates$Row;", Cond.fieldLink RX2 43 "TrustedUpdates$Search" "foundPlace" "I", Cond.fieldLink RX2 28 "TrustedUpdates$Search" "foundRole" "I", Cond.fieldLink RX2 70 "TrustedUpdates$Search" "over" "Z", Cond.methodLink RX2 31 yX3_documentOf, Cond.instanceMethod yX3_documentOf, Cond.selects RX3 yX3_documentOf yX3_documentOf, Cond.initialized RX3, Cond.code yX3_documentOf cX3_documentOf 2 (some (.object "TrustedUpdates$Document")), Cond.fieldLink RX3 18 "TrustedUpdates$Trust" "documents" "[LTrustedUpdates$Document;", Cond.fieldLink RX3 12 "TrustedUpdates$Trust" "none" "LTrustedUpdates$Document;", Cond.methodLink RX2 78 yX0_targetNamed, Cond.instanceMethod yX0_targetNamed, Cond.selects RX0 yX0_targetNamed yX0_targetNamed, Cond.initialized RX0, Cond.code yX0_targetNamed cX0_targetNamed 4 (some .int), Cond.fieldLink RX0 99 "TrustedUpdates$Document" "targetCount" "I", Cond.fieldLink RX0 27 "TrustedUpdates$Document" "targets" "[I", Cond.fieldLink RX0 14 "TrustedUpdates$Document" "row" "LTrustedUpdates$Row;", Cond.methodLink RX0 53 yX1_byteAt, Cond.instanceMethod yX1_byteAt]
def wsX2_visit_r2 : List Cond := [Cond.selects RX1 yX1_byteAt yX1_byteAt, Cond.initialized RX1, Cond.code yX1_byteAt cX1_byteAt 2 (some .int), Cond.fieldLink RX1 15 "TrustedUpdates$Row" "size" "I", Cond.fieldLink RX1 9 "TrustedUpdates$Row" "bytes" "[I", Cond.methodLink RX0 70 yX1_size, Cond.instanceMethod yX1_size, Cond.selects RX1 yX1_size yX1_size, Cond.code yX1_size cX1_size 1 (some .int), Cond.methodLink RX0 110 yX1_agrees, Cond.instanceMethod yX1_agrees, Cond.selects RX1 yX1_agrees yX1_agrees, Cond.code yX1_agrees cX1_agrees 7 (some .boolean), Cond.methodLink RX1 35 yX1_byteAt, Cond.methodLink RX2 82 yX0_delegationCount, Cond.instanceMethod yX0_delegationCount, Cond.selects RX0 yX0_delegationCount yX0_delegationCount, Cond.code yX0_delegationCount cX0_delegationCount 1 (some .int), Cond.fieldLink RX0 114 "TrustedUpdates$Document" "delegationCount" "I", Cond.methodLink RX2 85 yX2_mayFollow, Cond.instanceMethod yX2_mayFollow, Cond.selects RX2 yX2_mayFollow yX2_mayFollow, Cond.initialized RX2, Cond.code yX2_mayFollow cX2_mayFollow 4 (some .boolean)]
def wsX2_visit_r3 : List Cond := [Cond.methodLink RX2 89 yX0_delegateOf, Cond.instanceMethod yX0_delegateOf, Cond.selects RX0 yX0_delegateOf yX0_delegateOf, Cond.code yX0_delegateOf cX0_delegateOf 2 (some .int), Cond.methodLink RX0 136 yX0_delegationPlace, Cond.instanceMethod yX0_delegationPlace, Cond.selects RX0 yX0_delegationPlace yX0_delegationPlace, Cond.code yX0_delegationPlace cX0_delegationPlace 2 (some .int), Cond.fieldLink RX0 30 "TrustedUpdates$Document" "delegations" "[I", Cond.methodLink RX2 96 yX0_delegates, Cond.instanceMethod yX0_delegates, Cond.selects RX0 yX0_delegates yX0_delegates, Cond.code yX0_delegates cX0_delegates 5 (some .boolean), Cond.methodLink RX0 139 yX0_delegatedKeySet, Cond.instanceMethod yX0_delegatedKeySet, Cond.selects RX0 yX0_delegatedKeySet yX0_delegatedKeySet, Cond.code yX0_delegatedKeySet cX0_delegatedKeySet 2 (some .int), Cond.methodLink RX2 100 yX3_isFresh, Cond.instanceMethod yX3_isFresh, Cond.selects RX3 yX3_isFresh yX3_isFresh, Cond.code yX3_isFresh cX3_isFresh 2 (some .boolean), Cond.methodLink RX3 42 yX3_isInForce, Cond.instanceMethod yX3_isInForce, Cond.selects RX3 yX3_isInForce yX3_isInForce]
def wsX2_visit_r4 : List Cond := [Cond.code yX3_isInForce cX3_isInForce 3 (some .boolean), Cond.methodLink RX3 30 yX3_documentOf, Cond.methodLink RX3 34 yX0_isWhole, Cond.instanceMethod yX0_isWhole, Cond.selects RX0 yX0_isWhole yX0_isWhole, Cond.code yX0_isWhole cX0_isWhole 1 (some .boolean), Cond.fieldLink RX0 33 "TrustedUpdates$Document" "whole" "Z", Cond.methodLink RX3 38 yX3_findsEnded, Cond.instanceMethod yX3_findsEnded, Cond.selects RX3 yX3_findsEnded yX3_findsEnded, Cond.code yX3_findsEnded cX3_findsEnded 2 (some .boolean), Cond.fieldLink RX3 22 "TrustedUpdates$Trust" "clock" "I", Cond.methodLink RX3 26 yX0_end, Cond.instanceMethod yX0_end, Cond.selects RX0 yX0_end yX0_end, Cond.code yX0_end cX0_end 1 (some .int), Cond.fieldLink RX0 47 "TrustedUpdates$Document" "end" "I", Cond.methodLink RX3 46 yX0_version, Cond.instanceMethod yX0_version, Cond.selects RX0 yX0_version yX0_version, Cond.code yX0_version cX0_version 1 (some .int), Cond.fieldLink RX0 44 "TrustedUpdates$Document" "version" "I", Cond.methodLink RX3 49 yX0_versionFor, Cond.instanceMethod yX0_versionFor]
def wsX2_visit_r5 : List Cond := [Cond.selects RX0 yX0_versionFor yX0_versionFor, Cond.code yX0_versionFor cX0_versionFor 2 (some .int), Cond.fieldLink RX0 24 "TrustedUpdates$Document" "versions" "[I", Cond.methodLink RX2 37 yX0_row, Cond.instanceMethod yX0_row, Cond.selects RX0 yX0_row yX0_row, Cond.code yX0_row cX0_row 1 (some (.object "TrustedUpdates$Row")), Cond.methodLink RX2 103 yX0_delegatedKeySet, Cond.methodLink RX2 106 yX0_isSignedAsAsked, Cond.instanceMethod yX0_isSignedAsAsked, Cond.selects RX0 yX0_isSignedAsAsked yX0_isSignedAsAsked, Cond.code yX0_isSignedAsAsked cX0_isSignedAsAsked 7 (some .boolean), Cond.methodLink RX0 129 yX0_hasSignatureOf, Cond.instanceMethod yX0_hasSignatureOf, Cond.selects RX0 yX0_hasSignatureOf yX0_hasSignatureOf, Cond.code yX0_hasSignatureOf cX0_hasSignatureOf 6 (some .boolean), Cond.fieldLink RX0 50 "TrustedUpdates$Document" "signedSize" "I", Cond.methodLink RX0 120 yX0_signatureOf, Cond.instanceMethod yX0_signatureOf, Cond.selects RX0 yX0_signatureOf yX0_signatureOf, Cond.code yX0_signatureOf cX0_signatureOf 2 (some .int), Cond.methodLink RX0 117 yX1_mixOfFirst, Cond.instanceMethod yX1_mixOfFirst, Cond.selects RX1 yX1_mixOfFirst yX1_mixOfFirst]
def wsX2_visit_r6 : List Cond := [Cond.code yX1_mixOfFirst cX1_mixOfFirst 5 (some .int), Cond.constant RX1 29 (-1640531527), Cond.constant RX1 30 (16777619), Cond.methodLink RX0 123 yX0_signatureCount, Cond.instanceMethod yX0_signatureCount, Cond.selects RX0 yX0_signatureCount yX0_signatureCount, Cond.code yX0_signatureCount cX0_signatureCount 1 (some .int), Cond.methodLink RX0 126 yX1_wordAt, Cond.instanceMethod yX1_wordAt, Cond.selects RX1 yX1_wordAt yX1_wordAt, Cond.code yX1_wordAt cX1_wordAt 2 (some .int), Cond.methodLink RX2 74 yX2_visit, Cond.instanceMethod yX2_visit, Cond.selects RX2 yX2_visit yX2_visit, Cond.methodLink RX2 92 yX0_isFinal, Cond.instanceMethod yX0_isFinal, Cond.selects RX0 yX0_isFinal yX0_isFinal, Cond.code yX0_isFinal cX0_isFinal 2 (some .boolean)]
def wsX2_visit : List Cond := .code yX2_visit cX2_visit 5 none :: ((wsX2_visit_r1 ++ (wsX2_visit_r2 ++ (wsX2_visit_r3 ++ (wsX2_visit_r4 ++ (wsX2_visit_r5 ++ wsX2_visit_r6))))) ++ wsX20 ++ wsX30 ++ wsX00 ++ wsX10)
def wsX2_run_r1 : List Cond := [Cond.fieldLink RX2 20 "TrustedUpdates$Search" "name" "LTrustedUpdates$Row;", Cond.fieldLink RX2 67 "TrustedUpdates$Search" "visitedRoles" "I", Cond.fieldLink RX2 24 "TrustedUpdates$Search" "visitCount" "I", Cond.fieldLink RX2 28 "TrustedUpdates$Search" "foundRole" "I", Cond.fieldLink RX2 70 "TrustedUpdates$Search" "over" "Z", Cond.methodLink RX2 60 yX1_keepFirst, Cond.instanceMethod yX1_keepFirst, Cond.selects RX1 yX1_keepFirst yX1_keepFirst, Cond.initialized RX1, Cond.code yX1_keepFirst cX1_keepFirst 2 none, Cond.fieldLink RX1 15 "TrustedUpdates$Row" "size" "I", Cond.methodLink RX2 63 yX1_appendLowest, Cond.instanceMethod yX1_appendLowest, Cond.selects RX1 yX1_appendLowest yX1_appendLowest, Cond.code yX1_appendLowest cX1_appendLowest 5 none, Cond.methodLink RX1 19 yX1_append, Cond.instanceMethod yX1_append, Cond.selects RX1 yX1_append yX1_append, Cond.code yX1_append cX1_append 2 none, Cond.fieldLink RX1 9 "TrustedUpdates$Row" "bytes" "[I", Cond.methodLink RX2 74 yX2_visit, Cond.instanceMethod yX2_visit, Cond.selects RX2 yX2_visit yX2_visit, Cond.initialized RX2]
def wsX2_run_r2 : List Cond := [Cond.code yX2_visit cX2_visit 5 none, Cond.fieldLink RX2 9 "TrustedUpdates$Search" "trust" "LTrustedUpdates$Trust;", Cond.fieldLink RX2 43 "TrustedUpdates$Search" "foundPlace" "I", Cond.methodLink RX2 31 yX3_documentOf, Cond.instanceMethod yX3_documentOf, Cond.selects RX3 yX3_documentOf yX3_documentOf, Cond.initialized RX3, Cond.code yX3_documentOf cX3_documentOf 2 (some (.object "TrustedUpdates$Document")), Cond.fieldLink RX3 18 "TrustedUpdates$Trust" "documents" "[LTrustedUpdates$Document;", Cond.fieldLink RX3 12 "TrustedUpdates$Trust" "none" "LTrustedUpdates$Document;", Cond.methodLink RX2 78 yX0_targetNamed, Cond.instanceMethod yX0_targetNamed, Cond.selects RX0 yX0_targetNamed yX0_targetNamed, Cond.initialized RX0, Cond.code yX0_targetNamed cX0_targetNamed 4 (some .int), Cond.fieldLink RX0 99 "TrustedUpdates$Document" "targetCount" "I", Cond.fieldLink RX0 27 "TrustedUpdates$Document" "targets" "[I", Cond.fieldLink RX0 14 "TrustedUpdates$Document" "row" "LTrustedUpdates$Row;", Cond.methodLink RX0 53 yX1_byteAt, Cond.instanceMethod yX1_byteAt, Cond.selects RX1 yX1_byteAt yX1_byteAt, Cond.code yX1_byteAt cX1_byteAt 2 (some .int), Cond.methodLink RX0 70 yX1_size, Cond.instanceMethod yX1_size]
def wsX2_run_r3 : List Cond := [Cond.selects RX1 yX1_size yX1_size, Cond.code yX1_size cX1_size 1 (some .int), Cond.methodLink RX0 110 yX1_agrees, Cond.instanceMethod yX1_agrees, Cond.selects RX1 yX1_agrees yX1_agrees, Cond.code yX1_agrees cX1_agrees 7 (some .boolean), Cond.methodLink RX1 35 yX1_byteAt, Cond.methodLink RX2 82 yX0_delegationCount, Cond.instanceMethod yX0_delegationCount, Cond.selects RX0 yX0_delegationCount yX0_delegationCount, Cond.code yX0_delegationCount cX0_delegationCount 1 (some .int), Cond.fieldLink RX0 114 "TrustedUpdates$Document" "delegationCount" "I", Cond.methodLink RX2 85 yX2_mayFollow, Cond.instanceMethod yX2_mayFollow, Cond.selects RX2 yX2_mayFollow yX2_mayFollow, Cond.code yX2_mayFollow cX2_mayFollow 4 (some .boolean), Cond.methodLink RX2 89 yX0_delegateOf, Cond.instanceMethod yX0_delegateOf, Cond.selects RX0 yX0_delegateOf yX0_delegateOf, Cond.code yX0_delegateOf cX0_delegateOf 2 (some .int), Cond.methodLink RX0 136 yX0_delegationPlace, Cond.instanceMethod yX0_delegationPlace, Cond.selects RX0 yX0_delegationPlace yX0_delegationPlace, Cond.code yX0_delegationPlace cX0_delegationPlace 2 (some .int)]
def wsX2_run_r4 : List Cond := [Cond.fieldLink RX0 30 "TrustedUpdates$Document" "delegations" "[I", Cond.methodLink RX2 96 yX0_delegates, Cond.instanceMethod yX0_delegates, Cond.selects RX0 yX0_delegates yX0_delegates, Cond.code yX0_delegates cX0_delegates 5 (some .boolean), Cond.methodLink RX0 139 yX0_delegatedKeySet, Cond.instanceMethod yX0_delegatedKeySet, Cond.selects RX0 yX0_delegatedKeySet yX0_delegatedKeySet, Cond.code yX0_delegatedKeySet cX0_delegatedKeySet 2 (some .int), Cond.methodLink RX2 100 yX3_isFresh, Cond.instanceMethod yX3_isFresh, Cond.selects RX3 yX3_isFresh yX3_isFresh, Cond.code yX3_isFresh cX3_isFresh 2 (some .boolean), Cond.methodLink RX3 42 yX3_isInForce, Cond.instanceMethod yX3_isInForce, Cond.selects RX3 yX3_isInForce yX3_isInForce, Cond.code yX3_isInForce cX3_isInForce 3 (some .boolean), Cond.methodLink RX3 30 yX3_documentOf, Cond.methodLink RX3 34 yX0_isWhole, Cond.instanceMethod yX0_isWhole, Cond.selects RX0 yX0_isWhole yX0_isWhole, Cond.code yX0_isWhole cX0_isWhole 1 (some .boolean), Cond.fieldLink RX0 33 "TrustedUpdates$Document" "whole" "Z", Cond.methodLink RX3 38 yX3_findsEnded]
def wsX2_run_r5 : List Cond := [Cond.instanceMethod yX3_findsEnded, Cond.selects RX3 yX3_findsEnded yX3_findsEnded, Cond.code yX3_findsEnded cX3_findsEnded 2 (some .boolean), Cond.fieldLink RX3 22 "TrustedUpdates$Trust" "clock" "I", Cond.methodLink RX3 26 yX0_end, Cond.instanceMethod yX0_end, Cond.selects RX0 yX0_end yX0_end, Cond.code yX0_end cX0_end 1 (some .int), Cond.fieldLink RX0 47 "TrustedUpdates$Document" "end" "I", Cond.methodLink RX3 46 yX0_version, Cond.instanceMethod yX0_version, Cond.selects RX0 yX0_version yX0_version, Cond.code yX0_version cX0_version 1 (some .int), Cond.fieldLink RX0 44 "TrustedUpdates$Document" "version" "I", Cond.methodLink RX3 49 yX0_versionFor, Cond.instanceMethod yX0_versionFor, Cond.selects RX0 yX0_versionFor yX0_versionFor, Cond.code yX0_versionFor cX0_versionFor 2 (some .int), Cond.fieldLink RX0 24 "TrustedUpdates$Document" "versions" "[I", Cond.methodLink RX2 37 yX0_row, Cond.instanceMethod yX0_row, Cond.selects RX0 yX0_row yX0_row, Cond.code yX0_row cX0_row 1 (some (.object "TrustedUpdates$Row")), Cond.methodLink RX2 103 yX0_delegatedKeySet]
def wsX2_run_r6 : List Cond := [Cond.methodLink RX2 106 yX0_isSignedAsAsked, Cond.instanceMethod yX0_isSignedAsAsked, Cond.selects RX0 yX0_isSignedAsAsked yX0_isSignedAsAsked, Cond.code yX0_isSignedAsAsked cX0_isSignedAsAsked 7 (some .boolean), Cond.methodLink RX0 129 yX0_hasSignatureOf, Cond.instanceMethod yX0_hasSignatureOf, Cond.selects RX0 yX0_hasSignatureOf yX0_hasSignatureOf, Cond.code yX0_hasSignatureOf cX0_hasSignatureOf 6 (some .boolean), Cond.fieldLink RX0 50 "TrustedUpdates$Document" "signedSize" "I", Cond.methodLink RX0 120 yX0_signatureOf, Cond.instanceMethod yX0_signatureOf, Cond.selects RX0 yX0_signatureOf yX0_signatureOf, Cond.code yX0_signatureOf cX0_signatureOf 2 (some .int), Cond.methodLink RX0 117 yX1_mixOfFirst, Cond.instanceMethod yX1_mixOfFirst, Cond.selects RX1 yX1_mixOfFirst yX1_mixOfFirst, Cond.code yX1_mixOfFirst cX1_mixOfFirst 5 (some .int), Cond.constant RX1 29 (-1640531527), Cond.constant RX1 30 (16777619), Cond.methodLink RX0 123 yX0_signatureCount, Cond.instanceMethod yX0_signatureCount, Cond.selects RX0 yX0_signatureCount yX0_signatureCount, Cond.code yX0_signatureCount cX0_signatureCount 1 (some .int), Cond.methodLink RX0 126 yX1_wordAt]
def wsX2_run_r7 : List Cond := [Cond.instanceMethod yX1_wordAt, Cond.selects RX1 yX1_wordAt yX1_wordAt, Cond.code yX1_wordAt cX1_wordAt 2 (some .int), Cond.methodLink RX2 92 yX0_isFinal, Cond.instanceMethod yX0_isFinal, Cond.selects RX0 yX0_isFinal yX0_isFinal, Cond.code yX0_isFinal cX0_isFinal 2 (some .boolean)]
def wsX2_run : List Cond := .code yX2_run cX2_run 4 none :: ((wsX2_run_r1 ++ (wsX2_run_r2 ++ (wsX2_run_r3 ++ (wsX2_run_r4 ++ (wsX2_run_r5 ++ (wsX2_run_r6 ++ wsX2_run_r7)))))) ++ wsX20 ++ wsX10 ++ wsX30 ++ wsX00)
def wsX3_init_r1 : List Cond := [Cond.methodLink RX3 3 objectInit, Cond.instanceMethod objectInit, Cond.code objectInit ⟨#[0xb1]⟩ 1 none, Cond.classLink RX3 9 RX0, Cond.instantiable RX0 15, Cond.initialized RX0, Cond.fieldLink RX3 12 "TrustedUpdates$Trust" "none" "LTrustedUpdates$Document;", Cond.fieldLink RX3 18 "TrustedUpdates$Trust" "documents" "[LTrustedUpdates$Document;", Cond.methodLink RX3 11 yX0_init, Cond.instanceMethod yX0_init, Cond.code yX0_init cX0_init 1 none, Cond.methodLink RX0 3 objectInit, Cond.classLink RX0 9 RX1, Cond.instantiable RX1 2, Cond.initialized RX1, Cond.fieldLink RX0 14 "TrustedUpdates$Document" "row" "LTrustedUpdates$Row;", Cond.arrayClass .int, Cond.fieldLink RX0 20 "TrustedUpdates$Document" "keySets" "[I", Cond.fieldLink RX0 24 "TrustedUpdates$Document" "versions" "[I", Cond.fieldLink RX0 27 "TrustedUpdates$Document" "targets" "[I", Cond.fieldLink RX0 30 "TrustedUpdates$Document" "delegations" "[I", Cond.methodLink RX0 11 yX1_init, Cond.instanceMethod yX1_init, Cond.code yX1_init cX1_init 2 none]
def wsX3_init_r2 : List Cond := [Cond.methodLink RX1 3 objectInit, Cond.fieldLink RX1 9 "TrustedUpdates$Row" "bytes" "[I"]
def wsX3_init : List Cond := .code yX3_init cX3_init 2 none :: ((wsX3_init_r1 ++ wsX3_init_r2) ++ wsX00 ++ wsX30 ++ wsX10)
def wsX3_advanceClock : List Cond := .code yX3_advanceClock cX3_advanceClock 2 (some .int) :: ([.fieldLink RX3 22 "TrustedUpdates$Trust" "clock" "I"] ++ wsX30)
def wsX3_allowsSeeking_r1 : List Cond := [Cond.methodLink RX3 42 yX3_isInForce, Cond.instanceMethod yX3_isInForce, Cond.selects RX3 yX3_isInForce yX3_isInForce, Cond.initialized RX3, Cond.code yX3_isInForce cX3_isInForce 3 (some .boolean), Cond.methodLink RX3 30 yX3_documentOf, Cond.instanceMethod yX3_documentOf, Cond.selects RX3 yX3_documentOf yX3_documentOf, Cond.code yX3_documentOf cX3_documentOf 2 (some (.object "TrustedUpdates$Document")), Cond.fieldLink RX3 18 "TrustedUpdates$Trust" "documents" "[LTrustedUpdates$Document;", Cond.fieldLink RX3 12 "TrustedUpdates$Trust" "none" "LTrustedUpdates$Document;", Cond.methodLink RX3 34 yX0_isWhole, Cond.instanceMethod yX0_isWhole, Cond.selects RX0 yX0_isWhole yX0_isWhole, Cond.initialized RX0, Cond.code yX0_isWhole cX0_isWhole 1 (some .boolean), Cond.fieldLink RX0 33 "TrustedUpdates$Document" "whole" "Z", Cond.methodLink RX3 38 yX3_findsEnded, Cond.instanceMethod yX3_findsEnded, Cond.selects RX3 yX3_findsEnded yX3_findsEnded, Cond.code yX3_findsEnded cX3_findsEnded 2 (some .boolean), Cond.fieldLink RX3 22 "TrustedUpdates$Trust" "clock" "I", Cond.methodLink RX3 26 yX0_end, Cond.instanceMethod yX0_end]
def wsX3_allowsSeeking_r2 : List Cond := [Cond.selects RX0 yX0_end yX0_end, Cond.code yX0_end cX0_end 1 (some .int), Cond.fieldLink RX0 47 "TrustedUpdates$Document" "end" "I", Cond.methodLink RX3 53 yX3_isFresh, Cond.instanceMethod yX3_isFresh, Cond.selects RX3 yX3_isFresh yX3_isFresh, Cond.code yX3_isFresh cX3_isFresh 2 (some .boolean), Cond.methodLink RX3 46 yX0_version, Cond.instanceMethod yX0_version, Cond.selects RX0 yX0_version yX0_version, Cond.code yX0_version cX0_version 1 (some .int), Cond.fieldLink RX0 44 "TrustedUpdates$Document" "version" "I", Cond.methodLink RX3 49 yX0_versionFor, Cond.instanceMethod yX0_versionFor, Cond.selects RX0 yX0_versionFor yX0_versionFor, Cond.code yX0_versionFor cX0_versionFor 2 (some .int), Cond.fieldLink RX0 24 "TrustedUpdates$Document" "versions" "[I"]
def wsX3_allowsSeeking : List Cond := .code yX3_allowsSeeking cX3_allowsSeeking 1 (some .boolean) :: ((wsX3_allowsSeeking_r1 ++ wsX3_allowsSeeking_r2) ++ wsX30 ++ wsX00)
def wsX3_startFrom_r1 : List Cond := [Cond.methodLink RX3 30 yX3_documentOf, Cond.instanceMethod yX3_documentOf, Cond.selects RX3 yX3_documentOf yX3_documentOf, Cond.initialized RX3, Cond.code yX3_documentOf cX3_documentOf 2 (some (.object "TrustedUpdates$Document")), Cond.fieldLink RX3 18 "TrustedUpdates$Trust" "documents" "[LTrustedUpdates$Document;", Cond.fieldLink RX3 12 "TrustedUpdates$Trust" "none" "LTrustedUpdates$Document;", Cond.methodLink RX3 56 yX0_clear, Cond.instanceMethod yX0_clear, Cond.selects RX0 yX0_clear yX0_clear, Cond.initialized RX0, Cond.code yX0_clear cX0_clear 1 none, Cond.fieldLink RX0 33 "TrustedUpdates$Document" "whole" "Z", Cond.methodLink RX3 59 yX0_row, Cond.instanceMethod yX0_row, Cond.selects RX0 yX0_row yX0_row, Cond.code yX0_row cX0_row 1 (some (.object "TrustedUpdates$Row")), Cond.fieldLink RX0 14 "TrustedUpdates$Document" "row" "LTrustedUpdates$Row;", Cond.methodLink RX3 63 yX0_read, Cond.instanceMethod yX0_read, Cond.selects RX0 yX0_read yX0_read, Cond.code yX0_read cX0_read 2 none, Cond.fieldLink RX0 61 "TrustedUpdates$Document" "place" "I", Cond.fieldLink RX0 64 "TrustedUpdates$Document" "sound" "Z"]
def wsX3_startFrom_r2 : List Cond := [Cond.fieldLink RX0 50 "TrustedUpdates$Document" "signedSize" "I", Cond.fieldLink RX0 37 "TrustedUpdates$Document" "bare" "Z", Cond.methodLink RX0 57 yX1_become, Cond.instanceMethod yX1_become, Cond.selects RX1 yX1_become yX1_become, Cond.initialized RX1, Cond.code yX1_become cX1_become 2 none, Cond.fieldLink RX1 15 "TrustedUpdates$Row" "size" "I", Cond.fieldLink RX1 9 "TrustedUpdates$Row" "bytes" "[I", Cond.methodLink RX1 23 arraycopyName, Cond.native arraycopyName, Cond.static arraycopyName, Cond.initialized "java/lang/System", Cond.methodLink RX0 67 yX0_readSigned, Cond.instanceMethod yX0_readSigned, Cond.selects RX0 yX0_readSigned yX0_readSigned, Cond.code yX0_readSigned cX0_readSigned 2 none, Cond.fieldLink RX0 40 "TrustedUpdates$Document" "role" "I", Cond.fieldLink RX0 44 "TrustedUpdates$Document" "version" "I", Cond.fieldLink RX0 47 "TrustedUpdates$Document" "end" "I", Cond.methodLink RX0 77 yX0_next, Cond.instanceMethod yX0_next, Cond.selects RX0 yX0_next yX0_next, Cond.code yX0_next cX0_next 4 (some .int)]
def wsX3_startFrom_r3 : List Cond := [Cond.methodLink RX0 53 yX1_byteAt, Cond.instanceMethod yX1_byteAt, Cond.selects RX1 yX1_byteAt yX1_byteAt, Cond.code yX1_byteAt cX1_byteAt 2 (some .int), Cond.methodLink RX0 81 yX0_readRootKeySets, Cond.instanceMethod yX0_readRootKeySets, Cond.selects RX0 yX0_readRootKeySets yX0_readRootKeySets, Cond.code yX0_readRootKeySets cX0_readRootKeySets 2 none, Cond.fieldLink RX0 20 "TrustedUpdates$Document" "keySets" "[I", Cond.methodLink RX0 96 yX0_readKeySet, Cond.instanceMethod yX0_readKeySet, Cond.selects RX0 yX0_readKeySet yX0_readKeySet, Cond.code yX0_readKeySet cX0_readKeySet 5 none, Cond.methodLink RX0 84 yX0_skip, Cond.instanceMethod yX0_skip, Cond.selects RX0 yX0_skip yX0_skip, Cond.code yX0_skip cX0_skip 3 none, Cond.methodLink RX0 87 yX0_readEntries, Cond.instanceMethod yX0_readEntries, Cond.selects RX0 yX0_readEntries yX0_readEntries, Cond.code yX0_readEntries cX0_readEntries 7 none, Cond.fieldLink RX0 24 "TrustedUpdates$Document" "versions" "[I", Cond.methodLink RX0 90 yX0_readTargets, Cond.instanceMethod yX0_readTargets]
def wsX3_startFrom_r4 : List Cond := [Cond.selects RX0 yX0_readTargets yX0_readTargets, Cond.code yX0_readTargets cX0_readTargets 2 none, Cond.fieldLink RX0 99 "TrustedUpdates$Document" "targetCount" "I", Cond.fieldLink RX0 27 "TrustedUpdates$Document" "targets" "[I", Cond.methodLink RX0 102 yX0_readLetters, Cond.instanceMethod yX0_readLetters, Cond.selects RX0 yX0_readLetters yX0_readLetters, Cond.code yX0_readLetters cX0_readLetters 5 none, Cond.methodLink RX0 106 yX0_isNamedAsEarlier, Cond.instanceMethod yX0_isNamedAsEarlier, Cond.selects RX0 yX0_isNamedAsEarlier yX0_isNamedAsEarlier, Cond.code yX0_isNamedAsEarlier cX0_isNamedAsEarlier 3 (some .boolean), Cond.methodLink RX0 110 yX1_agrees, Cond.instanceMethod yX1_agrees, Cond.selects RX1 yX1_agrees yX1_agrees, Cond.code yX1_agrees cX1_agrees 7 (some .boolean), Cond.methodLink RX1 35 yX1_byteAt, Cond.methodLink RX0 93 yX0_readDelegations, Cond.instanceMethod yX0_readDelegations, Cond.selects RX0 yX0_readDelegations yX0_readDelegations, Cond.code yX0_readDelegations cX0_readDelegations 4 none, Cond.fieldLink RX0 114 "TrustedUpdates$Document" "delegationCount" "I", Cond.fieldLink RX0 30 "TrustedUpdates$Document" "delegations" "[I", Cond.methodLink RX0 70 yX1_size]
def wsX3_startFrom_r5 : List Cond := [Cond.instanceMethod yX1_size, Cond.selects RX1 yX1_size yX1_size, Cond.code yX1_size cX1_size 1 (some .int), Cond.methodLink RX0 74 yX0_readSignatures, Cond.instanceMethod yX0_readSignatures, Cond.selects RX0 yX0_readSignatures yX0_readSignatures, Cond.code yX0_readSignatures cX0_readSignatures 3 none]
def wsX3_startFrom : List Cond := .code yX3_startFrom cX3_startFrom 3 none :: ((wsX3_startFrom_r1 ++ (wsX3_startFrom_r2 ++ (wsX3_startFrom_r3 ++ (wsX3_startFrom_r4 ++ wsX3_startFrom_r5)))) ++ wsX30 ++ wsX00 ++ wsX10)
def wsX3_hasGroundFor_r1 : List Cond := [Cond.methodLink RX3 30 yX3_documentOf, Cond.instanceMethod yX3_documentOf, Cond.selects RX3 yX3_documentOf yX3_documentOf, Cond.initialized RX3, Cond.code yX3_documentOf cX3_documentOf 2 (some (.object "TrustedUpdates$Document")), Cond.fieldLink RX3 18 "TrustedUpdates$Trust" "documents" "[LTrustedUpdates$Document;", Cond.fieldLink RX3 12 "TrustedUpdates$Trust" "none" "LTrustedUpdates$Document;", Cond.methodLink RX3 34 yX0_isWhole, Cond.instanceMethod yX0_isWhole, Cond.selects RX0 yX0_isWhole yX0_isWhole, Cond.initialized RX0, Cond.code yX0_isWhole cX0_isWhole 1 (some .boolean), Cond.fieldLink RX0 33 "TrustedUpdates$Document" "whole" "Z", Cond.methodLink RX3 42 yX3_isInForce, Cond.instanceMethod yX3_isInForce, Cond.selects RX3 yX3_isInForce yX3_isInForce, Cond.code yX3_isInForce cX3_isInForce 3 (some .boolean), Cond.methodLink RX3 38 yX3_findsEnded, Cond.instanceMethod yX3_findsEnded, Cond.selects RX3 yX3_findsEnded yX3_findsEnded, Cond.code yX3_findsEnded cX3_findsEnded 2 (some .boolean), Cond.fieldLink RX3 22 "TrustedUpdates$Trust" "clock" "I", Cond.methodLink RX3 26 yX0_end, Cond.instanceMethod yX0_end]
def wsX3_hasGroundFor_r2 : List Cond := [Cond.selects RX0 yX0_end yX0_end, Cond.code yX0_end cX0_end 1 (some .int), Cond.fieldLink RX0 47 "TrustedUpdates$Document" "end" "I", Cond.methodLink RX3 49 yX0_versionFor, Cond.instanceMethod yX0_versionFor, Cond.selects RX0 yX0_versionFor yX0_versionFor, Cond.code yX0_versionFor cX0_versionFor 2 (some .int), Cond.fieldLink RX0 24 "TrustedUpdates$Document" "versions" "[I"]
def wsX3_hasGroundFor : List Cond := .code yX3_hasGroundFor cX3_hasGroundFor 2 (some .boolean) :: ((wsX3_hasGroundFor_r1 ++ wsX3_hasGroundFor_r2) ++ wsX30 ++ wsX00)
def wsX3_findsSigned_r1 : List Cond := [Cond.methodLink RX3 67 yX0_role, Cond.instanceMethod yX0_role, Cond.selects RX0 yX0_role yX0_role, Cond.initialized RX0, Cond.code yX0_role cX0_role 1 (some .int), Cond.fieldLink RX0 40 "TrustedUpdates$Document" "role" "I", Cond.methodLink RX3 30 yX3_documentOf, Cond.instanceMethod yX3_documentOf, Cond.selects RX3 yX3_documentOf yX3_documentOf, Cond.initialized RX3, Cond.code yX3_documentOf cX3_documentOf 2 (some (.object "TrustedUpdates$Document")), Cond.fieldLink RX3 18 "TrustedUpdates$Trust" "documents" "[LTrustedUpdates$Document;", Cond.fieldLink RX3 12 "TrustedUpdates$Trust" "none" "LTrustedUpdates$Document;", Cond.methodLink RX3 70 yX0_rootVouchesFor, Cond.instanceMethod yX0_rootVouchesFor, Cond.selects RX0 yX0_rootVouchesFor yX0_rootVouchesFor, Cond.code yX0_rootVouchesFor cX0_rootVouchesFor 3 (some .boolean), Cond.fieldLink RX0 14 "TrustedUpdates$Document" "row" "LTrustedUpdates$Row;", Cond.fieldLink RX0 20 "TrustedUpdates$Document" "keySets" "[I", Cond.methodLink RX0 132 yX0_isSignedAsAsked, Cond.instanceMethod yX0_isSignedAsAsked, Cond.selects RX0 yX0_isSignedAsAsked yX0_isSignedAsAsked, Cond.code yX0_isSignedAsAsked cX0_isSignedAsAsked 7 (some .boolean), Cond.methodLink RX0 53 yX1_byteAt]
def wsX3_findsSigned_r2 : List Cond := [Cond.instanceMethod yX1_byteAt, Cond.selects RX1 yX1_byteAt yX1_byteAt, Cond.initialized RX1, Cond.code yX1_byteAt cX1_byteAt 2 (some .int), Cond.fieldLink RX1 15 "TrustedUpdates$Row" "size" "I", Cond.fieldLink RX1 9 "TrustedUpdates$Row" "bytes" "[I", Cond.methodLink RX0 129 yX0_hasSignatureOf, Cond.instanceMethod yX0_hasSignatureOf, Cond.selects RX0 yX0_hasSignatureOf yX0_hasSignatureOf, Cond.code yX0_hasSignatureOf cX0_hasSignatureOf 6 (some .boolean), Cond.fieldLink RX0 50 "TrustedUpdates$Document" "signedSize" "I", Cond.methodLink RX0 120 yX0_signatureOf, Cond.instanceMethod yX0_signatureOf, Cond.selects RX0 yX0_signatureOf yX0_signatureOf, Cond.code yX0_signatureOf cX0_signatureOf 2 (some .int), Cond.methodLink RX0 117 yX1_mixOfFirst, Cond.instanceMethod yX1_mixOfFirst, Cond.selects RX1 yX1_mixOfFirst yX1_mixOfFirst, Cond.code yX1_mixOfFirst cX1_mixOfFirst 5 (some .int), Cond.constant RX1 29 (-1640531527), Cond.constant RX1 30 (16777619), Cond.methodLink RX0 123 yX0_signatureCount, Cond.instanceMethod yX0_signatureCount, Cond.selects RX0 yX0_signatureCount yX0_signatureCount]
def wsX3_findsSigned_r3 : List Cond := [Cond.code yX0_signatureCount cX0_signatureCount 1 (some .int), Cond.methodLink RX0 126 yX1_wordAt, Cond.instanceMethod yX1_wordAt, Cond.selects RX1 yX1_wordAt yX1_wordAt, Cond.code yX1_wordAt cX1_wordAt 2 (some .int)]
def wsX3_findsSigned : List Cond := .code yX3_findsSigned cX3_findsSigned 3 (some .boolean) :: ((wsX3_findsSigned_r1 ++ (wsX3_findsSigned_r2 ++ wsX3_findsSigned_r3)) ++ wsX00 ++ wsX30 ++ wsX10)
def wsX3_isNoOlderStamp_r1 : List Cond := [Cond.methodLink RX3 30 yX3_documentOf, Cond.instanceMethod yX3_documentOf, Cond.selects RX3 yX3_documentOf yX3_documentOf, Cond.initialized RX3, Cond.code yX3_documentOf cX3_documentOf 2 (some (.object "TrustedUpdates$Document")), Cond.fieldLink RX3 18 "TrustedUpdates$Trust" "documents" "[LTrustedUpdates$Document;", Cond.fieldLink RX3 12 "TrustedUpdates$Trust" "none" "LTrustedUpdates$Document;", Cond.methodLink RX3 34 yX0_isWhole, Cond.instanceMethod yX0_isWhole, Cond.selects RX0 yX0_isWhole yX0_isWhole, Cond.initialized RX0, Cond.code yX0_isWhole cX0_isWhole 1 (some .boolean), Cond.fieldLink RX0 33 "TrustedUpdates$Document" "whole" "Z", Cond.methodLink RX3 46 yX0_version, Cond.instanceMethod yX0_version, Cond.selects RX0 yX0_version yX0_version, Cond.code yX0_version cX0_version 1 (some .int), Cond.fieldLink RX0 44 "TrustedUpdates$Document" "version" "I", Cond.methodLink RX3 83 yX0_stampedVersion, Cond.instanceMethod yX0_stampedVersion, Cond.selects RX0 yX0_stampedVersion yX0_stampedVersion, Cond.code yX0_stampedVersion cX0_stampedVersion 1 (some .int), Cond.fieldLink RX0 14 "TrustedUpdates$Document" "row" "LTrustedUpdates$Row;", Cond.methodLink RX0 53 yX1_byteAt]
def wsX3_isNoOlderStamp_r2 : List Cond := [Cond.instanceMethod yX1_byteAt, Cond.selects RX1 yX1_byteAt yX1_byteAt, Cond.initialized RX1, Cond.code yX1_byteAt cX1_byteAt 2 (some .int), Cond.fieldLink RX1 15 "TrustedUpdates$Row" "size" "I", Cond.fieldLink RX1 9 "TrustedUpdates$Row" "bytes" "[I"]
def wsX3_isNoOlderStamp : List Cond := .code yX3_isNoOlderStamp cX3_isNoOlderStamp 3 (some .boolean) :: ((wsX3_isNoOlderStamp_r1 ++ wsX3_isNoOlderStamp_r2) ++ wsX30 ++ wsX00 ++ wsX10)
def wsX3_isAsStamped_r1 : List Cond := [Cond.methodLink RX3 30 yX3_documentOf, Cond.instanceMethod yX3_documentOf, Cond.selects RX3 yX3_documentOf yX3_documentOf, Cond.initialized RX3, Cond.code yX3_documentOf cX3_documentOf 2 (some (.object "TrustedUpdates$Document")), Cond.fieldLink RX3 18 "TrustedUpdates$Trust" "documents" "[LTrustedUpdates$Document;", Cond.fieldLink RX3 12 "TrustedUpdates$Trust" "none" "LTrustedUpdates$Document;", Cond.methodLink RX3 46 yX0_version, Cond.instanceMethod yX0_version, Cond.selects RX0 yX0_version yX0_version, Cond.initialized RX0, Cond.code yX0_version cX0_version 1 (some .int), Cond.fieldLink RX0 44 "TrustedUpdates$Document" "version" "I", Cond.methodLink RX3 83 yX0_stampedVersion, Cond.instanceMethod yX0_stampedVersion, Cond.selects RX0 yX0_stampedVersion yX0_stampedVersion, Cond.code yX0_stampedVersion cX0_stampedVersion 1 (some .int), Cond.fieldLink RX0 14 "TrustedUpdates$Document" "row" "LTrustedUpdates$Row;", Cond.methodLink RX0 53 yX1_byteAt, Cond.instanceMethod yX1_byteAt, Cond.selects RX1 yX1_byteAt yX1_byteAt, Cond.initialized RX1, Cond.code yX1_byteAt cX1_byteAt 2 (some .int), Cond.fieldLink RX1 15 "TrustedUpdates$Row" "size" "I"]
def wsX3_isAsStamped_r2 : List Cond := [Cond.fieldLink RX1 9 "TrustedUpdates$Row" "bytes" "[I", Cond.methodLink RX3 59 yX0_row, Cond.instanceMethod yX0_row, Cond.selects RX0 yX0_row yX0_row, Cond.code yX0_row cX0_row 1 (some (.object "TrustedUpdates$Row")), Cond.methodLink RX3 86 yX1_wholeDigest, Cond.instanceMethod yX1_wholeDigest, Cond.selects RX1 yX1_wholeDigest yX1_wholeDigest, Cond.code yX1_wholeDigest cX1_wholeDigest 1 (some .int), Cond.methodLink RX1 31 yX1_mixOfFirst, Cond.instanceMethod yX1_mixOfFirst, Cond.selects RX1 yX1_mixOfFirst yX1_mixOfFirst, Cond.code yX1_mixOfFirst cX1_mixOfFirst 5 (some .int), Cond.constant RX1 29 (-1640531527), Cond.constant RX1 30 (16777619), Cond.methodLink RX3 91 yX0_stampedDigest, Cond.instanceMethod yX0_stampedDigest, Cond.selects RX0 yX0_stampedDigest yX0_stampedDigest, Cond.code yX0_stampedDigest cX0_stampedDigest 1 (some .int), Cond.methodLink RX0 126 yX1_wordAt, Cond.instanceMethod yX1_wordAt, Cond.selects RX1 yX1_wordAt yX1_wordAt, Cond.code yX1_wordAt cX1_wordAt 2 (some .int)]
def wsX3_isAsStamped : List Cond := .code yX3_isAsStamped cX3_isAsStamped 3 (some .boolean) :: ((wsX3_isAsStamped_r1 ++ wsX3_isAsStamped_r2) ++ wsX30 ++ wsX00 ++ wsX10)
def wsX3_isNoOlderSnapshot : List Cond := .code yX3_isNoOlderSnapshot cX3_isNoOlderSnapshot 4 (some .boolean) :: ([.methodLink RX3 30 yX3_documentOf, .instanceMethod yX3_documentOf, .selects RX3 yX3_documentOf yX3_documentOf, .initialized RX3, .code yX3_documentOf cX3_documentOf 2 (some (.object "TrustedUpdates$Document")), .fieldLink RX3 18 "TrustedUpdates$Trust" "documents" "[LTrustedUpdates$Document;", .fieldLink RX3 12 "TrustedUpdates$Trust" "none" "LTrustedUpdates$Document;", .methodLink RX3 34 yX0_isWhole, .instanceMethod yX0_isWhole, .selects RX0 yX0_isWhole yX0_isWhole, .initialized RX0, .code yX0_isWhole cX0_isWhole 1 (some .boolean), .fieldLink RX0 33 "TrustedUpdates$Document" "whole" "Z", .methodLink RX3 49 yX0_versionFor, .instanceMethod yX0_versionFor, .selects RX0 yX0_versionFor yX0_versionFor, .code yX0_versionFor cX0_versionFor 2 (some .int), .fieldLink RX0 24 "TrustedUpdates$Document" "versions" "[I"] ++ wsX30 ++ wsX00)
def wsX3_findsVersionsRight_r1 : List Cond := [Cond.methodLink RX3 67 yX0_role, Cond.instanceMethod yX0_role, Cond.selects RX0 yX0_role yX0_role, Cond.initialized RX0, Cond.code yX0_role cX0_role 1 (some .int), Cond.fieldLink RX0 40 "TrustedUpdates$Document" "role" "I", Cond.methodLink RX3 46 yX0_version, Cond.instanceMethod yX0_version, Cond.selects RX0 yX0_version yX0_version, Cond.code yX0_version cX0_version 1 (some .int), Cond.fieldLink RX0 44 "TrustedUpdates$Document" "version" "I", Cond.methodLink RX3 30 yX3_documentOf, Cond.instanceMethod yX3_documentOf, Cond.selects RX3 yX3_documentOf yX3_documentOf, Cond.initialized RX3, Cond.code yX3_documentOf cX3_documentOf 2 (some (.object "TrustedUpdates$Document")), Cond.fieldLink RX3 18 "TrustedUpdates$Trust" "documents" "[LTrustedUpdates$Document;", Cond.fieldLink RX3 12 "TrustedUpdates$Trust" "none" "LTrustedUpdates$Document;", Cond.methodLink RX3 74 yX3_isNoOlderStamp, Cond.instanceMethod yX3_isNoOlderStamp, Cond.selects RX3 yX3_isNoOlderStamp yX3_isNoOlderStamp, Cond.code yX3_isNoOlderStamp cX3_isNoOlderStamp 3 (some .boolean), Cond.methodLink RX3 34 yX0_isWhole, Cond.instanceMethod yX0_isWhole]
def wsX3_findsVersionsRight_r2 : List Cond := [Cond.selects RX0 yX0_isWhole yX0_isWhole, Cond.code yX0_isWhole cX0_isWhole 1 (some .boolean), Cond.fieldLink RX0 33 "TrustedUpdates$Document" "whole" "Z", Cond.methodLink RX3 83 yX0_stampedVersion, Cond.instanceMethod yX0_stampedVersion, Cond.selects RX0 yX0_stampedVersion yX0_stampedVersion, Cond.code yX0_stampedVersion cX0_stampedVersion 1 (some .int), Cond.fieldLink RX0 14 "TrustedUpdates$Document" "row" "LTrustedUpdates$Row;", Cond.methodLink RX0 53 yX1_byteAt, Cond.instanceMethod yX1_byteAt, Cond.selects RX1 yX1_byteAt yX1_byteAt, Cond.initialized RX1, Cond.code yX1_byteAt cX1_byteAt 2 (some .int), Cond.fieldLink RX1 15 "TrustedUpdates$Row" "size" "I", Cond.fieldLink RX1 9 "TrustedUpdates$Row" "bytes" "[I", Cond.methodLink RX3 77 yX3_isAsStamped, Cond.instanceMethod yX3_isAsStamped, Cond.selects RX3 yX3_isAsStamped yX3_isAsStamped, Cond.code yX3_isAsStamped cX3_isAsStamped 3 (some .boolean), Cond.methodLink RX3 59 yX0_row, Cond.instanceMethod yX0_row, Cond.selects RX0 yX0_row yX0_row, Cond.code yX0_row cX0_row 1 (some (.object "TrustedUpdates$Row")), Cond.methodLink RX3 86 yX1_wholeDigest]
def wsX3_findsVersionsRight_r3 : List Cond := [Cond.instanceMethod yX1_wholeDigest, Cond.selects RX1 yX1_wholeDigest yX1_wholeDigest, Cond.code yX1_wholeDigest cX1_wholeDigest 1 (some .int), Cond.methodLink RX1 31 yX1_mixOfFirst, Cond.instanceMethod yX1_mixOfFirst, Cond.selects RX1 yX1_mixOfFirst yX1_mixOfFirst, Cond.code yX1_mixOfFirst cX1_mixOfFirst 5 (some .int), Cond.constant RX1 29 (-1640531527), Cond.constant RX1 30 (16777619), Cond.methodLink RX3 91 yX0_stampedDigest, Cond.instanceMethod yX0_stampedDigest, Cond.selects RX0 yX0_stampedDigest yX0_stampedDigest, Cond.code yX0_stampedDigest cX0_stampedDigest 1 (some .int), Cond.methodLink RX0 126 yX1_wordAt, Cond.instanceMethod yX1_wordAt, Cond.selects RX1 yX1_wordAt yX1_wordAt, Cond.code yX1_wordAt cX1_wordAt 2 (some .int), Cond.methodLink RX3 80 yX3_isNoOlderSnapshot, Cond.instanceMethod yX3_isNoOlderSnapshot, Cond.selects RX3 yX3_isNoOlderSnapshot yX3_isNoOlderSnapshot, Cond.code yX3_isNoOlderSnapshot cX3_isNoOlderSnapshot 4 (some .boolean), Cond.methodLink RX3 49 yX0_versionFor, Cond.instanceMethod yX0_versionFor, Cond.selects RX0 yX0_versionFor yX0_versionFor]
def wsX3_findsVersionsRight_r4 : List Cond := [Cond.code yX0_versionFor cX0_versionFor 2 (some .int), Cond.fieldLink RX0 24 "TrustedUpdates$Document" "versions" "[I"]
def wsX3_findsVersionsRight : List Cond := .code yX3_findsVersionsRight cX3_findsVersionsRight 2 (some .boolean) :: ((wsX3_findsVersionsRight_r1 ++ (wsX3_findsVersionsRight_r2 ++ (wsX3_findsVersionsRight_r3 ++ wsX3_findsVersionsRight_r4))) ++ wsX00 ++ wsX30 ++ wsX10)
def wsX3_changesOnlineKeys_r1 : List Cond := [Cond.methodLink RX3 30 yX3_documentOf, Cond.instanceMethod yX3_documentOf, Cond.selects RX3 yX3_documentOf yX3_documentOf, Cond.initialized RX3, Cond.code yX3_documentOf cX3_documentOf 2 (some (.object "TrustedUpdates$Document")), Cond.fieldLink RX3 18 "TrustedUpdates$Trust" "documents" "[LTrustedUpdates$Document;", Cond.fieldLink RX3 12 "TrustedUpdates$Trust" "none" "LTrustedUpdates$Document;", Cond.methodLink RX3 97 yX0_hasKeySetOf, Cond.instanceMethod yX0_hasKeySetOf, Cond.selects RX0 yX0_hasKeySetOf yX0_hasKeySetOf, Cond.initialized RX0, Cond.code yX0_hasKeySetOf cX0_hasKeySetOf 4 (some .boolean), Cond.fieldLink RX0 20 "TrustedUpdates$Document" "keySets" "[I", Cond.fieldLink RX0 14 "TrustedUpdates$Document" "row" "LTrustedUpdates$Row;", Cond.methodLink RX0 53 yX1_byteAt, Cond.instanceMethod yX1_byteAt, Cond.selects RX1 yX1_byteAt yX1_byteAt, Cond.initialized RX1, Cond.code yX1_byteAt cX1_byteAt 2 (some .int), Cond.fieldLink RX1 15 "TrustedUpdates$Row" "size" "I", Cond.fieldLink RX1 9 "TrustedUpdates$Row" "bytes" "[I", Cond.methodLink RX0 110 yX1_agrees, Cond.instanceMethod yX1_agrees, Cond.selects RX1 yX1_agrees yX1_agrees]
def wsX3_changesOnlineKeys_r2 : List Cond := [Cond.code yX1_agrees cX1_agrees 7 (some .boolean), Cond.methodLink RX1 35 yX1_byteAt]
def wsX3_changesOnlineKeys : List Cond := .code yX3_changesOnlineKeys cX3_changesOnlineKeys 3 (some .boolean) :: ((wsX3_changesOnlineKeys_r1 ++ wsX3_changesOnlineKeys_r2) ++ wsX30 ++ wsX00 ++ wsX10)
def wsX3_take_r1 : List Cond := [Cond.methodLink RX3 67 yX0_role, Cond.instanceMethod yX0_role, Cond.selects RX0 yX0_role yX0_role, Cond.initialized RX0, Cond.code yX0_role cX0_role 1 (some .int), Cond.fieldLink RX0 40 "TrustedUpdates$Document" "role" "I", Cond.methodLink RX3 94 yX3_changesOnlineKeys, Cond.instanceMethod yX3_changesOnlineKeys, Cond.selects RX3 yX3_changesOnlineKeys yX3_changesOnlineKeys, Cond.initialized RX3, Cond.code yX3_changesOnlineKeys cX3_changesOnlineKeys 3 (some .boolean), Cond.methodLink RX3 30 yX3_documentOf, Cond.instanceMethod yX3_documentOf, Cond.selects RX3 yX3_documentOf yX3_documentOf, Cond.code yX3_documentOf cX3_documentOf 2 (some (.object "TrustedUpdates$Document")), Cond.fieldLink RX3 18 "TrustedUpdates$Trust" "documents" "[LTrustedUpdates$Document;", Cond.fieldLink RX3 12 "TrustedUpdates$Trust" "none" "LTrustedUpdates$Document;", Cond.methodLink RX3 97 yX0_hasKeySetOf, Cond.instanceMethod yX0_hasKeySetOf, Cond.selects RX0 yX0_hasKeySetOf yX0_hasKeySetOf, Cond.code yX0_hasKeySetOf cX0_hasKeySetOf 4 (some .boolean), Cond.fieldLink RX0 20 "TrustedUpdates$Document" "keySets" "[I", Cond.fieldLink RX0 14 "TrustedUpdates$Document" "row" "LTrustedUpdates$Row;", Cond.methodLink RX0 53 yX1_byteAt]
def wsX3_take_r2 : List Cond := [Cond.instanceMethod yX1_byteAt, Cond.selects RX1 yX1_byteAt yX1_byteAt, Cond.initialized RX1, Cond.code yX1_byteAt cX1_byteAt 2 (some .int), Cond.fieldLink RX1 15 "TrustedUpdates$Row" "size" "I", Cond.fieldLink RX1 9 "TrustedUpdates$Row" "bytes" "[I", Cond.methodLink RX0 110 yX1_agrees, Cond.instanceMethod yX1_agrees, Cond.selects RX1 yX1_agrees yX1_agrees, Cond.code yX1_agrees cX1_agrees 7 (some .boolean), Cond.methodLink RX1 35 yX1_byteAt, Cond.methodLink RX3 56 yX0_clear, Cond.instanceMethod yX0_clear, Cond.selects RX0 yX0_clear yX0_clear, Cond.code yX0_clear cX0_clear 1 none, Cond.fieldLink RX0 33 "TrustedUpdates$Document" "whole" "Z", Cond.methodLink RX3 59 yX0_row, Cond.instanceMethod yX0_row, Cond.selects RX0 yX0_row yX0_row, Cond.code yX0_row cX0_row 1 (some (.object "TrustedUpdates$Row")), Cond.methodLink RX3 63 yX0_read, Cond.instanceMethod yX0_read, Cond.selects RX0 yX0_read yX0_read, Cond.code yX0_read cX0_read 2 none]
def wsX3_take_r3 : List Cond := [Cond.fieldLink RX0 61 "TrustedUpdates$Document" "place" "I", Cond.fieldLink RX0 64 "TrustedUpdates$Document" "sound" "Z", Cond.fieldLink RX0 50 "TrustedUpdates$Document" "signedSize" "I", Cond.fieldLink RX0 37 "TrustedUpdates$Document" "bare" "Z", Cond.methodLink RX0 57 yX1_become, Cond.instanceMethod yX1_become, Cond.selects RX1 yX1_become yX1_become, Cond.code yX1_become cX1_become 2 none, Cond.methodLink RX1 23 arraycopyName, Cond.native arraycopyName, Cond.static arraycopyName, Cond.initialized "java/lang/System", Cond.methodLink RX0 67 yX0_readSigned, Cond.instanceMethod yX0_readSigned, Cond.selects RX0 yX0_readSigned yX0_readSigned, Cond.code yX0_readSigned cX0_readSigned 2 none, Cond.fieldLink RX0 44 "TrustedUpdates$Document" "version" "I", Cond.fieldLink RX0 47 "TrustedUpdates$Document" "end" "I", Cond.methodLink RX0 77 yX0_next, Cond.instanceMethod yX0_next, Cond.selects RX0 yX0_next yX0_next, Cond.code yX0_next cX0_next 4 (some .int), Cond.methodLink RX0 81 yX0_readRootKeySets, Cond.instanceMethod yX0_readRootKeySets]
def wsX3_take_r4 : List Cond := [Cond.selects RX0 yX0_readRootKeySets yX0_readRootKeySets, Cond.code yX0_readRootKeySets cX0_readRootKeySets 2 none, Cond.methodLink RX0 96 yX0_readKeySet, Cond.instanceMethod yX0_readKeySet, Cond.selects RX0 yX0_readKeySet yX0_readKeySet, Cond.code yX0_readKeySet cX0_readKeySet 5 none, Cond.methodLink RX0 84 yX0_skip, Cond.instanceMethod yX0_skip, Cond.selects RX0 yX0_skip yX0_skip, Cond.code yX0_skip cX0_skip 3 none, Cond.methodLink RX0 87 yX0_readEntries, Cond.instanceMethod yX0_readEntries, Cond.selects RX0 yX0_readEntries yX0_readEntries, Cond.code yX0_readEntries cX0_readEntries 7 none, Cond.fieldLink RX0 24 "TrustedUpdates$Document" "versions" "[I", Cond.methodLink RX0 90 yX0_readTargets, Cond.instanceMethod yX0_readTargets, Cond.selects RX0 yX0_readTargets yX0_readTargets, Cond.code yX0_readTargets cX0_readTargets 2 none, Cond.fieldLink RX0 99 "TrustedUpdates$Document" "targetCount" "I", Cond.fieldLink RX0 27 "TrustedUpdates$Document" "targets" "[I", Cond.methodLink RX0 102 yX0_readLetters, Cond.instanceMethod yX0_readLetters, Cond.selects RX0 yX0_readLetters yX0_readLetters]
def wsX3_take_r5 : List Cond := [Cond.code yX0_readLetters cX0_readLetters 5 none, Cond.methodLink RX0 106 yX0_isNamedAsEarlier, Cond.instanceMethod yX0_isNamedAsEarlier, Cond.selects RX0 yX0_isNamedAsEarlier yX0_isNamedAsEarlier, Cond.code yX0_isNamedAsEarlier cX0_isNamedAsEarlier 3 (some .boolean), Cond.methodLink RX0 93 yX0_readDelegations, Cond.instanceMethod yX0_readDelegations, Cond.selects RX0 yX0_readDelegations yX0_readDelegations, Cond.code yX0_readDelegations cX0_readDelegations 4 none, Cond.fieldLink RX0 114 "TrustedUpdates$Document" "delegationCount" "I", Cond.fieldLink RX0 30 "TrustedUpdates$Document" "delegations" "[I", Cond.methodLink RX0 70 yX1_size, Cond.instanceMethod yX1_size, Cond.selects RX1 yX1_size yX1_size, Cond.code yX1_size cX1_size 1 (some .int), Cond.methodLink RX0 74 yX0_readSignatures, Cond.instanceMethod yX0_readSignatures, Cond.selects RX0 yX0_readSignatures yX0_readSignatures, Cond.code yX0_readSignatures cX0_readSignatures 3 none]
def wsX3_take : List Cond := .code yX3_take cX3_take 2 none :: ((wsX3_take_r1 ++ (wsX3_take_r2 ++ (wsX3_take_r3 ++ (wsX3_take_r4 ++ wsX3_take_r5)))) ++ wsX00 ++ wsX30 ++ wsX10)
def wsX4_init_r1 : List Cond := [Cond.methodLink RX4 3 objectInit, Cond.instanceMethod objectInit, Cond.code objectInit ⟨#[0xb1]⟩ 1 none, Cond.classLink RX4 9 RX1, Cond.instantiable RX1 2, Cond.initialized RX1, Cond.fieldLink RX4 14 "TrustedUpdates" "draft" "LTrustedUpdates$Row;", Cond.fieldLink RX4 18 "TrustedUpdates" "content" "LTrustedUpdates$Row;", Cond.classLink RX4 21 RX0, Cond.instantiable RX0 15, Cond.initialized RX0, Cond.fieldLink RX4 24 "TrustedUpdates" "offered" "LTrustedUpdates$Document;", Cond.classLink RX4 28 RX3, Cond.instantiable RX3 3, Cond.initialized RX3, Cond.fieldLink RX4 31 "TrustedUpdates" "trust" "LTrustedUpdates$Trust;", Cond.classLink RX4 35 RX2, Cond.instantiable RX2 7, Cond.initialized RX2, Cond.fieldLink RX4 40 "TrustedUpdates" "search" "LTrustedUpdates$Search;", Cond.methodLink RX4 11 yX1_init, Cond.instanceMethod yX1_init, Cond.code yX1_init cX1_init 2 none, Cond.methodLink RX1 3 objectInit]
def wsX4_init_r2 : List Cond := [Cond.arrayClass .int, Cond.fieldLink RX1 9 "TrustedUpdates$Row" "bytes" "[I", Cond.methodLink RX4 23 yX0_init, Cond.instanceMethod yX0_init, Cond.code yX0_init cX0_init 1 none, Cond.methodLink RX0 3 objectInit, Cond.classLink RX0 9 RX1, Cond.fieldLink RX0 14 "TrustedUpdates$Document" "row" "LTrustedUpdates$Row;", Cond.fieldLink RX0 20 "TrustedUpdates$Document" "keySets" "[I", Cond.fieldLink RX0 24 "TrustedUpdates$Document" "versions" "[I", Cond.fieldLink RX0 27 "TrustedUpdates$Document" "targets" "[I", Cond.fieldLink RX0 30 "TrustedUpdates$Document" "delegations" "[I", Cond.methodLink RX0 11 yX1_init, Cond.methodLink RX4 30 yX3_init, Cond.instanceMethod yX3_init, Cond.code yX3_init cX3_init 2 none, Cond.methodLink RX3 3 objectInit, Cond.classLink RX3 9 RX0, Cond.fieldLink RX3 12 "TrustedUpdates$Trust" "none" "LTrustedUpdates$Document;", Cond.fieldLink RX3 18 "TrustedUpdates$Trust" "documents" "[LTrustedUpdates$Document;", Cond.methodLink RX3 11 yX0_init, Cond.methodLink RX4 37 yX2_init, Cond.instanceMethod yX2_init, Cond.code yX2_init cX2_init 2 none]
def wsX4_init_r3 : List Cond := [Cond.methodLink RX2 3 objectInit, Cond.fieldLink RX2 9 "TrustedUpdates$Search" "trust" "LTrustedUpdates$Trust;", Cond.classLink RX2 15 RX1, Cond.fieldLink RX2 20 "TrustedUpdates$Search" "name" "LTrustedUpdates$Row;", Cond.methodLink RX2 17 yX1_init]
def wsX4_init : List Cond := .code yX4_init cX4_init 1 none :: ((wsX4_init_r1 ++ (wsX4_init_r2 ++ wsX4_init_r3)) ++ wsX10 ++ wsX40 ++ wsX00 ++ wsX30 ++ wsX20)
def wsX4_put : List Cond := .code yX4_put cX4_put 4 (some .boolean) :: ([.fieldLink RX4 14 "TrustedUpdates" "draft" "LTrustedUpdates$Row;", .methodLink RX4 44 yX1_hasRoomFor, .instanceMethod yX1_hasRoomFor, .selects RX1 yX1_hasRoomFor yX1_hasRoomFor, .initialized RX1, .code yX1_hasRoomFor cX1_hasRoomFor 2 (some .boolean), .fieldLink RX1 9 "TrustedUpdates$Row" "bytes" "[I", .fieldLink RX1 15 "TrustedUpdates$Row" "size" "I", .methodLink RX4 48 yX1_appendLowest, .instanceMethod yX1_appendLowest, .selects RX1 yX1_appendLowest yX1_appendLowest, .code yX1_appendLowest cX1_appendLowest 5 none, .methodLink RX1 19 yX1_append, .instanceMethod yX1_append, .selects RX1 yX1_append yX1_append, .code yX1_append cX1_append 2 none] ++ wsX40 ++ wsX10)
def wsX4_cut : List Cond := .code yX4_cut cX4_cut 2 (some .boolean) :: ([.fieldLink RX4 14 "TrustedUpdates" "draft" "LTrustedUpdates$Row;", .methodLink RX4 52 yX1_size, .instanceMethod yX1_size, .selects RX1 yX1_size yX1_size, .initialized RX1, .code yX1_size cX1_size 1 (some .int), .fieldLink RX1 15 "TrustedUpdates$Row" "size" "I", .methodLink RX4 56 yX1_keepFirst, .instanceMethod yX1_keepFirst, .selects RX1 yX1_keepFirst yX1_keepFirst, .code yX1_keepFirst cX1_keepFirst 2 none] ++ wsX40 ++ wsX10)
def wsX4_alter : List Cond := .code yX4_alter cX4_alter 3 (some .boolean) :: ([.fieldLink RX4 14 "TrustedUpdates" "draft" "LTrustedUpdates$Row;", .methodLink RX4 59 yX1_has, .instanceMethod yX1_has, .selects RX1 yX1_has yX1_has, .initialized RX1, .code yX1_has cX1_has 2 (some .boolean), .fieldLink RX1 15 "TrustedUpdates$Row" "size" "I", .methodLink RX4 62 yX1_replace, .instanceMethod yX1_replace, .selects RX1 yX1_replace yX1_replace, .code yX1_replace cX1_replace 3 none, .fieldLink RX1 9 "TrustedUpdates$Row" "bytes" "[I"] ++ wsX40 ++ wsX10)
def wsX4_length : List Cond := .code yX4_length cX4_length 1 (some .int) :: ([.fieldLink RX4 14 "TrustedUpdates" "draft" "LTrustedUpdates$Row;", .methodLink RX4 52 yX1_size, .instanceMethod yX1_size, .selects RX1 yX1_size yX1_size, .initialized RX1, .code yX1_size cX1_size 1 (some .int), .fieldLink RX1 15 "TrustedUpdates$Row" "size" "I"] ++ wsX40 ++ wsX10)
def wsX4_at : List Cond := .code yX4_at cX4_at 2 (some .int) :: ([.classLink RX4 66 "java/lang/IndexOutOfBoundsException", .initialized "java/lang/IndexOutOfBoundsException", .fieldLink RX4 14 "TrustedUpdates" "draft" "LTrustedUpdates$Row;", .methodLink RX4 59 yX1_has, .instanceMethod yX1_has, .selects RX1 yX1_has yX1_has, .initialized RX1, .code yX1_has cX1_has 2 (some .boolean), .fieldLink RX1 15 "TrustedUpdates$Row" "size" "I", .methodLink RX4 69 yX1_byteAt, .instanceMethod yX1_byteAt, .selects RX1 yX1_byteAt yX1_byteAt, .code yX1_byteAt cX1_byteAt 2 (some .int), .fieldLink RX1 9 "TrustedUpdates$Row" "bytes" "[I"] ++ wsX40 ++ wsX10 ++ (vx_at0 RX4 68 "java/lang/IndexOutOfBoundsException" ["java/lang/RuntimeException", "java/lang/Exception"]).filter goodWord)
def wsX4_mix : List Cond := .code yX4_mix cX4_mix 2 (some .int) :: ([.fieldLink RX4 14 "TrustedUpdates" "draft" "LTrustedUpdates$Row;", .methodLink RX4 52 yX1_size, .instanceMethod yX1_size, .selects RX1 yX1_size yX1_size, .initialized RX1, .code yX1_size cX1_size 1 (some .int), .fieldLink RX1 15 "TrustedUpdates$Row" "size" "I", .methodLink RX4 73 yX1_mixOfFirst, .instanceMethod yX1_mixOfFirst, .selects RX1 yX1_mixOfFirst yX1_mixOfFirst, .code yX1_mixOfFirst cX1_mixOfFirst 5 (some .int), .constant RX1 29 (-1640531527), .fieldLink RX1 9 "TrustedUpdates$Row" "bytes" "[I", .constant RX1 30 (16777619)] ++ wsX40 ++ wsX10)
def wsX4_digest_r1 : List Cond := [Cond.fieldLink RX4 14 "TrustedUpdates" "draft" "LTrustedUpdates$Row;", Cond.fieldLink RX4 18 "TrustedUpdates" "content" "LTrustedUpdates$Row;", Cond.methodLink RX4 44 yX1_hasRoomFor, Cond.instanceMethod yX1_hasRoomFor, Cond.selects RX1 yX1_hasRoomFor yX1_hasRoomFor, Cond.initialized RX1, Cond.code yX1_hasRoomFor cX1_hasRoomFor 2 (some .boolean), Cond.fieldLink RX1 9 "TrustedUpdates$Row" "bytes" "[I", Cond.fieldLink RX1 15 "TrustedUpdates$Row" "size" "I", Cond.methodLink RX4 77 yX1_wholeDigest, Cond.instanceMethod yX1_wholeDigest, Cond.selects RX1 yX1_wholeDigest yX1_wholeDigest, Cond.code yX1_wholeDigest cX1_wholeDigest 1 (some .int), Cond.methodLink RX1 31 yX1_mixOfFirst, Cond.instanceMethod yX1_mixOfFirst, Cond.selects RX1 yX1_mixOfFirst yX1_mixOfFirst, Cond.code yX1_mixOfFirst cX1_mixOfFirst 5 (some .int), Cond.constant RX1 29 (-1640531527), Cond.constant RX1 30 (16777619), Cond.methodLink RX4 80 yX1_appendWord, Cond.instanceMethod yX1_appendWord, Cond.selects RX1 yX1_appendWord yX1_appendWord, Cond.code yX1_appendWord cX1_appendWord 2 none, Cond.methodLink RX1 19 yX1_append]
def wsX4_digest_r2 : List Cond := [Cond.instanceMethod yX1_append, Cond.selects RX1 yX1_append yX1_append, Cond.code yX1_append cX1_append 2 none]
def wsX4_digest : List Cond := .code yX4_digest cX4_digest 1 (some .boolean) :: ((wsX4_digest_r1 ++ wsX4_digest_r2) ++ wsX40 ++ wsX10)
def wsX4_sign_r1 : List Cond := [Cond.classLink RX4 66 "java/lang/IndexOutOfBoundsException", Cond.initialized "java/lang/IndexOutOfBoundsException", Cond.classLink RX4 94 "java/lang/IllegalArgumentException", Cond.initialized "java/lang/IllegalArgumentException", Cond.classLink RX4 100 "java/lang/UnsupportedOperationException", Cond.initialized "java/lang/UnsupportedOperationException", Cond.fieldLink RX4 24 "TrustedUpdates" "offered" "LTrustedUpdates$Document;", Cond.fieldLink RX4 14 "TrustedUpdates" "draft" "LTrustedUpdates$Row;", Cond.methodLink RX4 83 yX0_read, Cond.instanceMethod yX0_read, Cond.selects RX0 yX0_read yX0_read, Cond.initialized RX0, Cond.code yX0_read cX0_read 2 none, Cond.fieldLink RX0 14 "TrustedUpdates$Document" "row" "LTrustedUpdates$Row;", Cond.fieldLink RX0 61 "TrustedUpdates$Document" "place" "I", Cond.fieldLink RX0 64 "TrustedUpdates$Document" "sound" "Z", Cond.fieldLink RX0 50 "TrustedUpdates$Document" "signedSize" "I", Cond.fieldLink RX0 37 "TrustedUpdates$Document" "bare" "Z", Cond.fieldLink RX0 33 "TrustedUpdates$Document" "whole" "Z", Cond.methodLink RX0 57 yX1_become, Cond.instanceMethod yX1_become, Cond.selects RX1 yX1_become yX1_become, Cond.initialized RX1, Cond.code yX1_become cX1_become 2 none]
def wsX4_sign_r2 : List Cond := [Cond.fieldLink RX1 15 "TrustedUpdates$Row" "size" "I", Cond.fieldLink RX1 9 "TrustedUpdates$Row" "bytes" "[I", Cond.methodLink RX1 23 arraycopyName, Cond.native arraycopyName, Cond.static arraycopyName, Cond.initialized "java/lang/System", Cond.methodLink RX0 67 yX0_readSigned, Cond.instanceMethod yX0_readSigned, Cond.selects RX0 yX0_readSigned yX0_readSigned, Cond.code yX0_readSigned cX0_readSigned 2 none, Cond.fieldLink RX0 40 "TrustedUpdates$Document" "role" "I", Cond.fieldLink RX0 44 "TrustedUpdates$Document" "version" "I", Cond.fieldLink RX0 47 "TrustedUpdates$Document" "end" "I", Cond.methodLink RX0 77 yX0_next, Cond.instanceMethod yX0_next, Cond.selects RX0 yX0_next yX0_next, Cond.code yX0_next cX0_next 4 (some .int), Cond.methodLink RX0 53 yX1_byteAt, Cond.instanceMethod yX1_byteAt, Cond.selects RX1 yX1_byteAt yX1_byteAt, Cond.code yX1_byteAt cX1_byteAt 2 (some .int), Cond.methodLink RX0 81 yX0_readRootKeySets, Cond.instanceMethod yX0_readRootKeySets, Cond.selects RX0 yX0_readRootKeySets yX0_readRootKeySets]
def wsX4_sign_r3 : List Cond := [Cond.code yX0_readRootKeySets cX0_readRootKeySets 2 none, Cond.fieldLink RX0 20 "TrustedUpdates$Document" "keySets" "[I", Cond.methodLink RX0 96 yX0_readKeySet, Cond.instanceMethod yX0_readKeySet, Cond.selects RX0 yX0_readKeySet yX0_readKeySet, Cond.code yX0_readKeySet cX0_readKeySet 5 none, Cond.methodLink RX0 84 yX0_skip, Cond.instanceMethod yX0_skip, Cond.selects RX0 yX0_skip yX0_skip, Cond.code yX0_skip cX0_skip 3 none, Cond.methodLink RX0 87 yX0_readEntries, Cond.instanceMethod yX0_readEntries, Cond.selects RX0 yX0_readEntries yX0_readEntries, Cond.code yX0_readEntries cX0_readEntries 7 none, Cond.fieldLink RX0 24 "TrustedUpdates$Document" "versions" "[I", Cond.methodLink RX0 90 yX0_readTargets, Cond.instanceMethod yX0_readTargets, Cond.selects RX0 yX0_readTargets yX0_readTargets, Cond.code yX0_readTargets cX0_readTargets 2 none, Cond.fieldLink RX0 99 "TrustedUpdates$Document" "targetCount" "I", Cond.fieldLink RX0 27 "TrustedUpdates$Document" "targets" "[I", Cond.methodLink RX0 102 yX0_readLetters, Cond.instanceMethod yX0_readLetters, Cond.selects RX0 yX0_readLetters yX0_readLetters]
def wsX4_sign_r4 : List Cond := [Cond.code yX0_readLetters cX0_readLetters 5 none, Cond.methodLink RX0 106 yX0_isNamedAsEarlier, Cond.instanceMethod yX0_isNamedAsEarlier, Cond.selects RX0 yX0_isNamedAsEarlier yX0_isNamedAsEarlier, Cond.code yX0_isNamedAsEarlier cX0_isNamedAsEarlier 3 (some .boolean), Cond.methodLink RX0 110 yX1_agrees, Cond.instanceMethod yX1_agrees, Cond.selects RX1 yX1_agrees yX1_agrees, Cond.code yX1_agrees cX1_agrees 7 (some .boolean), Cond.methodLink RX1 35 yX1_byteAt, Cond.methodLink RX0 93 yX0_readDelegations, Cond.instanceMethod yX0_readDelegations, Cond.selects RX0 yX0_readDelegations yX0_readDelegations, Cond.code yX0_readDelegations cX0_readDelegations 4 none, Cond.fieldLink RX0 114 "TrustedUpdates$Document" "delegationCount" "I", Cond.fieldLink RX0 30 "TrustedUpdates$Document" "delegations" "[I", Cond.methodLink RX0 70 yX1_size, Cond.instanceMethod yX1_size, Cond.selects RX1 yX1_size yX1_size, Cond.code yX1_size cX1_size 1 (some .int), Cond.methodLink RX0 74 yX0_readSignatures, Cond.instanceMethod yX0_readSignatures, Cond.selects RX0 yX0_readSignatures yX0_readSignatures, Cond.code yX0_readSignatures cX0_readSignatures 3 none]
def wsX4_sign_r5 : List Cond := [Cond.methodLink RX4 87 yX0_isBare, Cond.instanceMethod yX0_isBare, Cond.selects RX0 yX0_isBare yX0_isBare, Cond.code yX0_isBare cX0_isBare 1 (some .boolean), Cond.methodLink RX4 91 yX0_isWhole, Cond.instanceMethod yX0_isWhole, Cond.selects RX0 yX0_isWhole yX0_isWhole, Cond.code yX0_isWhole cX0_isWhole 1 (some .boolean), Cond.methodLink RX4 97 yX0_signatureCount, Cond.instanceMethod yX0_signatureCount, Cond.selects RX0 yX0_signatureCount yX0_signatureCount, Cond.code yX0_signatureCount cX0_signatureCount 1 (some .int), Cond.methodLink RX4 44 yX1_hasRoomFor, Cond.instanceMethod yX1_hasRoomFor, Cond.selects RX1 yX1_hasRoomFor yX1_hasRoomFor, Cond.code yX1_hasRoomFor cX1_hasRoomFor 2 (some .boolean), Cond.methodLink RX4 103 yX1_append, Cond.instanceMethod yX1_append, Cond.selects RX1 yX1_append yX1_append, Cond.code yX1_append cX1_append 2 none, Cond.methodLink RX4 106 yX0_signedSize, Cond.instanceMethod yX0_signedSize, Cond.selects RX0 yX0_signedSize yX0_signedSize, Cond.code yX0_signedSize cX0_signedSize 1 (some .int)]
def wsX4_sign_r6 : List Cond := [Cond.methodLink RX4 62 yX1_replace, Cond.instanceMethod yX1_replace, Cond.selects RX1 yX1_replace yX1_replace, Cond.code yX1_replace cX1_replace 3 none, Cond.methodLink RX4 109 yX0_signatureOf, Cond.instanceMethod yX0_signatureOf, Cond.selects RX0 yX0_signatureOf yX0_signatureOf, Cond.code yX0_signatureOf cX0_signatureOf 2 (some .int), Cond.methodLink RX0 117 yX1_mixOfFirst, Cond.instanceMethod yX1_mixOfFirst, Cond.selects RX1 yX1_mixOfFirst yX1_mixOfFirst, Cond.code yX1_mixOfFirst cX1_mixOfFirst 5 (some .int), Cond.constant RX1 29 (-1640531527), Cond.constant RX1 30 (16777619), Cond.methodLink RX4 80 yX1_appendWord, Cond.instanceMethod yX1_appendWord, Cond.selects RX1 yX1_appendWord yX1_appendWord, Cond.code yX1_appendWord cX1_appendWord 2 none, Cond.methodLink RX1 19 yX1_append]
def wsX4_sign : List Cond := .code yX4_sign cX4_sign 5 (some .int) :: ((wsX4_sign_r1 ++ (wsX4_sign_r2 ++ (wsX4_sign_r3 ++ (wsX4_sign_r4 ++ (wsX4_sign_r5 ++ wsX4_sign_r6))))) ++ wsX40 ++ wsX00 ++ wsX10 ++ (vx_at0 RX4 68 "java/lang/IndexOutOfBoundsException" ["java/lang/RuntimeException", "java/lang/Exception"]).filter goodWord ++ (vx_at0 RX4 96 "java/lang/IllegalArgumentException" ["java/lang/RuntimeException", "java/lang/Exception"]).filter goodWord ++ (vx_at0 RX4 102 "java/lang/UnsupportedOperationException" ["java/lang/RuntimeException", "java/lang/Exception"]).filter goodWord)
def wsX4_content : List Cond := .code yX4_content cX4_content 1 (some .int) :: ([.fieldLink RX4 18 "TrustedUpdates" "content" "LTrustedUpdates$Row;", .fieldLink RX4 14 "TrustedUpdates" "draft" "LTrustedUpdates$Row;", .methodLink RX4 112 yX1_become, .instanceMethod yX1_become, .selects RX1 yX1_become yX1_become, .initialized RX1, .code yX1_become cX1_become 2 none, .fieldLink RX1 15 "TrustedUpdates$Row" "size" "I", .fieldLink RX1 9 "TrustedUpdates$Row" "bytes" "[I", .methodLink RX1 23 arraycopyName, .native arraycopyName, .static arraycopyName, .initialized "java/lang/System", .methodLink RX4 52 yX1_size, .instanceMethod yX1_size, .selects RX1 yX1_size yX1_size, .code yX1_size cX1_size 1 (some .int)] ++ wsX40 ++ wsX10)
def wsX4_tick : List Cond := .code yX4_tick cX4_tick 2 (some .int) :: ([.classLink RX4 94 "java/lang/IllegalArgumentException", .initialized "java/lang/IllegalArgumentException", .fieldLink RX4 31 "TrustedUpdates" "trust" "LTrustedUpdates$Trust;", .methodLink RX4 115 yX3_advanceClock, .instanceMethod yX3_advanceClock, .selects RX3 yX3_advanceClock yX3_advanceClock, .initialized RX3, .code yX3_advanceClock cX3_advanceClock 2 (some .int), .fieldLink RX3 22 "TrustedUpdates$Trust" "clock" "I"] ++ wsX40 ++ wsX30 ++ (vx_at0 RX4 96 "java/lang/IllegalArgumentException" ["java/lang/RuntimeException", "java/lang/Exception"]).filter goodWord)
def wsX4_begin_r1 : List Cond := [Cond.classLink RX4 94 "java/lang/IllegalArgumentException", Cond.initialized "java/lang/IllegalArgumentException", Cond.fieldLink RX4 24 "TrustedUpdates" "offered" "LTrustedUpdates$Document;", Cond.fieldLink RX4 14 "TrustedUpdates" "draft" "LTrustedUpdates$Row;", Cond.fieldLink RX4 31 "TrustedUpdates" "trust" "LTrustedUpdates$Trust;", Cond.methodLink RX4 83 yX0_read, Cond.instanceMethod yX0_read, Cond.selects RX0 yX0_read yX0_read, Cond.initialized RX0, Cond.code yX0_read cX0_read 2 none, Cond.fieldLink RX0 14 "TrustedUpdates$Document" "row" "LTrustedUpdates$Row;", Cond.fieldLink RX0 61 "TrustedUpdates$Document" "place" "I", Cond.fieldLink RX0 64 "TrustedUpdates$Document" "sound" "Z", Cond.fieldLink RX0 50 "TrustedUpdates$Document" "signedSize" "I", Cond.fieldLink RX0 37 "TrustedUpdates$Document" "bare" "Z", Cond.fieldLink RX0 33 "TrustedUpdates$Document" "whole" "Z", Cond.methodLink RX0 57 yX1_become, Cond.instanceMethod yX1_become, Cond.selects RX1 yX1_become yX1_become, Cond.initialized RX1, Cond.code yX1_become cX1_become 2 none, Cond.fieldLink RX1 15 "TrustedUpdates$Row" "size" "I", Cond.fieldLink RX1 9 "TrustedUpdates$Row" "bytes" "[I", Cond.methodLink RX1 23 arraycopyName]
def wsX4_begin_r2 : List Cond := [Cond.native arraycopyName, Cond.static arraycopyName, Cond.initialized "java/lang/System", Cond.methodLink RX0 67 yX0_readSigned, Cond.instanceMethod yX0_readSigned, Cond.selects RX0 yX0_readSigned yX0_readSigned, Cond.code yX0_readSigned cX0_readSigned 2 none, Cond.fieldLink RX0 40 "TrustedUpdates$Document" "role" "I", Cond.fieldLink RX0 44 "TrustedUpdates$Document" "version" "I", Cond.fieldLink RX0 47 "TrustedUpdates$Document" "end" "I", Cond.methodLink RX0 77 yX0_next, Cond.instanceMethod yX0_next, Cond.selects RX0 yX0_next yX0_next, Cond.code yX0_next cX0_next 4 (some .int), Cond.methodLink RX0 53 yX1_byteAt, Cond.instanceMethod yX1_byteAt, Cond.selects RX1 yX1_byteAt yX1_byteAt, Cond.code yX1_byteAt cX1_byteAt 2 (some .int), Cond.methodLink RX0 81 yX0_readRootKeySets, Cond.instanceMethod yX0_readRootKeySets, Cond.selects RX0 yX0_readRootKeySets yX0_readRootKeySets, Cond.code yX0_readRootKeySets cX0_readRootKeySets 2 none, Cond.fieldLink RX0 20 "TrustedUpdates$Document" "keySets" "[I", Cond.methodLink RX0 96 yX0_readKeySet]
def wsX4_begin_r3 : List Cond := [Cond.instanceMethod yX0_readKeySet, Cond.selects RX0 yX0_readKeySet yX0_readKeySet, Cond.code yX0_readKeySet cX0_readKeySet 5 none, Cond.methodLink RX0 84 yX0_skip, Cond.instanceMethod yX0_skip, Cond.selects RX0 yX0_skip yX0_skip, Cond.code yX0_skip cX0_skip 3 none, Cond.methodLink RX0 87 yX0_readEntries, Cond.instanceMethod yX0_readEntries, Cond.selects RX0 yX0_readEntries yX0_readEntries, Cond.code yX0_readEntries cX0_readEntries 7 none, Cond.fieldLink RX0 24 "TrustedUpdates$Document" "versions" "[I", Cond.methodLink RX0 90 yX0_readTargets, Cond.instanceMethod yX0_readTargets, Cond.selects RX0 yX0_readTargets yX0_readTargets, Cond.code yX0_readTargets cX0_readTargets 2 none, Cond.fieldLink RX0 99 "TrustedUpdates$Document" "targetCount" "I", Cond.fieldLink RX0 27 "TrustedUpdates$Document" "targets" "[I", Cond.methodLink RX0 102 yX0_readLetters, Cond.instanceMethod yX0_readLetters, Cond.selects RX0 yX0_readLetters yX0_readLetters, Cond.code yX0_readLetters cX0_readLetters 5 none, Cond.methodLink RX0 106 yX0_isNamedAsEarlier, Cond.instanceMethod yX0_isNamedAsEarlier]
def wsX4_begin_r4 : List Cond := [Cond.selects RX0 yX0_isNamedAsEarlier yX0_isNamedAsEarlier, Cond.code yX0_isNamedAsEarlier cX0_isNamedAsEarlier 3 (some .boolean), Cond.methodLink RX0 110 yX1_agrees, Cond.instanceMethod yX1_agrees, Cond.selects RX1 yX1_agrees yX1_agrees, Cond.code yX1_agrees cX1_agrees 7 (some .boolean), Cond.methodLink RX1 35 yX1_byteAt, Cond.methodLink RX0 93 yX0_readDelegations, Cond.instanceMethod yX0_readDelegations, Cond.selects RX0 yX0_readDelegations yX0_readDelegations, Cond.code yX0_readDelegations cX0_readDelegations 4 none, Cond.fieldLink RX0 114 "TrustedUpdates$Document" "delegationCount" "I", Cond.fieldLink RX0 30 "TrustedUpdates$Document" "delegations" "[I", Cond.methodLink RX0 70 yX1_size, Cond.instanceMethod yX1_size, Cond.selects RX1 yX1_size yX1_size, Cond.code yX1_size cX1_size 1 (some .int), Cond.methodLink RX0 74 yX0_readSignatures, Cond.instanceMethod yX0_readSignatures, Cond.selects RX0 yX0_readSignatures yX0_readSignatures, Cond.code yX0_readSignatures cX0_readSignatures 3 none, Cond.methodLink RX4 91 yX0_isWhole, Cond.instanceMethod yX0_isWhole, Cond.selects RX0 yX0_isWhole yX0_isWhole]
def wsX4_begin_r5 : List Cond := [Cond.code yX0_isWhole cX0_isWhole 1 (some .boolean), Cond.methodLink RX4 118 yX0_role, Cond.instanceMethod yX0_role, Cond.selects RX0 yX0_role yX0_role, Cond.code yX0_role cX0_role 1 (some .int), Cond.methodLink RX4 121 yX3_startFrom, Cond.instanceMethod yX3_startFrom, Cond.selects RX3 yX3_startFrom yX3_startFrom, Cond.initialized RX3, Cond.code yX3_startFrom cX3_startFrom 3 none, Cond.methodLink RX3 30 yX3_documentOf, Cond.instanceMethod yX3_documentOf, Cond.selects RX3 yX3_documentOf yX3_documentOf, Cond.code yX3_documentOf cX3_documentOf 2 (some (.object "TrustedUpdates$Document")), Cond.fieldLink RX3 18 "TrustedUpdates$Trust" "documents" "[LTrustedUpdates$Document;", Cond.fieldLink RX3 12 "TrustedUpdates$Trust" "none" "LTrustedUpdates$Document;", Cond.methodLink RX3 56 yX0_clear, Cond.instanceMethod yX0_clear, Cond.selects RX0 yX0_clear yX0_clear, Cond.code yX0_clear cX0_clear 1 none, Cond.methodLink RX3 59 yX0_row, Cond.instanceMethod yX0_row, Cond.selects RX0 yX0_row yX0_row, Cond.code yX0_row cX0_row 1 (some (.object "TrustedUpdates$Row"))]
def wsX4_begin_r6 : List Cond := [Cond.methodLink RX3 63 yX0_read]
def wsX4_begin : List Cond := .code yX4_begin cX4_begin 1 none :: ((wsX4_begin_r1 ++ (wsX4_begin_r2 ++ (wsX4_begin_r3 ++ (wsX4_begin_r4 ++ (wsX4_begin_r5 ++ wsX4_begin_r6))))) ++ wsX40 ++ wsX00 ++ wsX10 ++ wsX30 ++ (vx_at0 RX4 96 "java/lang/IllegalArgumentException" ["java/lang/RuntimeException", "java/lang/Exception"]).filter goodWord)
def wsX4_offer_r1 : List Cond := [Cond.classLink RX4 94 "java/lang/IllegalArgumentException", Cond.initialized "java/lang/IllegalArgumentException", Cond.classLink RX4 66 "java/lang/IndexOutOfBoundsException", Cond.initialized "java/lang/IndexOutOfBoundsException", Cond.classLink RX4 132 "java/lang/IllegalStateException", Cond.initialized "java/lang/IllegalStateException", Cond.classLink RX4 100 "java/lang/UnsupportedOperationException", Cond.initialized "java/lang/UnsupportedOperationException", Cond.classLink RX4 141 "java/util/NoSuchElementException", Cond.initialized "java/util/NoSuchElementException", Cond.fieldLink RX4 24 "TrustedUpdates" "offered" "LTrustedUpdates$Document;", Cond.fieldLink RX4 14 "TrustedUpdates" "draft" "LTrustedUpdates$Row;", Cond.fieldLink RX4 31 "TrustedUpdates" "trust" "LTrustedUpdates$Trust;", Cond.methodLink RX4 83 yX0_read, Cond.instanceMethod yX0_read, Cond.selects RX0 yX0_read yX0_read, Cond.initialized RX0, Cond.code yX0_read cX0_read 2 none, Cond.fieldLink RX0 14 "TrustedUpdates$Document" "row" "LTrustedUpdates$Row;", Cond.fieldLink RX0 61 "TrustedUpdates$Document" "place" "I", Cond.fieldLink RX0 64 "TrustedUpdates$Document" "sound" "Z", Cond.fieldLink RX0 50 "TrustedUpdates$Document" "signedSize" "I", Cond.fieldLink RX0 37 "TrustedUpdates$Document" "bare" "Z", Cond.fieldLink RX0 33 "TrustedUpdates$Document" "whole" "Z"]
def wsX4_offer_r2 : List Cond := [Cond.methodLink RX0 57 yX1_become, Cond.instanceMethod yX1_become, Cond.selects RX1 yX1_become yX1_become, Cond.initialized RX1, Cond.code yX1_become cX1_become 2 none, Cond.fieldLink RX1 15 "TrustedUpdates$Row" "size" "I", Cond.fieldLink RX1 9 "TrustedUpdates$Row" "bytes" "[I", Cond.methodLink RX1 23 arraycopyName, Cond.native arraycopyName, Cond.static arraycopyName, Cond.initialized "java/lang/System", Cond.methodLink RX0 67 yX0_readSigned, Cond.instanceMethod yX0_readSigned, Cond.selects RX0 yX0_readSigned yX0_readSigned, Cond.code yX0_readSigned cX0_readSigned 2 none, Cond.fieldLink RX0 40 "TrustedUpdates$Document" "role" "I", Cond.fieldLink RX0 44 "TrustedUpdates$Document" "version" "I", Cond.fieldLink RX0 47 "TrustedUpdates$Document" "end" "I", Cond.methodLink RX0 77 yX0_next, Cond.instanceMethod yX0_next, Cond.selects RX0 yX0_next yX0_next, Cond.code yX0_next cX0_next 4 (some .int), Cond.methodLink RX0 53 yX1_byteAt, Cond.instanceMethod yX1_byteAt]
def wsX4_offer_r3 : List Cond := [Cond.selects RX1 yX1_byteAt yX1_byteAt, Cond.code yX1_byteAt cX1_byteAt 2 (some .int), Cond.methodLink RX0 81 yX0_readRootKeySets, Cond.instanceMethod yX0_readRootKeySets, Cond.selects RX0 yX0_readRootKeySets yX0_readRootKeySets, Cond.code yX0_readRootKeySets cX0_readRootKeySets 2 none, Cond.fieldLink RX0 20 "TrustedUpdates$Document" "keySets" "[I", Cond.methodLink RX0 96 yX0_readKeySet, Cond.instanceMethod yX0_readKeySet, Cond.selects RX0 yX0_readKeySet yX0_readKeySet, Cond.code yX0_readKeySet cX0_readKeySet 5 none, Cond.methodLink RX0 84 yX0_skip, Cond.instanceMethod yX0_skip, Cond.selects RX0 yX0_skip yX0_skip, Cond.code yX0_skip cX0_skip 3 none, Cond.methodLink RX0 87 yX0_readEntries, Cond.instanceMethod yX0_readEntries, Cond.selects RX0 yX0_readEntries yX0_readEntries, Cond.code yX0_readEntries cX0_readEntries 7 none, Cond.fieldLink RX0 24 "TrustedUpdates$Document" "versions" "[I", Cond.methodLink RX0 90 yX0_readTargets, Cond.instanceMethod yX0_readTargets, Cond.selects RX0 yX0_readTargets yX0_readTargets, Cond.code yX0_readTargets cX0_readTargets 2 none]
def wsX4_offer_r4 : List Cond := [Cond.fieldLink RX0 99 "TrustedUpdates$Document" "targetCount" "I", Cond.fieldLink RX0 27 "TrustedUpdates$Document" "targets" "[I", Cond.methodLink RX0 102 yX0_readLetters, Cond.instanceMethod yX0_readLetters, Cond.selects RX0 yX0_readLetters yX0_readLetters, Cond.code yX0_readLetters cX0_readLetters 5 none, Cond.methodLink RX0 106 yX0_isNamedAsEarlier, Cond.instanceMethod yX0_isNamedAsEarlier, Cond.selects RX0 yX0_isNamedAsEarlier yX0_isNamedAsEarlier, Cond.code yX0_isNamedAsEarlier cX0_isNamedAsEarlier 3 (some .boolean), Cond.methodLink RX0 110 yX1_agrees, Cond.instanceMethod yX1_agrees, Cond.selects RX1 yX1_agrees yX1_agrees, Cond.code yX1_agrees cX1_agrees 7 (some .boolean), Cond.methodLink RX1 35 yX1_byteAt, Cond.methodLink RX0 93 yX0_readDelegations, Cond.instanceMethod yX0_readDelegations, Cond.selects RX0 yX0_readDelegations yX0_readDelegations, Cond.code yX0_readDelegations cX0_readDelegations 4 none, Cond.fieldLink RX0 114 "TrustedUpdates$Document" "delegationCount" "I", Cond.fieldLink RX0 30 "TrustedUpdates$Document" "delegations" "[I", Cond.methodLink RX0 70 yX1_size, Cond.instanceMethod yX1_size, Cond.selects RX1 yX1_size yX1_size]
def wsX4_offer_r5 : List Cond := [Cond.code yX1_size cX1_size 1 (some .int), Cond.methodLink RX0 74 yX0_readSignatures, Cond.instanceMethod yX0_readSignatures, Cond.selects RX0 yX0_readSignatures yX0_readSignatures, Cond.code yX0_readSignatures cX0_readSignatures 3 none, Cond.methodLink RX4 91 yX0_isWhole, Cond.instanceMethod yX0_isWhole, Cond.selects RX0 yX0_isWhole yX0_isWhole, Cond.code yX0_isWhole cX0_isWhole 1 (some .boolean), Cond.methodLink RX4 118 yX0_role, Cond.instanceMethod yX0_role, Cond.selects RX0 yX0_role yX0_role, Cond.code yX0_role cX0_role 1 (some .int), Cond.methodLink RX4 125 yX3_hasGroundFor, Cond.instanceMethod yX3_hasGroundFor, Cond.selects RX3 yX3_hasGroundFor yX3_hasGroundFor, Cond.initialized RX3, Cond.code yX3_hasGroundFor cX3_hasGroundFor 2 (some .boolean), Cond.methodLink RX3 30 yX3_documentOf, Cond.instanceMethod yX3_documentOf, Cond.selects RX3 yX3_documentOf yX3_documentOf, Cond.code yX3_documentOf cX3_documentOf 2 (some (.object "TrustedUpdates$Document")), Cond.fieldLink RX3 18 "TrustedUpdates$Trust" "documents" "[LTrustedUpdates$Document;", Cond.fieldLink RX3 12 "TrustedUpdates$Trust" "none" "LTrustedUpdates$Document;"]
def wsX4_offer_r6 : List Cond := [Cond.methodLink RX3 34 yX0_isWhole, Cond.methodLink RX3 42 yX3_isInForce, Cond.instanceMethod yX3_isInForce, Cond.selects RX3 yX3_isInForce yX3_isInForce, Cond.code yX3_isInForce cX3_isInForce 3 (some .boolean), Cond.methodLink RX3 38 yX3_findsEnded, Cond.instanceMethod yX3_findsEnded, Cond.selects RX3 yX3_findsEnded yX3_findsEnded, Cond.code yX3_findsEnded cX3_findsEnded 2 (some .boolean), Cond.fieldLink RX3 22 "TrustedUpdates$Trust" "clock" "I", Cond.methodLink RX3 26 yX0_end, Cond.instanceMethod yX0_end, Cond.selects RX0 yX0_end yX0_end, Cond.code yX0_end cX0_end 1 (some .int), Cond.methodLink RX3 49 yX0_versionFor, Cond.instanceMethod yX0_versionFor, Cond.selects RX0 yX0_versionFor yX0_versionFor, Cond.code yX0_versionFor cX0_versionFor 2 (some .int), Cond.methodLink RX4 128 yX3_findsSigned, Cond.instanceMethod yX3_findsSigned, Cond.selects RX3 yX3_findsSigned yX3_findsSigned, Cond.code yX3_findsSigned cX3_findsSigned 3 (some .boolean), Cond.methodLink RX3 67 yX0_role, Cond.methodLink RX3 70 yX0_rootVouchesFor]
def wsX4_offer_r7 : List Cond := [Cond.instanceMethod yX0_rootVouchesFor, Cond.selects RX0 yX0_rootVouchesFor yX0_rootVouchesFor, Cond.code yX0_rootVouchesFor cX0_rootVouchesFor 3 (some .boolean), Cond.methodLink RX0 132 yX0_isSignedAsAsked, Cond.instanceMethod yX0_isSignedAsAsked, Cond.selects RX0 yX0_isSignedAsAsked yX0_isSignedAsAsked, Cond.code yX0_isSignedAsAsked cX0_isSignedAsAsked 7 (some .boolean), Cond.methodLink RX0 129 yX0_hasSignatureOf, Cond.instanceMethod yX0_hasSignatureOf, Cond.selects RX0 yX0_hasSignatureOf yX0_hasSignatureOf, Cond.code yX0_hasSignatureOf cX0_hasSignatureOf 6 (some .boolean), Cond.methodLink RX0 120 yX0_signatureOf, Cond.instanceMethod yX0_signatureOf, Cond.selects RX0 yX0_signatureOf yX0_signatureOf, Cond.code yX0_signatureOf cX0_signatureOf 2 (some .int), Cond.methodLink RX0 117 yX1_mixOfFirst, Cond.instanceMethod yX1_mixOfFirst, Cond.selects RX1 yX1_mixOfFirst yX1_mixOfFirst, Cond.code yX1_mixOfFirst cX1_mixOfFirst 5 (some .int), Cond.constant RX1 29 (-1640531527), Cond.constant RX1 30 (16777619), Cond.methodLink RX0 123 yX0_signatureCount, Cond.instanceMethod yX0_signatureCount, Cond.selects RX0 yX0_signatureCount yX0_signatureCount]
def wsX4_offer_r8 : List Cond := [Cond.code yX0_signatureCount cX0_signatureCount 1 (some .int), Cond.methodLink RX0 126 yX1_wordAt, Cond.instanceMethod yX1_wordAt, Cond.selects RX1 yX1_wordAt yX1_wordAt, Cond.code yX1_wordAt cX1_wordAt 2 (some .int), Cond.methodLink RX4 135 yX3_findsVersionsRight, Cond.instanceMethod yX3_findsVersionsRight, Cond.selects RX3 yX3_findsVersionsRight yX3_findsVersionsRight, Cond.code yX3_findsVersionsRight cX3_findsVersionsRight 2 (some .boolean), Cond.methodLink RX3 46 yX0_version, Cond.instanceMethod yX0_version, Cond.selects RX0 yX0_version yX0_version, Cond.code yX0_version cX0_version 1 (some .int), Cond.methodLink RX3 74 yX3_isNoOlderStamp, Cond.instanceMethod yX3_isNoOlderStamp, Cond.selects RX3 yX3_isNoOlderStamp yX3_isNoOlderStamp, Cond.code yX3_isNoOlderStamp cX3_isNoOlderStamp 3 (some .boolean), Cond.methodLink RX3 83 yX0_stampedVersion, Cond.instanceMethod yX0_stampedVersion, Cond.selects RX0 yX0_stampedVersion yX0_stampedVersion, Cond.code yX0_stampedVersion cX0_stampedVersion 1 (some .int), Cond.methodLink RX3 77 yX3_isAsStamped, Cond.instanceMethod yX3_isAsStamped, Cond.selects RX3 yX3_isAsStamped yX3_isAsStamped]
def wsX4_offer_r9 : List Cond := [Cond.code yX3_isAsStamped cX3_isAsStamped 3 (some .boolean), Cond.methodLink RX3 59 yX0_row, Cond.instanceMethod yX0_row, Cond.selects RX0 yX0_row yX0_row, Cond.code yX0_row cX0_row 1 (some (.object "TrustedUpdates$Row")), Cond.methodLink RX3 86 yX1_wholeDigest, Cond.instanceMethod yX1_wholeDigest, Cond.selects RX1 yX1_wholeDigest yX1_wholeDigest, Cond.code yX1_wholeDigest cX1_wholeDigest 1 (some .int), Cond.methodLink RX1 31 yX1_mixOfFirst, Cond.methodLink RX3 91 yX0_stampedDigest, Cond.instanceMethod yX0_stampedDigest, Cond.selects RX0 yX0_stampedDigest yX0_stampedDigest, Cond.code yX0_stampedDigest cX0_stampedDigest 1 (some .int), Cond.methodLink RX3 80 yX3_isNoOlderSnapshot, Cond.instanceMethod yX3_isNoOlderSnapshot, Cond.selects RX3 yX3_isNoOlderSnapshot yX3_isNoOlderSnapshot, Cond.code yX3_isNoOlderSnapshot cX3_isNoOlderSnapshot 4 (some .boolean), Cond.methodLink RX4 138 yX3_findsEnded, Cond.methodLink RX4 144 yX3_take, Cond.instanceMethod yX3_take, Cond.selects RX3 yX3_take yX3_take, Cond.code yX3_take cX3_take 2 none, Cond.methodLink RX3 94 yX3_changesOnlineKeys]
def wsX4_offer_r10 : List Cond := [Cond.instanceMethod yX3_changesOnlineKeys, Cond.selects RX3 yX3_changesOnlineKeys yX3_changesOnlineKeys, Cond.code yX3_changesOnlineKeys cX3_changesOnlineKeys 3 (some .boolean), Cond.methodLink RX3 97 yX0_hasKeySetOf, Cond.instanceMethod yX0_hasKeySetOf, Cond.selects RX0 yX0_hasKeySetOf yX0_hasKeySetOf, Cond.code yX0_hasKeySetOf cX0_hasKeySetOf 4 (some .boolean), Cond.methodLink RX3 56 yX0_clear, Cond.instanceMethod yX0_clear, Cond.selects RX0 yX0_clear yX0_clear, Cond.code yX0_clear cX0_clear 1 none, Cond.methodLink RX3 63 yX0_read]
def wsX4_offer : List Cond := .code yX4_offer cX4_offer 1 (some .int) :: ((wsX4_offer_r1 ++ (wsX4_offer_r2 ++ (wsX4_offer_r3 ++ (wsX4_offer_r4 ++ (wsX4_offer_r5 ++ (wsX4_offer_r6 ++ (wsX4_offer_r7 ++ (wsX4_offer_r8 ++ (wsX4_offer_r9 ++ wsX4_offer_r10))))))))) ++ wsX40 ++ wsX00 ++ wsX10 ++ wsX30 ++ (vx_at0 RX4 96 "java/lang/IllegalArgumentException" ["java/lang/RuntimeException", "java/lang/Exception"]).filter goodWord ++ (vx_at0 RX4 68 "java/lang/IndexOutOfBoundsException" ["java/lang/RuntimeException", "java/lang/Exception"]).filter goodWord ++ (vx_at0 RX4 134 "java/lang/IllegalStateException" ["java/lang/RuntimeException", "java/lang/Exception"]).filter goodWord ++ (vx_at0 RX4 102 "java/lang/UnsupportedOperationException" ["java/lang/RuntimeException", "java/lang/Exception"]).filter goodWord ++ (vx_at0 RX4 143 "java/util/NoSuchElementException" ["java/lang/RuntimeException", "java/lang/Exception"]).filter goodWord)
def wsX4_trusted_r1 : List Cond := [Cond.classLink RX4 66 "java/lang/IndexOutOfBoundsException", Cond.initialized "java/lang/IndexOutOfBoundsException", Cond.fieldLink RX4 31 "TrustedUpdates" "trust" "LTrustedUpdates$Trust;", Cond.methodLink RX4 147 yX3_documentOf, Cond.instanceMethod yX3_documentOf, Cond.selects RX3 yX3_documentOf yX3_documentOf, Cond.initialized RX3, Cond.code yX3_documentOf cX3_documentOf 2 (some (.object "TrustedUpdates$Document")), Cond.fieldLink RX3 18 "TrustedUpdates$Trust" "documents" "[LTrustedUpdates$Document;", Cond.fieldLink RX3 12 "TrustedUpdates$Trust" "none" "LTrustedUpdates$Document;", Cond.methodLink RX4 91 yX0_isWhole, Cond.instanceMethod yX0_isWhole, Cond.selects RX0 yX0_isWhole yX0_isWhole, Cond.initialized RX0, Cond.code yX0_isWhole cX0_isWhole 1 (some .boolean), Cond.fieldLink RX0 33 "TrustedUpdates$Document" "whole" "Z", Cond.methodLink RX4 151 yX0_end, Cond.instanceMethod yX0_end, Cond.selects RX0 yX0_end yX0_end, Cond.code yX0_end cX0_end 1 (some .int), Cond.fieldLink RX0 47 "TrustedUpdates$Document" "end" "I", Cond.methodLink RX4 154 yX0_version, Cond.instanceMethod yX0_version, Cond.selects RX0 yX0_version yX0_version]
def wsX4_trusted_r2 : List Cond := [Cond.code yX0_version cX0_version 1 (some .int), Cond.fieldLink RX0 44 "TrustedUpdates$Document" "version" "I"]
def wsX4_trusted : List Cond := .code yX4_trusted cX4_trusted 4 (some .int) :: ((wsX4_trusted_r1 ++ wsX4_trusted_r2) ++ wsX40 ++ wsX30 ++ wsX00 ++ (vx_at0 RX4 68 "java/lang/IndexOutOfBoundsException" ["java/lang/RuntimeException", "java/lang/Exception"]).filter goodWord)
def wsX4_isName : List Cond := .code yX4_isName cX4_isName 5 (some .boolean) :: ([])
def wsX4_refuseUnlessSearchable_r1 : List Cond := [Cond.classLink RX4 94 "java/lang/IllegalArgumentException", Cond.initialized "java/lang/IllegalArgumentException", Cond.classLink RX4 132 "java/lang/IllegalStateException", Cond.initialized "java/lang/IllegalStateException", Cond.fieldLink RX4 31 "TrustedUpdates" "trust" "LTrustedUpdates$Trust;", Cond.methodLink RX4 180 yX4_isName, Cond.static yX4_isName, Cond.initialized RX4, Cond.code yX4_isName cX4_isName 5 (some .boolean), Cond.methodLink RX4 184 yX3_allowsSeeking, Cond.instanceMethod yX3_allowsSeeking, Cond.selects RX3 yX3_allowsSeeking yX3_allowsSeeking, Cond.initialized RX3, Cond.code yX3_allowsSeeking cX3_allowsSeeking 1 (some .boolean), Cond.methodLink RX3 42 yX3_isInForce, Cond.instanceMethod yX3_isInForce, Cond.selects RX3 yX3_isInForce yX3_isInForce, Cond.code yX3_isInForce cX3_isInForce 3 (some .boolean), Cond.methodLink RX3 30 yX3_documentOf, Cond.instanceMethod yX3_documentOf, Cond.selects RX3 yX3_documentOf yX3_documentOf, Cond.code yX3_documentOf cX3_documentOf 2 (some (.object "TrustedUpdates$Document")), Cond.fieldLink RX3 18 "TrustedUpdates$Trust" "documents" "[LTrustedUpdates$Document;", Cond.fieldLink RX3 12 "TrustedUpdates$Trust" "none" "LTrustedUpdates$Document;"]
def wsX4_refuseUnlessSearchable_r2 : List Cond := [Cond.methodLink RX3 34 yX0_isWhole, Cond.instanceMethod yX0_isWhole, Cond.selects RX0 yX0_isWhole yX0_isWhole, Cond.initialized RX0, Cond.code yX0_isWhole cX0_isWhole 1 (some .boolean), Cond.fieldLink RX0 33 "TrustedUpdates$Document" "whole" "Z", Cond.methodLink RX3 38 yX3_findsEnded, Cond.instanceMethod yX3_findsEnded, Cond.selects RX3 yX3_findsEnded yX3_findsEnded, Cond.code yX3_findsEnded cX3_findsEnded 2 (some .boolean), Cond.fieldLink RX3 22 "TrustedUpdates$Trust" "clock" "I", Cond.methodLink RX3 26 yX0_end, Cond.instanceMethod yX0_end, Cond.selects RX0 yX0_end yX0_end, Cond.code yX0_end cX0_end 1 (some .int), Cond.fieldLink RX0 47 "TrustedUpdates$Document" "end" "I", Cond.methodLink RX3 53 yX3_isFresh, Cond.instanceMethod yX3_isFresh, Cond.selects RX3 yX3_isFresh yX3_isFresh, Cond.code yX3_isFresh cX3_isFresh 2 (some .boolean), Cond.methodLink RX3 46 yX0_version, Cond.instanceMethod yX0_version, Cond.selects RX0 yX0_version yX0_version, Cond.code yX0_version cX0_version 1 (some .int)]
def wsX4_refuseUnlessSearchable_r3 : List Cond := [Cond.fieldLink RX0 44 "TrustedUpdates$Document" "version" "I", Cond.methodLink RX3 49 yX0_versionFor, Cond.instanceMethod yX0_versionFor, Cond.selects RX0 yX0_versionFor yX0_versionFor, Cond.code yX0_versionFor cX0_versionFor 2 (some .int), Cond.fieldLink RX0 24 "TrustedUpdates$Document" "versions" "[I"]
def wsX4_refuseUnlessSearchable : List Cond := .code yX4_refuseUnlessSearchable cX4_refuseUnlessSearchable 4 none :: ((wsX4_refuseUnlessSearchable_r1 ++ (wsX4_refuseUnlessSearchable_r2 ++ wsX4_refuseUnlessSearchable_r3)) ++ wsX40 ++ wsX30 ++ wsX00 ++ (vx_at0 RX4 96 "java/lang/IllegalArgumentException" ["java/lang/RuntimeException", "java/lang/Exception"]).filter goodWord ++ (vx_at0 RX4 134 "java/lang/IllegalStateException" ["java/lang/RuntimeException", "java/lang/Exception"]).filter goodWord)
def wsX4_seek_r1 : List Cond := [Cond.fieldLink RX4 40 "TrustedUpdates" "search" "LTrustedUpdates$Search;", Cond.fieldLink RX4 166 "TrustedUpdates" "latestVisits" "I", Cond.methodLink RX4 157 yX4_refuseUnlessSearchable, Cond.instanceMethod yX4_refuseUnlessSearchable, Cond.selects RX4 yX4_refuseUnlessSearchable yX4_refuseUnlessSearchable, Cond.initialized RX4, Cond.code yX4_refuseUnlessSearchable cX4_refuseUnlessSearchable 4 none, Cond.classLink RX4 94 "java/lang/IllegalArgumentException", Cond.initialized "java/lang/IllegalArgumentException", Cond.classLink RX4 132 "java/lang/IllegalStateException", Cond.initialized "java/lang/IllegalStateException", Cond.fieldLink RX4 31 "TrustedUpdates" "trust" "LTrustedUpdates$Trust;", Cond.methodLink RX4 180 yX4_isName, Cond.static yX4_isName, Cond.code yX4_isName cX4_isName 5 (some .boolean), Cond.methodLink RX4 184 yX3_allowsSeeking, Cond.instanceMethod yX3_allowsSeeking, Cond.selects RX3 yX3_allowsSeeking yX3_allowsSeeking, Cond.initialized RX3, Cond.code yX3_allowsSeeking cX3_allowsSeeking 1 (some .boolean), Cond.methodLink RX3 42 yX3_isInForce, Cond.instanceMethod yX3_isInForce, Cond.selects RX3 yX3_isInForce yX3_isInForce, Cond.code yX3_isInForce cX3_isInForce 3 (some .boolean)]
def wsX4_seek_r2 : List Cond := [Cond.methodLink RX3 30 yX3_documentOf, Cond.instanceMethod yX3_documentOf, Cond.selects RX3 yX3_documentOf yX3_documentOf, Cond.code yX3_documentOf cX3_documentOf 2 (some (.object "TrustedUpdates$Document")), Cond.fieldLink RX3 18 "TrustedUpdates$Trust" "documents" "[LTrustedUpdates$Document;", Cond.fieldLink RX3 12 "TrustedUpdates$Trust" "none" "LTrustedUpdates$Document;", Cond.methodLink RX3 34 yX0_isWhole, Cond.instanceMethod yX0_isWhole, Cond.selects RX0 yX0_isWhole yX0_isWhole, Cond.initialized RX0, Cond.code yX0_isWhole cX0_isWhole 1 (some .boolean), Cond.fieldLink RX0 33 "TrustedUpdates$Document" "whole" "Z", Cond.methodLink RX3 38 yX3_findsEnded, Cond.instanceMethod yX3_findsEnded, Cond.selects RX3 yX3_findsEnded yX3_findsEnded, Cond.code yX3_findsEnded cX3_findsEnded 2 (some .boolean), Cond.fieldLink RX3 22 "TrustedUpdates$Trust" "clock" "I", Cond.methodLink RX3 26 yX0_end, Cond.instanceMethod yX0_end, Cond.selects RX0 yX0_end yX0_end, Cond.code yX0_end cX0_end 1 (some .int), Cond.fieldLink RX0 47 "TrustedUpdates$Document" "end" "I", Cond.methodLink RX3 53 yX3_isFresh, Cond.instanceMethod yX3_isFresh]
def wsX4_seek_r3 : List Cond := [Cond.selects RX3 yX3_isFresh yX3_isFresh, Cond.code yX3_isFresh cX3_isFresh 2 (some .boolean), Cond.methodLink RX3 46 yX0_version, Cond.instanceMethod yX0_version, Cond.selects RX0 yX0_version yX0_version, Cond.code yX0_version cX0_version 1 (some .int), Cond.fieldLink RX0 44 "TrustedUpdates$Document" "version" "I", Cond.methodLink RX3 49 yX0_versionFor, Cond.instanceMethod yX0_versionFor, Cond.selects RX0 yX0_versionFor yX0_versionFor, Cond.code yX0_versionFor cX0_versionFor 2 (some .int), Cond.fieldLink RX0 24 "TrustedUpdates$Document" "versions" "[I", Cond.methodLink RX4 160 yX2_run, Cond.instanceMethod yX2_run, Cond.selects RX2 yX2_run yX2_run, Cond.initialized RX2, Cond.code yX2_run cX2_run 4 none, Cond.fieldLink RX2 20 "TrustedUpdates$Search" "name" "LTrustedUpdates$Row;", Cond.fieldLink RX2 67 "TrustedUpdates$Search" "visitedRoles" "I", Cond.fieldLink RX2 24 "TrustedUpdates$Search" "visitCount" "I", Cond.fieldLink RX2 28 "TrustedUpdates$Search" "foundRole" "I", Cond.fieldLink RX2 70 "TrustedUpdates$Search" "over" "Z", Cond.methodLink RX2 60 yX1_keepFirst, Cond.instanceMethod yX1_keepFirst]
def wsX4_seek_r4 : List Cond := [Cond.selects RX1 yX1_keepFirst yX1_keepFirst, Cond.initialized RX1, Cond.code yX1_keepFirst cX1_keepFirst 2 none, Cond.fieldLink RX1 15 "TrustedUpdates$Row" "size" "I", Cond.methodLink RX2 63 yX1_appendLowest, Cond.instanceMethod yX1_appendLowest, Cond.selects RX1 yX1_appendLowest yX1_appendLowest, Cond.code yX1_appendLowest cX1_appendLowest 5 none, Cond.methodLink RX1 19 yX1_append, Cond.instanceMethod yX1_append, Cond.selects RX1 yX1_append yX1_append, Cond.code yX1_append cX1_append 2 none, Cond.fieldLink RX1 9 "TrustedUpdates$Row" "bytes" "[I", Cond.methodLink RX2 74 yX2_visit, Cond.instanceMethod yX2_visit, Cond.selects RX2 yX2_visit yX2_visit, Cond.code yX2_visit cX2_visit 5 none, Cond.fieldLink RX2 9 "TrustedUpdates$Search" "trust" "LTrustedUpdates$Trust;", Cond.fieldLink RX2 43 "TrustedUpdates$Search" "foundPlace" "I", Cond.methodLink RX2 31 yX3_documentOf, Cond.methodLink RX2 78 yX0_targetNamed, Cond.instanceMethod yX0_targetNamed, Cond.selects RX0 yX0_targetNamed yX0_targetNamed, Cond.code yX0_targetNamed cX0_targetNamed 4 (some .int)]
def wsX4_seek_r5 : List Cond := [Cond.fieldLink RX0 99 "TrustedUpdates$Document" "targetCount" "I", Cond.fieldLink RX0 27 "TrustedUpdates$Document" "targets" "[I", Cond.fieldLink RX0 14 "TrustedUpdates$Document" "row" "LTrustedUpdates$Row;", Cond.methodLink RX0 53 yX1_byteAt, Cond.instanceMethod yX1_byteAt, Cond.selects RX1 yX1_byteAt yX1_byteAt, Cond.code yX1_byteAt cX1_byteAt 2 (some .int), Cond.methodLink RX0 70 yX1_size, Cond.instanceMethod yX1_size, Cond.selects RX1 yX1_size yX1_size, Cond.code yX1_size cX1_size 1 (some .int), Cond.methodLink RX0 110 yX1_agrees, Cond.instanceMethod yX1_agrees, Cond.selects RX1 yX1_agrees yX1_agrees, Cond.code yX1_agrees cX1_agrees 7 (some .boolean), Cond.methodLink RX1 35 yX1_byteAt, Cond.methodLink RX2 82 yX0_delegationCount, Cond.instanceMethod yX0_delegationCount, Cond.selects RX0 yX0_delegationCount yX0_delegationCount, Cond.code yX0_delegationCount cX0_delegationCount 1 (some .int), Cond.fieldLink RX0 114 "TrustedUpdates$Document" "delegationCount" "I", Cond.methodLink RX2 85 yX2_mayFollow, Cond.instanceMethod yX2_mayFollow, Cond.selects RX2 yX2_mayFollow yX2_mayFollow]
def wsX4_seek_r6 : List Cond := [Cond.code yX2_mayFollow cX2_mayFollow 4 (some .boolean), Cond.methodLink RX2 89 yX0_delegateOf, Cond.instanceMethod yX0_delegateOf, Cond.selects RX0 yX0_delegateOf yX0_delegateOf, Cond.code yX0_delegateOf cX0_delegateOf 2 (some .int), Cond.methodLink RX0 136 yX0_delegationPlace, Cond.instanceMethod yX0_delegationPlace, Cond.selects RX0 yX0_delegationPlace yX0_delegationPlace, Cond.code yX0_delegationPlace cX0_delegationPlace 2 (some .int), Cond.fieldLink RX0 30 "TrustedUpdates$Document" "delegations" "[I", Cond.methodLink RX2 96 yX0_delegates, Cond.instanceMethod yX0_delegates, Cond.selects RX0 yX0_delegates yX0_delegates, Cond.code yX0_delegates cX0_delegates 5 (some .boolean), Cond.methodLink RX0 139 yX0_delegatedKeySet, Cond.instanceMethod yX0_delegatedKeySet, Cond.selects RX0 yX0_delegatedKeySet yX0_delegatedKeySet, Cond.code yX0_delegatedKeySet cX0_delegatedKeySet 2 (some .int), Cond.methodLink RX2 100 yX3_isFresh, Cond.methodLink RX2 37 yX0_row, Cond.instanceMethod yX0_row, Cond.selects RX0 yX0_row yX0_row, Cond.code yX0_row cX0_row 1 (some (.object "TrustedUpdates$Row")), Cond.methodLink RX2 103 yX0_delegatedKeySet]
def wsX4_seek_r7 : List Cond := [Cond.methodLink RX2 106 yX0_isSignedAsAsked, Cond.instanceMethod yX0_isSignedAsAsked, Cond.selects RX0 yX0_isSignedAsAsked yX0_isSignedAsAsked, Cond.code yX0_isSignedAsAsked cX0_isSignedAsAsked 7 (some .boolean), Cond.methodLink RX0 129 yX0_hasSignatureOf, Cond.instanceMethod yX0_hasSignatureOf, Cond.selects RX0 yX0_hasSignatureOf yX0_hasSignatureOf, Cond.code yX0_hasSignatureOf cX0_hasSignatureOf 6 (some .boolean), Cond.fieldLink RX0 50 "TrustedUpdates$Document" "signedSize" "I", Cond.methodLink RX0 120 yX0_signatureOf, Cond.instanceMethod yX0_signatureOf, Cond.selects RX0 yX0_signatureOf yX0_signatureOf, Cond.code yX0_signatureOf cX0_signatureOf 2 (some .int), Cond.methodLink RX0 117 yX1_mixOfFirst, Cond.instanceMethod yX1_mixOfFirst, Cond.selects RX1 yX1_mixOfFirst yX1_mixOfFirst, Cond.code yX1_mixOfFirst cX1_mixOfFirst 5 (some .int), Cond.constant RX1 29 (-1640531527), Cond.constant RX1 30 (16777619), Cond.methodLink RX0 123 yX0_signatureCount, Cond.instanceMethod yX0_signatureCount, Cond.selects RX0 yX0_signatureCount yX0_signatureCount, Cond.code yX0_signatureCount cX0_signatureCount 1 (some .int), Cond.methodLink RX0 126 yX1_wordAt]
def wsX4_seek_r8 : List Cond := [Cond.instanceMethod yX1_wordAt, Cond.selects RX1 yX1_wordAt yX1_wordAt, Cond.code yX1_wordAt cX1_wordAt 2 (some .int), Cond.methodLink RX2 92 yX0_isFinal, Cond.instanceMethod yX0_isFinal, Cond.selects RX0 yX0_isFinal yX0_isFinal, Cond.code yX0_isFinal cX0_isFinal 2 (some .boolean), Cond.methodLink RX4 163 yX2_visitCount, Cond.instanceMethod yX2_visitCount, Cond.selects RX2 yX2_visitCount yX2_visitCount, Cond.code yX2_visitCount cX2_visitCount 1 (some .int), Cond.methodLink RX4 170 yX2_foundRole, Cond.instanceMethod yX2_foundRole, Cond.selects RX2 yX2_foundRole yX2_foundRole, Cond.code yX2_foundRole cX2_foundRole 1 (some .int)]
def wsX4_seek : List Cond := .code yX4_seek cX4_seek 4 (some .int) :: ((wsX4_seek_r1 ++ (wsX4_seek_r2 ++ (wsX4_seek_r3 ++ (wsX4_seek_r4 ++ (wsX4_seek_r5 ++ (wsX4_seek_r6 ++ (wsX4_seek_r7 ++ wsX4_seek_r8))))))) ++ wsX40 ++ wsX30 ++ wsX00 ++ wsX20 ++ wsX10 ++ (vx_at0 RX4 96 "java/lang/IllegalArgumentException" ["java/lang/RuntimeException", "java/lang/Exception"]).filter goodWord ++ (vx_at0 RX4 134 "java/lang/IllegalStateException" ["java/lang/RuntimeException", "java/lang/Exception"]).filter goodWord)
def wsX4_visits : List Cond := .code yX4_visits cX4_visits 1 (some .int) :: ([.fieldLink RX4 166 "TrustedUpdates" "latestVisits" "I"] ++ wsX40)
def wsX4_install_r1 : List Cond := [Cond.classLink RX4 141 "java/util/NoSuchElementException", Cond.initialized "java/util/NoSuchElementException", Cond.classLink RX4 100 "java/lang/UnsupportedOperationException", Cond.initialized "java/lang/UnsupportedOperationException", Cond.fieldLink RX4 40 "TrustedUpdates" "search" "LTrustedUpdates$Search;", Cond.fieldLink RX4 18 "TrustedUpdates" "content" "LTrustedUpdates$Row;", Cond.fieldLink RX4 166 "TrustedUpdates" "latestVisits" "I", Cond.fieldLink RX4 177 "TrustedUpdates" "installs" "I", Cond.methodLink RX4 157 yX4_refuseUnlessSearchable, Cond.instanceMethod yX4_refuseUnlessSearchable, Cond.selects RX4 yX4_refuseUnlessSearchable yX4_refuseUnlessSearchable, Cond.initialized RX4, Cond.code yX4_refuseUnlessSearchable cX4_refuseUnlessSearchable 4 none, Cond.classLink RX4 94 "java/lang/IllegalArgumentException", Cond.initialized "java/lang/IllegalArgumentException", Cond.classLink RX4 132 "java/lang/IllegalStateException", Cond.initialized "java/lang/IllegalStateException", Cond.fieldLink RX4 31 "TrustedUpdates" "trust" "LTrustedUpdates$Trust;", Cond.methodLink RX4 180 yX4_isName, Cond.static yX4_isName, Cond.code yX4_isName cX4_isName 5 (some .boolean), Cond.methodLink RX4 184 yX3_allowsSeeking, Cond.instanceMethod yX3_allowsSeeking, Cond.selects RX3 yX3_allowsSeeking yX3_allowsSeeking]
def wsX4_install_r2 : List Cond := [Cond.initialized RX3, Cond.code yX3_allowsSeeking cX3_allowsSeeking 1 (some .boolean), Cond.methodLink RX3 42 yX3_isInForce, Cond.instanceMethod yX3_isInForce, Cond.selects RX3 yX3_isInForce yX3_isInForce, Cond.code yX3_isInForce cX3_isInForce 3 (some .boolean), Cond.methodLink RX3 30 yX3_documentOf, Cond.instanceMethod yX3_documentOf, Cond.selects RX3 yX3_documentOf yX3_documentOf, Cond.code yX3_documentOf cX3_documentOf 2 (some (.object "TrustedUpdates$Document")), Cond.fieldLink RX3 18 "TrustedUpdates$Trust" "documents" "[LTrustedUpdates$Document;", Cond.fieldLink RX3 12 "TrustedUpdates$Trust" "none" "LTrustedUpdates$Document;", Cond.methodLink RX3 34 yX0_isWhole, Cond.instanceMethod yX0_isWhole, Cond.selects RX0 yX0_isWhole yX0_isWhole, Cond.initialized RX0, Cond.code yX0_isWhole cX0_isWhole 1 (some .boolean), Cond.fieldLink RX0 33 "TrustedUpdates$Document" "whole" "Z", Cond.methodLink RX3 38 yX3_findsEnded, Cond.instanceMethod yX3_findsEnded, Cond.selects RX3 yX3_findsEnded yX3_findsEnded, Cond.code yX3_findsEnded cX3_findsEnded 2 (some .boolean), Cond.fieldLink RX3 22 "TrustedUpdates$Trust" "clock" "I", Cond.methodLink RX3 26 yX0_end]
def wsX4_install_r3 : List Cond := [Cond.instanceMethod yX0_end, Cond.selects RX0 yX0_end yX0_end, Cond.code yX0_end cX0_end 1 (some .int), Cond.fieldLink RX0 47 "TrustedUpdates$Document" "end" "I", Cond.methodLink RX3 53 yX3_isFresh, Cond.instanceMethod yX3_isFresh, Cond.selects RX3 yX3_isFresh yX3_isFresh, Cond.code yX3_isFresh cX3_isFresh 2 (some .boolean), Cond.methodLink RX3 46 yX0_version, Cond.instanceMethod yX0_version, Cond.selects RX0 yX0_version yX0_version, Cond.code yX0_version cX0_version 1 (some .int), Cond.fieldLink RX0 44 "TrustedUpdates$Document" "version" "I", Cond.methodLink RX3 49 yX0_versionFor, Cond.instanceMethod yX0_versionFor, Cond.selects RX0 yX0_versionFor yX0_versionFor, Cond.code yX0_versionFor cX0_versionFor 2 (some .int), Cond.fieldLink RX0 24 "TrustedUpdates$Document" "versions" "[I", Cond.methodLink RX4 160 yX2_run, Cond.instanceMethod yX2_run, Cond.selects RX2 yX2_run yX2_run, Cond.initialized RX2, Cond.code yX2_run cX2_run 4 none, Cond.fieldLink RX2 20 "TrustedUpdates$Search" "name" "LTrustedUpdates$Row;"]
def wsX4_install_r4 : List Cond := [Cond.fieldLink RX2 67 "TrustedUpdates$Search" "visitedRoles" "I", Cond.fieldLink RX2 24 "TrustedUpdates$Search" "visitCount" "I", Cond.fieldLink RX2 28 "TrustedUpdates$Search" "foundRole" "I", Cond.fieldLink RX2 70 "TrustedUpdates$Search" "over" "Z", Cond.methodLink RX2 60 yX1_keepFirst, Cond.instanceMethod yX1_keepFirst, Cond.selects RX1 yX1_keepFirst yX1_keepFirst, Cond.initialized RX1, Cond.code yX1_keepFirst cX1_keepFirst 2 none, Cond.fieldLink RX1 15 "TrustedUpdates$Row" "size" "I", Cond.methodLink RX2 63 yX1_appendLowest, Cond.instanceMethod yX1_appendLowest, Cond.selects RX1 yX1_appendLowest yX1_appendLowest, Cond.code yX1_appendLowest cX1_appendLowest 5 none, Cond.methodLink RX1 19 yX1_append, Cond.instanceMethod yX1_append, Cond.selects RX1 yX1_append yX1_append, Cond.code yX1_append cX1_append 2 none, Cond.fieldLink RX1 9 "TrustedUpdates$Row" "bytes" "[I", Cond.methodLink RX2 74 yX2_visit, Cond.instanceMethod yX2_visit, Cond.selects RX2 yX2_visit yX2_visit, Cond.code yX2_visit cX2_visit 5 none, Cond.fieldLink RX2 9 "TrustedUpdates$Search" "trust" "LTrustedUpdates$Trust;"]
def wsX4_install_r5 : List Cond := [Cond.fieldLink RX2 43 "TrustedUpdates$Search" "foundPlace" "I", Cond.methodLink RX2 31 yX3_documentOf, Cond.methodLink RX2 78 yX0_targetNamed, Cond.instanceMethod yX0_targetNamed, Cond.selects RX0 yX0_targetNamed yX0_targetNamed, Cond.code yX0_targetNamed cX0_targetNamed 4 (some .int), Cond.fieldLink RX0 99 "TrustedUpdates$Document" "targetCount" "I", Cond.fieldLink RX0 27 "TrustedUpdates$Document" "targets" "[I", Cond.fieldLink RX0 14 "TrustedUpdates$Document" "row" "LTrustedUpdates$Row;", Cond.methodLink RX0 53 yX1_byteAt, Cond.instanceMethod yX1_byteAt, Cond.selects RX1 yX1_byteAt yX1_byteAt, Cond.code yX1_byteAt cX1_byteAt 2 (some .int), Cond.methodLink RX0 70 yX1_size, Cond.instanceMethod yX1_size, Cond.selects RX1 yX1_size yX1_size, Cond.code yX1_size cX1_size 1 (some .int), Cond.methodLink RX0 110 yX1_agrees, Cond.instanceMethod yX1_agrees, Cond.selects RX1 yX1_agrees yX1_agrees, Cond.code yX1_agrees cX1_agrees 7 (some .boolean), Cond.methodLink RX1 35 yX1_byteAt, Cond.methodLink RX2 82 yX0_delegationCount, Cond.instanceMethod yX0_delegationCount]
def wsX4_install_r6 : List Cond := [Cond.selects RX0 yX0_delegationCount yX0_delegationCount, Cond.code yX0_delegationCount cX0_delegationCount 1 (some .int), Cond.fieldLink RX0 114 "TrustedUpdates$Document" "delegationCount" "I", Cond.methodLink RX2 85 yX2_mayFollow, Cond.instanceMethod yX2_mayFollow, Cond.selects RX2 yX2_mayFollow yX2_mayFollow, Cond.code yX2_mayFollow cX2_mayFollow 4 (some .boolean), Cond.methodLink RX2 89 yX0_delegateOf, Cond.instanceMethod yX0_delegateOf, Cond.selects RX0 yX0_delegateOf yX0_delegateOf, Cond.code yX0_delegateOf cX0_delegateOf 2 (some .int), Cond.methodLink RX0 136 yX0_delegationPlace, Cond.instanceMethod yX0_delegationPlace, Cond.selects RX0 yX0_delegationPlace yX0_delegationPlace, Cond.code yX0_delegationPlace cX0_delegationPlace 2 (some .int), Cond.fieldLink RX0 30 "TrustedUpdates$Document" "delegations" "[I", Cond.methodLink RX2 96 yX0_delegates, Cond.instanceMethod yX0_delegates, Cond.selects RX0 yX0_delegates yX0_delegates, Cond.code yX0_delegates cX0_delegates 5 (some .boolean), Cond.methodLink RX0 139 yX0_delegatedKeySet, Cond.instanceMethod yX0_delegatedKeySet, Cond.selects RX0 yX0_delegatedKeySet yX0_delegatedKeySet, Cond.code yX0_delegatedKeySet cX0_delegatedKeySet 2 (some .int)]
def wsX4_install_r7 : List Cond := [Cond.methodLink RX2 100 yX3_isFresh, Cond.methodLink RX2 37 yX0_row, Cond.instanceMethod yX0_row, Cond.selects RX0 yX0_row yX0_row, Cond.code yX0_row cX0_row 1 (some (.object "TrustedUpdates$Row")), Cond.methodLink RX2 103 yX0_delegatedKeySet, Cond.methodLink RX2 106 yX0_isSignedAsAsked, Cond.instanceMethod yX0_isSignedAsAsked, Cond.selects RX0 yX0_isSignedAsAsked yX0_isSignedAsAsked, Cond.code yX0_isSignedAsAsked cX0_isSignedAsAsked 7 (some .boolean), Cond.methodLink RX0 129 yX0_hasSignatureOf, Cond.instanceMethod yX0_hasSignatureOf, Cond.selects RX0 yX0_hasSignatureOf yX0_hasSignatureOf, Cond.code yX0_hasSignatureOf cX0_hasSignatureOf 6 (some .boolean), Cond.fieldLink RX0 50 "TrustedUpdates$Document" "signedSize" "I", Cond.methodLink RX0 120 yX0_signatureOf, Cond.instanceMethod yX0_signatureOf, Cond.selects RX0 yX0_signatureOf yX0_signatureOf, Cond.code yX0_signatureOf cX0_signatureOf 2 (some .int), Cond.methodLink RX0 117 yX1_mixOfFirst, Cond.instanceMethod yX1_mixOfFirst, Cond.selects RX1 yX1_mixOfFirst yX1_mixOfFirst, Cond.code yX1_mixOfFirst cX1_mixOfFirst 5 (some .int), Cond.constant RX1 29 (-1640531527)]
def wsX4_install_r8 : List Cond := [Cond.constant RX1 30 (16777619), Cond.methodLink RX0 123 yX0_signatureCount, Cond.instanceMethod yX0_signatureCount, Cond.selects RX0 yX0_signatureCount yX0_signatureCount, Cond.code yX0_signatureCount cX0_signatureCount 1 (some .int), Cond.methodLink RX0 126 yX1_wordAt, Cond.instanceMethod yX1_wordAt, Cond.selects RX1 yX1_wordAt yX1_wordAt, Cond.code yX1_wordAt cX1_wordAt 2 (some .int), Cond.methodLink RX2 92 yX0_isFinal, Cond.instanceMethod yX0_isFinal, Cond.selects RX0 yX0_isFinal yX0_isFinal, Cond.code yX0_isFinal cX0_isFinal 2 (some .boolean), Cond.methodLink RX4 170 yX2_foundRole, Cond.instanceMethod yX2_foundRole, Cond.selects RX2 yX2_foundRole yX2_foundRole, Cond.code yX2_foundRole cX2_foundRole 1 (some .int), Cond.methodLink RX4 173 yX2_foundTargetIs, Cond.instanceMethod yX2_foundTargetIs, Cond.selects RX2 yX2_foundTargetIs yX2_foundTargetIs, Cond.code yX2_foundTargetIs cX2_foundTargetIs 3 (some .boolean), Cond.methodLink RX2 46 yX1_byteAt, Cond.methodLink RX2 50 yX1_size, Cond.methodLink RX2 54 yX1_wordAt]
def wsX4_install_r9 : List Cond := [Cond.methodLink RX2 57 yX1_wholeDigest, Cond.instanceMethod yX1_wholeDigest, Cond.selects RX1 yX1_wholeDigest yX1_wholeDigest, Cond.code yX1_wholeDigest cX1_wholeDigest 1 (some .int), Cond.methodLink RX1 31 yX1_mixOfFirst, Cond.methodLink RX4 163 yX2_visitCount, Cond.instanceMethod yX2_visitCount, Cond.selects RX2 yX2_visitCount yX2_visitCount, Cond.code yX2_visitCount cX2_visitCount 1 (some .int)]
def wsX4_install : List Cond := .code yX4_install cX4_install 4 (some .int) :: ((wsX4_install_r1 ++ (wsX4_install_r2 ++ (wsX4_install_r3 ++ (wsX4_install_r4 ++ (wsX4_install_r5 ++ (wsX4_install_r6 ++ (wsX4_install_r7 ++ (wsX4_install_r8 ++ wsX4_install_r9)))))))) ++ wsX40 ++ wsX30 ++ wsX00 ++ wsX20 ++ wsX10 ++ (vx_at0 RX4 143 "java/util/NoSuchElementException" ["java/lang/RuntimeException", "java/lang/Exception"]).filter goodWord ++ (vx_at0 RX4 102 "java/lang/UnsupportedOperationException" ["java/lang/RuntimeException", "java/lang/Exception"]).filter goodWord ++ (vx_at0 RX4 96 "java/lang/IllegalArgumentException" ["java/lang/RuntimeException", "java/lang/Exception"]).filter goodWord ++ (vx_at0 RX4 134 "java/lang/IllegalStateException" ["java/lang/RuntimeException", "java/lang/Exception"]).filter goodWord)
def wsX4_installed : List Cond := .code yX4_installed cX4_installed 1 (some .int) :: ([.fieldLink RX4 177 "TrustedUpdates" "installs" "I"] ++ wsX40)
def wsX5_init : List Cond := .code yX5_init cX5_init 1 none :: ([.methodLink RX5 1 objectInit, .instanceMethod objectInit, .code objectInit ⟨#[0xb1]⟩ 1 none, .arrayClass .int, .fieldLink RX5 7 "TrustedUpdatesModel" "row" "[I", .fieldLink RX5 13 "TrustedUpdatesModel" "sizes" "[I", .arrayClass .boolean, .fieldLink RX5 16 "TrustedUpdatesModel" "has" "[Z", .fieldLink RX5 20 "TrustedUpdatesModel" "path" "[I", .fieldLink RX5 23 "TrustedUpdatesModel" "going" "[I"] ++ wsX50)
def wsX5_thrown : List Cond := .code yX5_thrown cX5_thrown 1 (some .int) :: ([.fieldLink RX5 26 "TrustedUpdatesModel" "thrown" "I"] ++ wsX50)
def wsX5_fail : List Cond := .code yX5_fail cX5_fail 2 (some .int) :: ([.fieldLink RX5 26 "TrustedUpdatesModel" "thrown" "I"] ++ wsX50)
def wsX5_add : List Cond := .code yX5_add cX5_add 2 none :: ([.fieldLink RX5 7 "TrustedUpdatesModel" "row" "[I", .fieldLink RX5 13 "TrustedUpdatesModel" "sizes" "[I"] ++ wsX50)
def wsX5_put : List Cond := .code yX5_put cX5_put 5 (some .boolean) :: ([.fieldLink RX5 26 "TrustedUpdatesModel" "thrown" "I", .fieldLink RX5 13 "TrustedUpdatesModel" "sizes" "[I", .constantLong RX5 30 (255), .methodLink RX5 32 yX5_add, .instanceMethod yX5_add, .selects RX5 yX5_add yX5_add, .initialized RX5, .code yX5_add cX5_add 2 none, .fieldLink RX5 7 "TrustedUpdatesModel" "row" "[I"] ++ wsX50)
def wsX5_cut : List Cond := .code yX5_cut cX5_cut 2 (some .boolean) :: ([.fieldLink RX5 26 "TrustedUpdatesModel" "thrown" "I", .fieldLink RX5 13 "TrustedUpdatesModel" "sizes" "[I"] ++ wsX50)
def wsX5_alter : List Cond := .code yX5_alter cX5_alter 3 (some .boolean) :: ([.fieldLink RX5 26 "TrustedUpdatesModel" "thrown" "I", .fieldLink RX5 13 "TrustedUpdatesModel" "sizes" "[I", .fieldLink RX5 7 "TrustedUpdatesModel" "row" "[I"] ++ wsX50)
def wsX5_length : List Cond := .code yX5_length cX5_length 1 (some .int) :: ([.fieldLink RX5 26 "TrustedUpdatesModel" "thrown" "I", .fieldLink RX5 13 "TrustedUpdatesModel" "sizes" "[I"] ++ wsX50)
def wsX5_at : List Cond := .code yX5_at cX5_at 2 (some .int) :: ([.fieldLink RX5 13 "TrustedUpdatesModel" "sizes" "[I", .fieldLink RX5 26 "TrustedUpdatesModel" "thrown" "I", .fieldLink RX5 7 "TrustedUpdatesModel" "row" "[I"] ++ wsX50)
def wsX5_mixOf : List Cond := .code yX5_mixOf cX5_mixOf 6 (some .int) :: ([.constant RX5 36 (-1640531527), .fieldLink RX5 7 "TrustedUpdatesModel" "row" "[I", .constant RX5 37 (16777619)] ++ wsX50)
def wsX5_mix : List Cond := .code yX5_mix cX5_mix 2 (some .int) :: ([.fieldLink RX5 26 "TrustedUpdatesModel" "thrown" "I", .fieldLink RX5 13 "TrustedUpdatesModel" "sizes" "[I", .methodLink RX5 38 yX5_mixOf, .instanceMethod yX5_mixOf, .selects RX5 yX5_mixOf yX5_mixOf, .initialized RX5, .code yX5_mixOf cX5_mixOf 6 (some .int), .constant RX5 36 (-1640531527), .fieldLink RX5 7 "TrustedUpdatesModel" "row" "[I", .constant RX5 37 (16777619)] ++ wsX50)
def wsX5_addFour : List Cond := .code yX5_addFour cX5_addFour 3 none :: ([.methodLink RX5 32 yX5_add, .instanceMethod yX5_add, .selects RX5 yX5_add yX5_add, .initialized RX5, .code yX5_add cX5_add 2 none, .fieldLink RX5 7 "TrustedUpdatesModel" "row" "[I", .fieldLink RX5 13 "TrustedUpdatesModel" "sizes" "[I"] ++ wsX50)
def wsX5_digest : List Cond := .code yX5_digest cX5_digest 1 (some .boolean) :: ([.fieldLink RX5 26 "TrustedUpdatesModel" "thrown" "I", .fieldLink RX5 13 "TrustedUpdatesModel" "sizes" "[I", .methodLink RX5 38 yX5_mixOf, .instanceMethod yX5_mixOf, .selects RX5 yX5_mixOf yX5_mixOf, .initialized RX5, .code yX5_mixOf cX5_mixOf 6 (some .int), .constant RX5 36 (-1640531527), .fieldLink RX5 7 "TrustedUpdatesModel" "row" "[I", .constant RX5 37 (16777619), .methodLink RX5 42 yX5_addFour, .instanceMethod yX5_addFour, .selects RX5 yX5_addFour yX5_addFour, .code yX5_addFour cX5_addFour 3 none, .methodLink RX5 32 yX5_add, .instanceMethod yX5_add, .selects RX5 yX5_add yX5_add, .code yX5_add cX5_add 2 none] ++ wsX50)
def wsX5_four : List Cond := .code yX5_four cX5_four 2 (some .int) :: ([.fieldLink RX5 7 "TrustedUpdatesModel" "row" "[I"] ++ wsX50)
def wsX5_next : List Cond := .code yX5_next cX5_next 2 (some .int) :: ([.fieldLink RX5 45 "TrustedUpdatesModel" "good" "Z", .fieldLink RX5 49 "TrustedUpdatesModel" "at" "I", .fieldLink RX5 52 "TrustedUpdatesModel" "end" "I", .fieldLink RX5 7 "TrustedUpdatesModel" "row" "[I"] ++ wsX50)
def wsX5_between : List Cond := .code yX5_between cX5_between 4 (some .int) :: ([.fieldLink RX5 45 "TrustedUpdatesModel" "good" "Z", .methodLink RX5 55 yX5_next, .instanceMethod yX5_next, .selects RX5 yX5_next yX5_next, .initialized RX5, .code yX5_next cX5_next 2 (some .int), .fieldLink RX5 49 "TrustedUpdatesModel" "at" "I", .fieldLink RX5 52 "TrustedUpdatesModel" "end" "I", .fieldLink RX5 7 "TrustedUpdatesModel" "row" "[I"] ++ wsX50)
def wsX5_skip : List Cond := .code yX5_skip cX5_skip 2 none :: ([.fieldLink RX5 45 "TrustedUpdatesModel" "good" "Z", .fieldLink RX5 49 "TrustedUpdatesModel" "at" "I", .fieldLink RX5 52 "TrustedUpdatesModel" "end" "I"] ++ wsX50)
def wsX5_passKeys : List Cond := .code yX5_passKeys cX5_passKeys 5 none :: ([.fieldLink RX5 49 "TrustedUpdatesModel" "at" "I", .fieldLink RX5 59 "TrustedUpdatesModel" "keySet" "I", .fieldLink RX5 45 "TrustedUpdatesModel" "good" "Z", .methodLink RX5 62 yX5_between, .instanceMethod yX5_between, .selects RX5 yX5_between yX5_between, .initialized RX5, .code yX5_between cX5_between 4 (some .int), .methodLink RX5 55 yX5_next, .instanceMethod yX5_next, .selects RX5 yX5_next yX5_next, .code yX5_next cX5_next 2 (some .int), .fieldLink RX5 52 "TrustedUpdatesModel" "end" "I", .fieldLink RX5 7 "TrustedUpdatesModel" "row" "[I"] ++ wsX50)
def wsX5_passLetters : List Cond := .code yX5_passLetters cX5_passLetters 5 none :: ([.fieldLink RX5 45 "TrustedUpdatesModel" "good" "Z", .methodLink RX5 62 yX5_between, .instanceMethod yX5_between, .selects RX5 yX5_between yX5_between, .initialized RX5, .code yX5_between cX5_between 4 (some .int), .methodLink RX5 55 yX5_next, .instanceMethod yX5_next, .selects RX5 yX5_next yX5_next, .code yX5_next cX5_next 2 (some .int), .fieldLink RX5 49 "TrustedUpdatesModel" "at" "I", .fieldLink RX5 52 "TrustedUpdatesModel" "end" "I", .fieldLink RX5 7 "TrustedUpdatesModel" "row" "[I"] ++ wsX50)
def wsX5_areSame : List Cond := .code yX5_areSame cX5_areSame 5 (some .boolean) :: ([.fieldLink RX5 7 "TrustedUpdatesModel" "row" "[I"] ++ wsX50)
def wsX5_passTargets_r1 : List Cond := [Cond.fieldLink RX5 49 "TrustedUpdatesModel" "at" "I", Cond.fieldLink RX5 45 "TrustedUpdatesModel" "good" "Z", Cond.fieldLink RX5 7 "TrustedUpdatesModel" "row" "[I", Cond.methodLink RX5 62 yX5_between, Cond.instanceMethod yX5_between, Cond.selects RX5 yX5_between yX5_between, Cond.initialized RX5, Cond.code yX5_between cX5_between 4 (some .int), Cond.methodLink RX5 55 yX5_next, Cond.instanceMethod yX5_next, Cond.selects RX5 yX5_next yX5_next, Cond.code yX5_next cX5_next 2 (some .int), Cond.fieldLink RX5 52 "TrustedUpdatesModel" "end" "I", Cond.methodLink RX5 66 yX5_passLetters, Cond.instanceMethod yX5_passLetters, Cond.selects RX5 yX5_passLetters yX5_passLetters, Cond.code yX5_passLetters cX5_passLetters 5 none, Cond.methodLink RX5 70 yX5_areSame, Cond.instanceMethod yX5_areSame, Cond.selects RX5 yX5_areSame yX5_areSame, Cond.code yX5_areSame cX5_areSame 5 (some .boolean), Cond.methodLink RX5 74 yX5_skip, Cond.instanceMethod yX5_skip, Cond.selects RX5 yX5_skip yX5_skip]
def wsX5_passTargets_r2 : List Cond := [Cond.code yX5_skip cX5_skip 2 none, Cond.methodLink RX5 77 yX5_passKeys, Cond.instanceMethod yX5_passKeys, Cond.selects RX5 yX5_passKeys yX5_passKeys, Cond.code yX5_passKeys cX5_passKeys 5 none, Cond.fieldLink RX5 59 "TrustedUpdatesModel" "keySet" "I"]
def wsX5_passTargets : List Cond := .code yX5_passTargets cX5_passTargets 6 none :: ((wsX5_passTargets_r1 ++ wsX5_passTargets_r2) ++ wsX50)
def wsX5_passBody_r1 : List Cond := [Cond.fieldLink RX5 45 "TrustedUpdatesModel" "good" "Z", Cond.methodLink RX5 77 yX5_passKeys, Cond.instanceMethod yX5_passKeys, Cond.selects RX5 yX5_passKeys yX5_passKeys, Cond.initialized RX5, Cond.code yX5_passKeys cX5_passKeys 5 none, Cond.fieldLink RX5 49 "TrustedUpdatesModel" "at" "I", Cond.fieldLink RX5 59 "TrustedUpdatesModel" "keySet" "I", Cond.methodLink RX5 62 yX5_between, Cond.instanceMethod yX5_between, Cond.selects RX5 yX5_between yX5_between, Cond.code yX5_between cX5_between 4 (some .int), Cond.methodLink RX5 55 yX5_next, Cond.instanceMethod yX5_next, Cond.selects RX5 yX5_next yX5_next, Cond.code yX5_next cX5_next 2 (some .int), Cond.fieldLink RX5 52 "TrustedUpdatesModel" "end" "I", Cond.fieldLink RX5 7 "TrustedUpdatesModel" "row" "[I", Cond.methodLink RX5 74 yX5_skip, Cond.instanceMethod yX5_skip, Cond.selects RX5 yX5_skip yX5_skip, Cond.code yX5_skip cX5_skip 2 none, Cond.methodLink RX5 80 yX5_passTargets, Cond.instanceMethod yX5_passTargets]
def wsX5_passBody_r2 : List Cond := [Cond.selects RX5 yX5_passTargets yX5_passTargets, Cond.code yX5_passTargets cX5_passTargets 6 none, Cond.methodLink RX5 66 yX5_passLetters, Cond.instanceMethod yX5_passLetters, Cond.selects RX5 yX5_passLetters yX5_passLetters, Cond.code yX5_passLetters cX5_passLetters 5 none, Cond.methodLink RX5 70 yX5_areSame, Cond.instanceMethod yX5_areSame, Cond.selects RX5 yX5_areSame yX5_areSame, Cond.code yX5_areSame cX5_areSame 5 (some .boolean)]
def wsX5_passBody : List Cond := .code yX5_passBody cX5_passBody 5 none :: ((wsX5_passBody_r1 ++ wsX5_passBody_r2) ++ wsX50)
def wsX5_passSigned_r1 : List Cond := [Cond.fieldLink RX5 49 "TrustedUpdatesModel" "at" "I", Cond.fieldLink RX5 13 "TrustedUpdatesModel" "sizes" "[I", Cond.fieldLink RX5 52 "TrustedUpdatesModel" "end" "I", Cond.fieldLink RX5 45 "TrustedUpdatesModel" "good" "Z", Cond.fieldLink RX5 86 "TrustedUpdatesModel" "signed" "I", Cond.methodLink RX5 62 yX5_between, Cond.instanceMethod yX5_between, Cond.selects RX5 yX5_between yX5_between, Cond.initialized RX5, Cond.code yX5_between cX5_between 4 (some .int), Cond.methodLink RX5 55 yX5_next, Cond.instanceMethod yX5_next, Cond.selects RX5 yX5_next yX5_next, Cond.code yX5_next cX5_next 2 (some .int), Cond.fieldLink RX5 7 "TrustedUpdatesModel" "row" "[I", Cond.methodLink RX5 74 yX5_skip, Cond.instanceMethod yX5_skip, Cond.selects RX5 yX5_skip yX5_skip, Cond.code yX5_skip cX5_skip 2 none, Cond.methodLink RX5 83 yX5_passBody, Cond.instanceMethod yX5_passBody, Cond.selects RX5 yX5_passBody yX5_passBody, Cond.code yX5_passBody cX5_passBody 5 none, Cond.methodLink RX5 77 yX5_passKeys]
def wsX5_passSigned_r2 : List Cond := [Cond.instanceMethod yX5_passKeys, Cond.selects RX5 yX5_passKeys yX5_passKeys, Cond.code yX5_passKeys cX5_passKeys 5 none, Cond.fieldLink RX5 59 "TrustedUpdatesModel" "keySet" "I", Cond.methodLink RX5 80 yX5_passTargets, Cond.instanceMethod yX5_passTargets, Cond.selects RX5 yX5_passTargets yX5_passTargets, Cond.code yX5_passTargets cX5_passTargets 6 none, Cond.methodLink RX5 66 yX5_passLetters, Cond.instanceMethod yX5_passLetters, Cond.selects RX5 yX5_passLetters yX5_passLetters, Cond.code yX5_passLetters cX5_passLetters 5 none, Cond.methodLink RX5 70 yX5_areSame, Cond.instanceMethod yX5_areSame, Cond.selects RX5 yX5_areSame yX5_areSame, Cond.code yX5_areSame cX5_areSame 5 (some .boolean)]
def wsX5_passSigned : List Cond := .code yX5_passSigned cX5_passSigned 3 (some .boolean) :: ((wsX5_passSigned_r1 ++ wsX5_passSigned_r2) ++ wsX50)
def wsX5_isDocument_r1 : List Cond := [Cond.fieldLink RX5 45 "TrustedUpdatesModel" "good" "Z", Cond.fieldLink RX5 49 "TrustedUpdatesModel" "at" "I", Cond.fieldLink RX5 52 "TrustedUpdatesModel" "end" "I", Cond.methodLink RX5 89 yX5_passSigned, Cond.instanceMethod yX5_passSigned, Cond.selects RX5 yX5_passSigned yX5_passSigned, Cond.initialized RX5, Cond.code yX5_passSigned cX5_passSigned 3 (some .boolean), Cond.fieldLink RX5 13 "TrustedUpdatesModel" "sizes" "[I", Cond.fieldLink RX5 86 "TrustedUpdatesModel" "signed" "I", Cond.methodLink RX5 62 yX5_between, Cond.instanceMethod yX5_between, Cond.selects RX5 yX5_between yX5_between, Cond.code yX5_between cX5_between 4 (some .int), Cond.methodLink RX5 55 yX5_next, Cond.instanceMethod yX5_next, Cond.selects RX5 yX5_next yX5_next, Cond.code yX5_next cX5_next 2 (some .int), Cond.fieldLink RX5 7 "TrustedUpdatesModel" "row" "[I", Cond.methodLink RX5 74 yX5_skip, Cond.instanceMethod yX5_skip, Cond.selects RX5 yX5_skip yX5_skip, Cond.code yX5_skip cX5_skip 2 none, Cond.methodLink RX5 83 yX5_passBody]
def wsX5_isDocument_r2 : List Cond := [Cond.instanceMethod yX5_passBody, Cond.selects RX5 yX5_passBody yX5_passBody, Cond.code yX5_passBody cX5_passBody 5 none, Cond.methodLink RX5 77 yX5_passKeys, Cond.instanceMethod yX5_passKeys, Cond.selects RX5 yX5_passKeys yX5_passKeys, Cond.code yX5_passKeys cX5_passKeys 5 none, Cond.fieldLink RX5 59 "TrustedUpdatesModel" "keySet" "I", Cond.methodLink RX5 80 yX5_passTargets, Cond.instanceMethod yX5_passTargets, Cond.selects RX5 yX5_passTargets yX5_passTargets, Cond.code yX5_passTargets cX5_passTargets 6 none, Cond.methodLink RX5 66 yX5_passLetters, Cond.instanceMethod yX5_passLetters, Cond.selects RX5 yX5_passLetters yX5_passLetters, Cond.code yX5_passLetters cX5_passLetters 5 none, Cond.methodLink RX5 70 yX5_areSame, Cond.instanceMethod yX5_areSame, Cond.selects RX5 yX5_areSame yX5_areSame, Cond.code yX5_areSame cX5_areSame 5 (some .boolean)]
def wsX5_isDocument : List Cond := .code yX5_isDocument cX5_isDocument 4 (some .boolean) :: ((wsX5_isDocument_r1 ++ wsX5_isDocument_r2) ++ wsX50)
def wsX5_hasSignature : List Cond := .code yX5_hasSignature cX5_hasSignature 8 (some .boolean) :: ([.fieldLink RX5 86 "TrustedUpdatesModel" "signed" "I", .fieldLink RX5 7 "TrustedUpdatesModel" "row" "[I", .methodLink RX5 38 yX5_mixOf, .instanceMethod yX5_mixOf, .selects RX5 yX5_mixOf yX5_mixOf, .initialized RX5, .code yX5_mixOf cX5_mixOf 6 (some .int), .constant RX5 36 (-1640531527), .constant RX5 37 (16777619), .methodLink RX5 93 yX5_four, .instanceMethod yX5_four, .selects RX5 yX5_four yX5_four, .code yX5_four cX5_four 2 (some .int)] ++ wsX50)
def wsX5_isSigned_r1 : List Cond := [Cond.fieldLink RX5 7 "TrustedUpdatesModel" "row" "[I", Cond.methodLink RX5 97 yX5_isDocument, Cond.instanceMethod yX5_isDocument, Cond.selects RX5 yX5_isDocument yX5_isDocument, Cond.initialized RX5, Cond.code yX5_isDocument cX5_isDocument 4 (some .boolean), Cond.fieldLink RX5 45 "TrustedUpdatesModel" "good" "Z", Cond.fieldLink RX5 49 "TrustedUpdatesModel" "at" "I", Cond.fieldLink RX5 52 "TrustedUpdatesModel" "end" "I", Cond.methodLink RX5 89 yX5_passSigned, Cond.instanceMethod yX5_passSigned, Cond.selects RX5 yX5_passSigned yX5_passSigned, Cond.code yX5_passSigned cX5_passSigned 3 (some .boolean), Cond.fieldLink RX5 13 "TrustedUpdatesModel" "sizes" "[I", Cond.fieldLink RX5 86 "TrustedUpdatesModel" "signed" "I", Cond.methodLink RX5 62 yX5_between, Cond.instanceMethod yX5_between, Cond.selects RX5 yX5_between yX5_between, Cond.code yX5_between cX5_between 4 (some .int), Cond.methodLink RX5 55 yX5_next, Cond.instanceMethod yX5_next, Cond.selects RX5 yX5_next yX5_next, Cond.code yX5_next cX5_next 2 (some .int), Cond.methodLink RX5 74 yX5_skip]
def wsX5_isSigned_r2 : List Cond := [Cond.instanceMethod yX5_skip, Cond.selects RX5 yX5_skip yX5_skip, Cond.code yX5_skip cX5_skip 2 none, Cond.methodLink RX5 83 yX5_passBody, Cond.instanceMethod yX5_passBody, Cond.selects RX5 yX5_passBody yX5_passBody, Cond.code yX5_passBody cX5_passBody 5 none, Cond.methodLink RX5 77 yX5_passKeys, Cond.instanceMethod yX5_passKeys, Cond.selects RX5 yX5_passKeys yX5_passKeys, Cond.code yX5_passKeys cX5_passKeys 5 none, Cond.fieldLink RX5 59 "TrustedUpdatesModel" "keySet" "I", Cond.methodLink RX5 80 yX5_passTargets, Cond.instanceMethod yX5_passTargets, Cond.selects RX5 yX5_passTargets yX5_passTargets, Cond.code yX5_passTargets cX5_passTargets 6 none, Cond.methodLink RX5 66 yX5_passLetters, Cond.instanceMethod yX5_passLetters, Cond.selects RX5 yX5_passLetters yX5_passLetters, Cond.code yX5_passLetters cX5_passLetters 5 none, Cond.methodLink RX5 70 yX5_areSame, Cond.instanceMethod yX5_areSame, Cond.selects RX5 yX5_areSame yX5_areSame, Cond.code yX5_areSame cX5_areSame 5 (some .boolean)]
def wsX5_isSigned_r3 : List Cond := [Cond.methodLink RX5 100 yX5_hasSignature, Cond.instanceMethod yX5_hasSignature, Cond.selects RX5 yX5_hasSignature yX5_hasSignature, Cond.code yX5_hasSignature cX5_hasSignature 8 (some .boolean), Cond.methodLink RX5 38 yX5_mixOf, Cond.instanceMethod yX5_mixOf, Cond.selects RX5 yX5_mixOf yX5_mixOf, Cond.code yX5_mixOf cX5_mixOf 6 (some .int), Cond.constant RX5 36 (-1640531527), Cond.constant RX5 37 (16777619), Cond.methodLink RX5 93 yX5_four, Cond.instanceMethod yX5_four, Cond.selects RX5 yX5_four yX5_four, Cond.code yX5_four cX5_four 2 (some .int)]
def wsX5_isSigned : List Cond := .code yX5_isSigned cX5_isSigned 6 (some .boolean) :: ((wsX5_isSigned_r1 ++ (wsX5_isSigned_r2 ++ wsX5_isSigned_r3)) ++ wsX50)
def wsX5_keysOf : List Cond := .code yX5_keysOf cX5_keysOf 5 (some .int) :: ([.fieldLink RX5 7 "TrustedUpdatesModel" "row" "[I"] ++ wsX50)
def wsX5_versionOf : List Cond := .code yX5_versionOf cX5_versionOf 2 (some .int) :: ([.fieldLink RX5 7 "TrustedUpdatesModel" "row" "[I"] ++ wsX50)
def wsX5_endOf : List Cond := .code yX5_endOf cX5_endOf 2 (some .int) :: ([.fieldLink RX5 7 "TrustedUpdatesModel" "row" "[I"] ++ wsX50)
def wsX5_isOver : List Cond := .code yX5_isOver cX5_isOver 2 (some .boolean) :: ([.fieldLink RX5 106 "TrustedUpdatesModel" "clock" "I", .methodLink RX5 103 yX5_endOf, .instanceMethod yX5_endOf, .selects RX5 yX5_endOf yX5_endOf, .initialized RX5, .code yX5_endOf cX5_endOf 2 (some .int), .fieldLink RX5 7 "TrustedUpdatesModel" "row" "[I"] ++ wsX50)
def wsX5_stands : List Cond := .code yX5_stands cX5_stands 2 (some .boolean) :: ([.fieldLink RX5 16 "TrustedUpdatesModel" "has" "[Z", .methodLink RX5 109 yX5_isOver, .instanceMethod yX5_isOver, .selects RX5 yX5_isOver yX5_isOver, .initialized RX5, .code yX5_isOver cX5_isOver 2 (some .boolean), .fieldLink RX5 106 "TrustedUpdatesModel" "clock" "I", .methodLink RX5 103 yX5_endOf, .instanceMethod yX5_endOf, .selects RX5 yX5_endOf yX5_endOf, .code yX5_endOf cX5_endOf 2 (some .int), .fieldLink RX5 7 "TrustedUpdatesModel" "row" "[I"] ++ wsX50)
def wsX5_said : List Cond := .code yX5_said cX5_said 6 (some .int) :: ([.fieldLink RX5 7 "TrustedUpdatesModel" "row" "[I"] ++ wsX50)
def wsX5_sign_r1 : List Cond := [Cond.fieldLink RX5 26 "TrustedUpdatesModel" "thrown" "I", Cond.fieldLink RX5 49 "TrustedUpdatesModel" "at" "I", Cond.fieldLink RX5 52 "TrustedUpdatesModel" "end" "I", Cond.fieldLink RX5 7 "TrustedUpdatesModel" "row" "[I", Cond.fieldLink RX5 86 "TrustedUpdatesModel" "signed" "I", Cond.fieldLink RX5 13 "TrustedUpdatesModel" "sizes" "[I", Cond.methodLink RX5 97 yX5_isDocument, Cond.instanceMethod yX5_isDocument, Cond.selects RX5 yX5_isDocument yX5_isDocument, Cond.initialized RX5, Cond.code yX5_isDocument cX5_isDocument 4 (some .boolean), Cond.fieldLink RX5 45 "TrustedUpdatesModel" "good" "Z", Cond.methodLink RX5 89 yX5_passSigned, Cond.instanceMethod yX5_passSigned, Cond.selects RX5 yX5_passSigned yX5_passSigned, Cond.code yX5_passSigned cX5_passSigned 3 (some .boolean), Cond.methodLink RX5 62 yX5_between, Cond.instanceMethod yX5_between, Cond.selects RX5 yX5_between yX5_between, Cond.code yX5_between cX5_between 4 (some .int), Cond.methodLink RX5 55 yX5_next, Cond.instanceMethod yX5_next, Cond.selects RX5 yX5_next yX5_next, Cond.code yX5_next cX5_next 2 (some .int)]
def wsX5_sign_r2 : List Cond := [Cond.methodLink RX5 74 yX5_skip, Cond.instanceMethod yX5_skip, Cond.selects RX5 yX5_skip yX5_skip, Cond.code yX5_skip cX5_skip 2 none, Cond.methodLink RX5 83 yX5_passBody, Cond.instanceMethod yX5_passBody, Cond.selects RX5 yX5_passBody yX5_passBody, Cond.code yX5_passBody cX5_passBody 5 none, Cond.methodLink RX5 77 yX5_passKeys, Cond.instanceMethod yX5_passKeys, Cond.selects RX5 yX5_passKeys yX5_passKeys, Cond.code yX5_passKeys cX5_passKeys 5 none, Cond.fieldLink RX5 59 "TrustedUpdatesModel" "keySet" "I", Cond.methodLink RX5 80 yX5_passTargets, Cond.instanceMethod yX5_passTargets, Cond.selects RX5 yX5_passTargets yX5_passTargets, Cond.code yX5_passTargets cX5_passTargets 6 none, Cond.methodLink RX5 66 yX5_passLetters, Cond.instanceMethod yX5_passLetters, Cond.selects RX5 yX5_passLetters yX5_passLetters, Cond.code yX5_passLetters cX5_passLetters 5 none, Cond.methodLink RX5 70 yX5_areSame, Cond.instanceMethod yX5_areSame, Cond.selects RX5 yX5_areSame yX5_areSame]
def wsX5_sign_r3 : List Cond := [Cond.code yX5_areSame cX5_areSame 5 (some .boolean), Cond.methodLink RX5 112 yX5_fail, Cond.instanceMethod yX5_fail, Cond.selects RX5 yX5_fail yX5_fail, Cond.code yX5_fail cX5_fail 2 (some .int), Cond.methodLink RX5 38 yX5_mixOf, Cond.instanceMethod yX5_mixOf, Cond.selects RX5 yX5_mixOf yX5_mixOf, Cond.code yX5_mixOf cX5_mixOf 6 (some .int), Cond.constant RX5 36 (-1640531527), Cond.constant RX5 37 (16777619), Cond.methodLink RX5 32 yX5_add, Cond.instanceMethod yX5_add, Cond.selects RX5 yX5_add yX5_add, Cond.code yX5_add cX5_add 2 none, Cond.methodLink RX5 42 yX5_addFour, Cond.instanceMethod yX5_addFour, Cond.selects RX5 yX5_addFour yX5_addFour, Cond.code yX5_addFour cX5_addFour 3 none]
def wsX5_sign : List Cond := .code yX5_sign cX5_sign 6 (some .int) :: ((wsX5_sign_r1 ++ (wsX5_sign_r2 ++ wsX5_sign_r3)) ++ wsX50)
def wsX5_copy : List Cond := .code yX5_copy cX5_copy 4 none :: ([.fieldLink RX5 13 "TrustedUpdatesModel" "sizes" "[I", .fieldLink RX5 7 "TrustedUpdatesModel" "row" "[I"] ++ wsX50)
def wsX5_content : List Cond := .code yX5_content cX5_content 1 (some .int) :: ([.fieldLink RX5 26 "TrustedUpdatesModel" "thrown" "I", .fieldLink RX5 13 "TrustedUpdatesModel" "sizes" "[I", .methodLink RX5 115 yX5_copy, .instanceMethod yX5_copy, .selects RX5 yX5_copy yX5_copy, .initialized RX5, .code yX5_copy cX5_copy 4 none, .fieldLink RX5 7 "TrustedUpdatesModel" "row" "[I"] ++ wsX50)
def wsX5_tick : List Cond := .code yX5_tick cX5_tick 2 (some .int) :: ([.fieldLink RX5 26 "TrustedUpdatesModel" "thrown" "I", .fieldLink RX5 106 "TrustedUpdatesModel" "clock" "I"] ++ wsX50)
def wsX5_roleOfDraft : List Cond := .code yX5_roleOfDraft cX5_roleOfDraft 1 (some .int) :: ([.fieldLink RX5 7 "TrustedUpdatesModel" "row" "[I"] ++ wsX50)
def wsX5_trust : List Cond := .code yX5_trust cX5_trust 2 none :: ([.fieldLink RX5 16 "TrustedUpdatesModel" "has" "[Z", .methodLink RX5 115 yX5_copy, .instanceMethod yX5_copy, .selects RX5 yX5_copy yX5_copy, .initialized RX5, .code yX5_copy cX5_copy 4 none, .fieldLink RX5 13 "TrustedUpdatesModel" "sizes" "[I", .fieldLink RX5 7 "TrustedUpdatesModel" "row" "[I"] ++ wsX50)
def wsX5_begin_r1 : List Cond := [Cond.fieldLink RX5 26 "TrustedUpdatesModel" "thrown" "I", Cond.fieldLink RX5 16 "TrustedUpdatesModel" "has" "[Z", Cond.methodLink RX5 97 yX5_isDocument, Cond.instanceMethod yX5_isDocument, Cond.selects RX5 yX5_isDocument yX5_isDocument, Cond.initialized RX5, Cond.code yX5_isDocument cX5_isDocument 4 (some .boolean), Cond.fieldLink RX5 45 "TrustedUpdatesModel" "good" "Z", Cond.fieldLink RX5 49 "TrustedUpdatesModel" "at" "I", Cond.fieldLink RX5 52 "TrustedUpdatesModel" "end" "I", Cond.methodLink RX5 89 yX5_passSigned, Cond.instanceMethod yX5_passSigned, Cond.selects RX5 yX5_passSigned yX5_passSigned, Cond.code yX5_passSigned cX5_passSigned 3 (some .boolean), Cond.fieldLink RX5 13 "TrustedUpdatesModel" "sizes" "[I", Cond.fieldLink RX5 86 "TrustedUpdatesModel" "signed" "I", Cond.methodLink RX5 62 yX5_between, Cond.instanceMethod yX5_between, Cond.selects RX5 yX5_between yX5_between, Cond.code yX5_between cX5_between 4 (some .int), Cond.methodLink RX5 55 yX5_next, Cond.instanceMethod yX5_next, Cond.selects RX5 yX5_next yX5_next, Cond.code yX5_next cX5_next 2 (some .int)]
def wsX5_begin_r2 : List Cond := [Cond.fieldLink RX5 7 "TrustedUpdatesModel" "row" "[I", Cond.methodLink RX5 74 yX5_skip, Cond.instanceMethod yX5_skip, Cond.selects RX5 yX5_skip yX5_skip, Cond.code yX5_skip cX5_skip 2 none, Cond.methodLink RX5 83 yX5_passBody, Cond.instanceMethod yX5_passBody, Cond.selects RX5 yX5_passBody yX5_passBody, Cond.code yX5_passBody cX5_passBody 5 none, Cond.methodLink RX5 77 yX5_passKeys, Cond.instanceMethod yX5_passKeys, Cond.selects RX5 yX5_passKeys yX5_passKeys, Cond.code yX5_passKeys cX5_passKeys 5 none, Cond.fieldLink RX5 59 "TrustedUpdatesModel" "keySet" "I", Cond.methodLink RX5 80 yX5_passTargets, Cond.instanceMethod yX5_passTargets, Cond.selects RX5 yX5_passTargets yX5_passTargets, Cond.code yX5_passTargets cX5_passTargets 6 none, Cond.methodLink RX5 66 yX5_passLetters, Cond.instanceMethod yX5_passLetters, Cond.selects RX5 yX5_passLetters yX5_passLetters, Cond.code yX5_passLetters cX5_passLetters 5 none, Cond.methodLink RX5 70 yX5_areSame, Cond.instanceMethod yX5_areSame]
def wsX5_begin_r3 : List Cond := [Cond.selects RX5 yX5_areSame yX5_areSame, Cond.code yX5_areSame cX5_areSame 5 (some .boolean), Cond.methodLink RX5 118 yX5_roleOfDraft, Cond.instanceMethod yX5_roleOfDraft, Cond.selects RX5 yX5_roleOfDraft yX5_roleOfDraft, Cond.code yX5_roleOfDraft cX5_roleOfDraft 1 (some .int), Cond.methodLink RX5 121 yX5_trust, Cond.instanceMethod yX5_trust, Cond.selects RX5 yX5_trust yX5_trust, Cond.code yX5_trust cX5_trust 2 none, Cond.methodLink RX5 115 yX5_copy, Cond.instanceMethod yX5_copy, Cond.selects RX5 yX5_copy yX5_copy, Cond.code yX5_copy cX5_copy 4 none]
def wsX5_begin : List Cond := .code yX5_begin cX5_begin 2 none :: ((wsX5_begin_r1 ++ (wsX5_begin_r2 ++ wsX5_begin_r3)) ++ wsX50)
def wsX5_areSameKeys : List Cond := .code yX5_areSameKeys cX5_areSameKeys 6 (some .boolean) :: ([.fieldLink RX5 7 "TrustedUpdatesModel" "row" "[I", .methodLink RX5 124 yX5_keysOf, .instanceMethod yX5_keysOf, .selects RX5 yX5_keysOf yX5_keysOf, .initialized RX5, .code yX5_keysOf cX5_keysOf 5 (some .int)] ++ wsX50)
def wsX5_offerRoot_r1 : List Cond := [Cond.fieldLink RX5 16 "TrustedUpdatesModel" "has" "[Z", Cond.methodLink RX5 124 yX5_keysOf, Cond.instanceMethod yX5_keysOf, Cond.selects RX5 yX5_keysOf yX5_keysOf, Cond.initialized RX5, Cond.code yX5_keysOf cX5_keysOf 5 (some .int), Cond.fieldLink RX5 7 "TrustedUpdatesModel" "row" "[I", Cond.methodLink RX5 127 yX5_isSigned, Cond.instanceMethod yX5_isSigned, Cond.selects RX5 yX5_isSigned yX5_isSigned, Cond.code yX5_isSigned cX5_isSigned 6 (some .boolean), Cond.methodLink RX5 97 yX5_isDocument, Cond.instanceMethod yX5_isDocument, Cond.selects RX5 yX5_isDocument yX5_isDocument, Cond.code yX5_isDocument cX5_isDocument 4 (some .boolean), Cond.fieldLink RX5 45 "TrustedUpdatesModel" "good" "Z", Cond.fieldLink RX5 49 "TrustedUpdatesModel" "at" "I", Cond.fieldLink RX5 52 "TrustedUpdatesModel" "end" "I", Cond.methodLink RX5 89 yX5_passSigned, Cond.instanceMethod yX5_passSigned, Cond.selects RX5 yX5_passSigned yX5_passSigned, Cond.code yX5_passSigned cX5_passSigned 3 (some .boolean), Cond.fieldLink RX5 13 "TrustedUpdatesModel" "sizes" "[I", Cond.fieldLink RX5 86 "TrustedUpdatesModel" "signed" "I"]
def wsX5_offerRoot_r2 : List Cond := [Cond.methodLink RX5 62 yX5_between, Cond.instanceMethod yX5_between, Cond.selects RX5 yX5_between yX5_between, Cond.code yX5_between cX5_between 4 (some .int), Cond.methodLink RX5 55 yX5_next, Cond.instanceMethod yX5_next, Cond.selects RX5 yX5_next yX5_next, Cond.code yX5_next cX5_next 2 (some .int), Cond.methodLink RX5 74 yX5_skip, Cond.instanceMethod yX5_skip, Cond.selects RX5 yX5_skip yX5_skip, Cond.code yX5_skip cX5_skip 2 none, Cond.methodLink RX5 83 yX5_passBody, Cond.instanceMethod yX5_passBody, Cond.selects RX5 yX5_passBody yX5_passBody, Cond.code yX5_passBody cX5_passBody 5 none, Cond.methodLink RX5 77 yX5_passKeys, Cond.instanceMethod yX5_passKeys, Cond.selects RX5 yX5_passKeys yX5_passKeys, Cond.code yX5_passKeys cX5_passKeys 5 none, Cond.fieldLink RX5 59 "TrustedUpdatesModel" "keySet" "I", Cond.methodLink RX5 80 yX5_passTargets, Cond.instanceMethod yX5_passTargets, Cond.selects RX5 yX5_passTargets yX5_passTargets]
def wsX5_offerRoot_r3 : List Cond := [Cond.code yX5_passTargets cX5_passTargets 6 none, Cond.methodLink RX5 66 yX5_passLetters, Cond.instanceMethod yX5_passLetters, Cond.selects RX5 yX5_passLetters yX5_passLetters, Cond.code yX5_passLetters cX5_passLetters 5 none, Cond.methodLink RX5 70 yX5_areSame, Cond.instanceMethod yX5_areSame, Cond.selects RX5 yX5_areSame yX5_areSame, Cond.code yX5_areSame cX5_areSame 5 (some .boolean), Cond.methodLink RX5 100 yX5_hasSignature, Cond.instanceMethod yX5_hasSignature, Cond.selects RX5 yX5_hasSignature yX5_hasSignature, Cond.code yX5_hasSignature cX5_hasSignature 8 (some .boolean), Cond.methodLink RX5 38 yX5_mixOf, Cond.instanceMethod yX5_mixOf, Cond.selects RX5 yX5_mixOf yX5_mixOf, Cond.code yX5_mixOf cX5_mixOf 6 (some .int), Cond.constant RX5 36 (-1640531527), Cond.constant RX5 37 (16777619), Cond.methodLink RX5 93 yX5_four, Cond.instanceMethod yX5_four, Cond.selects RX5 yX5_four yX5_four, Cond.code yX5_four cX5_four 2 (some .int), Cond.methodLink RX5 130 yX5_versionOf]
def wsX5_offerRoot_r4 : List Cond := [Cond.instanceMethod yX5_versionOf, Cond.selects RX5 yX5_versionOf yX5_versionOf, Cond.code yX5_versionOf cX5_versionOf 2 (some .int), Cond.methodLink RX5 133 yX5_areSameKeys, Cond.instanceMethod yX5_areSameKeys, Cond.selects RX5 yX5_areSameKeys yX5_areSameKeys, Cond.code yX5_areSameKeys cX5_areSameKeys 6 (some .boolean)]
def wsX5_offerRoot : List Cond := .code yX5_offerRoot cX5_offerRoot 1 (some .int) :: ((wsX5_offerRoot_r1 ++ (wsX5_offerRoot_r2 ++ (wsX5_offerRoot_r3 ++ wsX5_offerRoot_r4))) ++ wsX50)
def wsX5_offerStamp_r1 : List Cond := [Cond.fieldLink RX5 16 "TrustedUpdatesModel" "has" "[Z", Cond.fieldLink RX5 7 "TrustedUpdatesModel" "row" "[I", Cond.methodLink RX5 136 yX5_stands, Cond.instanceMethod yX5_stands, Cond.selects RX5 yX5_stands yX5_stands, Cond.initialized RX5, Cond.code yX5_stands cX5_stands 2 (some .boolean), Cond.methodLink RX5 109 yX5_isOver, Cond.instanceMethod yX5_isOver, Cond.selects RX5 yX5_isOver yX5_isOver, Cond.code yX5_isOver cX5_isOver 2 (some .boolean), Cond.fieldLink RX5 106 "TrustedUpdatesModel" "clock" "I", Cond.methodLink RX5 103 yX5_endOf, Cond.instanceMethod yX5_endOf, Cond.selects RX5 yX5_endOf yX5_endOf, Cond.code yX5_endOf cX5_endOf 2 (some .int), Cond.methodLink RX5 124 yX5_keysOf, Cond.instanceMethod yX5_keysOf, Cond.selects RX5 yX5_keysOf yX5_keysOf, Cond.code yX5_keysOf cX5_keysOf 5 (some .int), Cond.methodLink RX5 127 yX5_isSigned, Cond.instanceMethod yX5_isSigned, Cond.selects RX5 yX5_isSigned yX5_isSigned, Cond.code yX5_isSigned cX5_isSigned 6 (some .boolean)]
def wsX5_offerStamp_r2 : List Cond := [Cond.methodLink RX5 97 yX5_isDocument, Cond.instanceMethod yX5_isDocument, Cond.selects RX5 yX5_isDocument yX5_isDocument, Cond.code yX5_isDocument cX5_isDocument 4 (some .boolean), Cond.fieldLink RX5 45 "TrustedUpdatesModel" "good" "Z", Cond.fieldLink RX5 49 "TrustedUpdatesModel" "at" "I", Cond.fieldLink RX5 52 "TrustedUpdatesModel" "end" "I", Cond.methodLink RX5 89 yX5_passSigned, Cond.instanceMethod yX5_passSigned, Cond.selects RX5 yX5_passSigned yX5_passSigned, Cond.code yX5_passSigned cX5_passSigned 3 (some .boolean), Cond.fieldLink RX5 13 "TrustedUpdatesModel" "sizes" "[I", Cond.fieldLink RX5 86 "TrustedUpdatesModel" "signed" "I", Cond.methodLink RX5 62 yX5_between, Cond.instanceMethod yX5_between, Cond.selects RX5 yX5_between yX5_between, Cond.code yX5_between cX5_between 4 (some .int), Cond.methodLink RX5 55 yX5_next, Cond.instanceMethod yX5_next, Cond.selects RX5 yX5_next yX5_next, Cond.code yX5_next cX5_next 2 (some .int), Cond.methodLink RX5 74 yX5_skip, Cond.instanceMethod yX5_skip, Cond.selects RX5 yX5_skip yX5_skip]
def wsX5_offerStamp_r3 : List Cond := [Cond.code yX5_skip cX5_skip 2 none, Cond.methodLink RX5 83 yX5_passBody, Cond.instanceMethod yX5_passBody, Cond.selects RX5 yX5_passBody yX5_passBody, Cond.code yX5_passBody cX5_passBody 5 none, Cond.methodLink RX5 77 yX5_passKeys, Cond.instanceMethod yX5_passKeys, Cond.selects RX5 yX5_passKeys yX5_passKeys, Cond.code yX5_passKeys cX5_passKeys 5 none, Cond.fieldLink RX5 59 "TrustedUpdatesModel" "keySet" "I", Cond.methodLink RX5 80 yX5_passTargets, Cond.instanceMethod yX5_passTargets, Cond.selects RX5 yX5_passTargets yX5_passTargets, Cond.code yX5_passTargets cX5_passTargets 6 none, Cond.methodLink RX5 66 yX5_passLetters, Cond.instanceMethod yX5_passLetters, Cond.selects RX5 yX5_passLetters yX5_passLetters, Cond.code yX5_passLetters cX5_passLetters 5 none, Cond.methodLink RX5 70 yX5_areSame, Cond.instanceMethod yX5_areSame, Cond.selects RX5 yX5_areSame yX5_areSame, Cond.code yX5_areSame cX5_areSame 5 (some .boolean), Cond.methodLink RX5 100 yX5_hasSignature, Cond.instanceMethod yX5_hasSignature]
def wsX5_offerStamp_r4 : List Cond := [Cond.selects RX5 yX5_hasSignature yX5_hasSignature, Cond.code yX5_hasSignature cX5_hasSignature 8 (some .boolean), Cond.methodLink RX5 38 yX5_mixOf, Cond.instanceMethod yX5_mixOf, Cond.selects RX5 yX5_mixOf yX5_mixOf, Cond.code yX5_mixOf cX5_mixOf 6 (some .int), Cond.constant RX5 36 (-1640531527), Cond.constant RX5 37 (16777619), Cond.methodLink RX5 93 yX5_four, Cond.instanceMethod yX5_four, Cond.selects RX5 yX5_four yX5_four, Cond.code yX5_four cX5_four 2 (some .int), Cond.methodLink RX5 130 yX5_versionOf, Cond.instanceMethod yX5_versionOf, Cond.selects RX5 yX5_versionOf yX5_versionOf, Cond.code yX5_versionOf cX5_versionOf 2 (some .int)]
def wsX5_offerStamp : List Cond := .code yX5_offerStamp cX5_offerStamp 2 (some .int) :: ((wsX5_offerStamp_r1 ++ (wsX5_offerStamp_r2 ++ (wsX5_offerStamp_r3 ++ wsX5_offerStamp_r4))) ++ wsX50)
def wsX5_offerSnapshot_r1 : List Cond := [Cond.fieldLink RX5 7 "TrustedUpdatesModel" "row" "[I", Cond.fieldLink RX5 13 "TrustedUpdatesModel" "sizes" "[I", Cond.fieldLink RX5 16 "TrustedUpdatesModel" "has" "[Z", Cond.methodLink RX5 136 yX5_stands, Cond.instanceMethod yX5_stands, Cond.selects RX5 yX5_stands yX5_stands, Cond.initialized RX5, Cond.code yX5_stands cX5_stands 2 (some .boolean), Cond.methodLink RX5 109 yX5_isOver, Cond.instanceMethod yX5_isOver, Cond.selects RX5 yX5_isOver yX5_isOver, Cond.code yX5_isOver cX5_isOver 2 (some .boolean), Cond.fieldLink RX5 106 "TrustedUpdatesModel" "clock" "I", Cond.methodLink RX5 103 yX5_endOf, Cond.instanceMethod yX5_endOf, Cond.selects RX5 yX5_endOf yX5_endOf, Cond.code yX5_endOf cX5_endOf 2 (some .int), Cond.methodLink RX5 124 yX5_keysOf, Cond.instanceMethod yX5_keysOf, Cond.selects RX5 yX5_keysOf yX5_keysOf, Cond.code yX5_keysOf cX5_keysOf 5 (some .int), Cond.methodLink RX5 127 yX5_isSigned, Cond.instanceMethod yX5_isSigned, Cond.selects RX5 yX5_isSigned yX5_isSigned]
def wsX5_offerSnapshot_r2 : List Cond := [Cond.code yX5_isSigned cX5_isSigned 6 (some .boolean), Cond.methodLink RX5 97 yX5_isDocument, Cond.instanceMethod yX5_isDocument, Cond.selects RX5 yX5_isDocument yX5_isDocument, Cond.code yX5_isDocument cX5_isDocument 4 (some .boolean), Cond.fieldLink RX5 45 "TrustedUpdatesModel" "good" "Z", Cond.fieldLink RX5 49 "TrustedUpdatesModel" "at" "I", Cond.fieldLink RX5 52 "TrustedUpdatesModel" "end" "I", Cond.methodLink RX5 89 yX5_passSigned, Cond.instanceMethod yX5_passSigned, Cond.selects RX5 yX5_passSigned yX5_passSigned, Cond.code yX5_passSigned cX5_passSigned 3 (some .boolean), Cond.fieldLink RX5 86 "TrustedUpdatesModel" "signed" "I", Cond.methodLink RX5 62 yX5_between, Cond.instanceMethod yX5_between, Cond.selects RX5 yX5_between yX5_between, Cond.code yX5_between cX5_between 4 (some .int), Cond.methodLink RX5 55 yX5_next, Cond.instanceMethod yX5_next, Cond.selects RX5 yX5_next yX5_next, Cond.code yX5_next cX5_next 2 (some .int), Cond.methodLink RX5 74 yX5_skip, Cond.instanceMethod yX5_skip, Cond.selects RX5 yX5_skip yX5_skip]
def wsX5_offerSnapshot_r3 : List Cond := [Cond.code yX5_skip cX5_skip 2 none, Cond.methodLink RX5 83 yX5_passBody, Cond.instanceMethod yX5_passBody, Cond.selects RX5 yX5_passBody yX5_passBody, Cond.code yX5_passBody cX5_passBody 5 none, Cond.methodLink RX5 77 yX5_passKeys, Cond.instanceMethod yX5_passKeys, Cond.selects RX5 yX5_passKeys yX5_passKeys, Cond.code yX5_passKeys cX5_passKeys 5 none, Cond.fieldLink RX5 59 "TrustedUpdatesModel" "keySet" "I", Cond.methodLink RX5 80 yX5_passTargets, Cond.instanceMethod yX5_passTargets, Cond.selects RX5 yX5_passTargets yX5_passTargets, Cond.code yX5_passTargets cX5_passTargets 6 none, Cond.methodLink RX5 66 yX5_passLetters, Cond.instanceMethod yX5_passLetters, Cond.selects RX5 yX5_passLetters yX5_passLetters, Cond.code yX5_passLetters cX5_passLetters 5 none, Cond.methodLink RX5 70 yX5_areSame, Cond.instanceMethod yX5_areSame, Cond.selects RX5 yX5_areSame yX5_areSame, Cond.code yX5_areSame cX5_areSame 5 (some .boolean), Cond.methodLink RX5 100 yX5_hasSignature, Cond.instanceMethod yX5_hasSignature]
def wsX5_offerSnapshot_r4 : List Cond := [Cond.selects RX5 yX5_hasSignature yX5_hasSignature, Cond.code yX5_hasSignature cX5_hasSignature 8 (some .boolean), Cond.methodLink RX5 38 yX5_mixOf, Cond.instanceMethod yX5_mixOf, Cond.selects RX5 yX5_mixOf yX5_mixOf, Cond.code yX5_mixOf cX5_mixOf 6 (some .int), Cond.constant RX5 36 (-1640531527), Cond.constant RX5 37 (16777619), Cond.methodLink RX5 93 yX5_four, Cond.instanceMethod yX5_four, Cond.selects RX5 yX5_four yX5_four, Cond.code yX5_four cX5_four 2 (some .int), Cond.methodLink RX5 130 yX5_versionOf, Cond.instanceMethod yX5_versionOf, Cond.selects RX5 yX5_versionOf yX5_versionOf, Cond.code yX5_versionOf cX5_versionOf 2 (some .int), Cond.methodLink RX5 139 yX5_said, Cond.instanceMethod yX5_said, Cond.selects RX5 yX5_said yX5_said, Cond.code yX5_said cX5_said 6 (some .int)]
def wsX5_offerSnapshot : List Cond := .code yX5_offerSnapshot cX5_offerSnapshot 2 (some .int) :: ((wsX5_offerSnapshot_r1 ++ (wsX5_offerSnapshot_r2 ++ (wsX5_offerSnapshot_r3 ++ wsX5_offerSnapshot_r4))) ++ wsX50)
def wsX5_offerTargets_r1 : List Cond := [Cond.methodLink RX5 136 yX5_stands, Cond.instanceMethod yX5_stands, Cond.selects RX5 yX5_stands yX5_stands, Cond.initialized RX5, Cond.code yX5_stands cX5_stands 2 (some .boolean), Cond.fieldLink RX5 16 "TrustedUpdatesModel" "has" "[Z", Cond.methodLink RX5 109 yX5_isOver, Cond.instanceMethod yX5_isOver, Cond.selects RX5 yX5_isOver yX5_isOver, Cond.code yX5_isOver cX5_isOver 2 (some .boolean), Cond.fieldLink RX5 106 "TrustedUpdatesModel" "clock" "I", Cond.methodLink RX5 103 yX5_endOf, Cond.instanceMethod yX5_endOf, Cond.selects RX5 yX5_endOf yX5_endOf, Cond.code yX5_endOf cX5_endOf 2 (some .int), Cond.fieldLink RX5 7 "TrustedUpdatesModel" "row" "[I", Cond.methodLink RX5 139 yX5_said, Cond.instanceMethod yX5_said, Cond.selects RX5 yX5_said yX5_said, Cond.code yX5_said cX5_said 6 (some .int), Cond.methodLink RX5 124 yX5_keysOf, Cond.instanceMethod yX5_keysOf, Cond.selects RX5 yX5_keysOf yX5_keysOf, Cond.code yX5_keysOf cX5_keysOf 5 (some .int)]
def wsX5_offerTargets_r2 : List Cond := [Cond.methodLink RX5 127 yX5_isSigned, Cond.instanceMethod yX5_isSigned, Cond.selects RX5 yX5_isSigned yX5_isSigned, Cond.code yX5_isSigned cX5_isSigned 6 (some .boolean), Cond.methodLink RX5 97 yX5_isDocument, Cond.instanceMethod yX5_isDocument, Cond.selects RX5 yX5_isDocument yX5_isDocument, Cond.code yX5_isDocument cX5_isDocument 4 (some .boolean), Cond.fieldLink RX5 45 "TrustedUpdatesModel" "good" "Z", Cond.fieldLink RX5 49 "TrustedUpdatesModel" "at" "I", Cond.fieldLink RX5 52 "TrustedUpdatesModel" "end" "I", Cond.methodLink RX5 89 yX5_passSigned, Cond.instanceMethod yX5_passSigned, Cond.selects RX5 yX5_passSigned yX5_passSigned, Cond.code yX5_passSigned cX5_passSigned 3 (some .boolean), Cond.fieldLink RX5 13 "TrustedUpdatesModel" "sizes" "[I", Cond.fieldLink RX5 86 "TrustedUpdatesModel" "signed" "I", Cond.methodLink RX5 62 yX5_between, Cond.instanceMethod yX5_between, Cond.selects RX5 yX5_between yX5_between, Cond.code yX5_between cX5_between 4 (some .int), Cond.methodLink RX5 55 yX5_next, Cond.instanceMethod yX5_next, Cond.selects RX5 yX5_next yX5_next]
def wsX5_offerTargets_r3 : List Cond := [Cond.code yX5_next cX5_next 2 (some .int), Cond.methodLink RX5 74 yX5_skip, Cond.instanceMethod yX5_skip, Cond.selects RX5 yX5_skip yX5_skip, Cond.code yX5_skip cX5_skip 2 none, Cond.methodLink RX5 83 yX5_passBody, Cond.instanceMethod yX5_passBody, Cond.selects RX5 yX5_passBody yX5_passBody, Cond.code yX5_passBody cX5_passBody 5 none, Cond.methodLink RX5 77 yX5_passKeys, Cond.instanceMethod yX5_passKeys, Cond.selects RX5 yX5_passKeys yX5_passKeys, Cond.code yX5_passKeys cX5_passKeys 5 none, Cond.fieldLink RX5 59 "TrustedUpdatesModel" "keySet" "I", Cond.methodLink RX5 80 yX5_passTargets, Cond.instanceMethod yX5_passTargets, Cond.selects RX5 yX5_passTargets yX5_passTargets, Cond.code yX5_passTargets cX5_passTargets 6 none, Cond.methodLink RX5 66 yX5_passLetters, Cond.instanceMethod yX5_passLetters, Cond.selects RX5 yX5_passLetters yX5_passLetters, Cond.code yX5_passLetters cX5_passLetters 5 none, Cond.methodLink RX5 70 yX5_areSame, Cond.instanceMethod yX5_areSame]
def wsX5_offerTargets_r4 : List Cond := [Cond.selects RX5 yX5_areSame yX5_areSame, Cond.code yX5_areSame cX5_areSame 5 (some .boolean), Cond.methodLink RX5 100 yX5_hasSignature, Cond.instanceMethod yX5_hasSignature, Cond.selects RX5 yX5_hasSignature yX5_hasSignature, Cond.code yX5_hasSignature cX5_hasSignature 8 (some .boolean), Cond.methodLink RX5 38 yX5_mixOf, Cond.instanceMethod yX5_mixOf, Cond.selects RX5 yX5_mixOf yX5_mixOf, Cond.code yX5_mixOf cX5_mixOf 6 (some .int), Cond.constant RX5 36 (-1640531527), Cond.constant RX5 37 (16777619), Cond.methodLink RX5 93 yX5_four, Cond.instanceMethod yX5_four, Cond.selects RX5 yX5_four yX5_four, Cond.code yX5_four cX5_four 2 (some .int), Cond.methodLink RX5 130 yX5_versionOf, Cond.instanceMethod yX5_versionOf, Cond.selects RX5 yX5_versionOf yX5_versionOf, Cond.code yX5_versionOf cX5_versionOf 2 (some .int)]
def wsX5_offerTargets : List Cond := .code yX5_offerTargets cX5_offerTargets 2 (some .int) :: ((wsX5_offerTargets_r1 ++ (wsX5_offerTargets_r2 ++ (wsX5_offerTargets_r3 ++ wsX5_offerTargets_r4))) ++ wsX50)
def wsX5_offer_r1 : List Cond := [Cond.fieldLink RX5 26 "TrustedUpdatesModel" "thrown" "I", Cond.methodLink RX5 97 yX5_isDocument, Cond.instanceMethod yX5_isDocument, Cond.selects RX5 yX5_isDocument yX5_isDocument, Cond.initialized RX5, Cond.code yX5_isDocument cX5_isDocument 4 (some .boolean), Cond.fieldLink RX5 45 "TrustedUpdatesModel" "good" "Z", Cond.fieldLink RX5 49 "TrustedUpdatesModel" "at" "I", Cond.fieldLink RX5 52 "TrustedUpdatesModel" "end" "I", Cond.methodLink RX5 89 yX5_passSigned, Cond.instanceMethod yX5_passSigned, Cond.selects RX5 yX5_passSigned yX5_passSigned, Cond.code yX5_passSigned cX5_passSigned 3 (some .boolean), Cond.fieldLink RX5 13 "TrustedUpdatesModel" "sizes" "[I", Cond.fieldLink RX5 86 "TrustedUpdatesModel" "signed" "I", Cond.methodLink RX5 62 yX5_between, Cond.instanceMethod yX5_between, Cond.selects RX5 yX5_between yX5_between, Cond.code yX5_between cX5_between 4 (some .int), Cond.methodLink RX5 55 yX5_next, Cond.instanceMethod yX5_next, Cond.selects RX5 yX5_next yX5_next, Cond.code yX5_next cX5_next 2 (some .int), Cond.fieldLink RX5 7 "TrustedUpdatesModel" "row" "[I"]
def wsX5_offer_r2 : List Cond := [Cond.methodLink RX5 74 yX5_skip, Cond.instanceMethod yX5_skip, Cond.selects RX5 yX5_skip yX5_skip, Cond.code yX5_skip cX5_skip 2 none, Cond.methodLink RX5 83 yX5_passBody, Cond.instanceMethod yX5_passBody, Cond.selects RX5 yX5_passBody yX5_passBody, Cond.code yX5_passBody cX5_passBody 5 none, Cond.methodLink RX5 77 yX5_passKeys, Cond.instanceMethod yX5_passKeys, Cond.selects RX5 yX5_passKeys yX5_passKeys, Cond.code yX5_passKeys cX5_passKeys 5 none, Cond.fieldLink RX5 59 "TrustedUpdatesModel" "keySet" "I", Cond.methodLink RX5 80 yX5_passTargets, Cond.instanceMethod yX5_passTargets, Cond.selects RX5 yX5_passTargets yX5_passTargets, Cond.code yX5_passTargets cX5_passTargets 6 none, Cond.methodLink RX5 66 yX5_passLetters, Cond.instanceMethod yX5_passLetters, Cond.selects RX5 yX5_passLetters yX5_passLetters, Cond.code yX5_passLetters cX5_passLetters 5 none, Cond.methodLink RX5 70 yX5_areSame, Cond.instanceMethod yX5_areSame, Cond.selects RX5 yX5_areSame yX5_areSame]
def wsX5_offer_r3 : List Cond := [Cond.code yX5_areSame cX5_areSame 5 (some .boolean), Cond.methodLink RX5 118 yX5_roleOfDraft, Cond.instanceMethod yX5_roleOfDraft, Cond.selects RX5 yX5_roleOfDraft yX5_roleOfDraft, Cond.code yX5_roleOfDraft cX5_roleOfDraft 1 (some .int), Cond.methodLink RX5 142 yX5_offerRoot, Cond.instanceMethod yX5_offerRoot, Cond.selects RX5 yX5_offerRoot yX5_offerRoot, Cond.code yX5_offerRoot cX5_offerRoot 1 (some .int), Cond.fieldLink RX5 16 "TrustedUpdatesModel" "has" "[Z", Cond.methodLink RX5 124 yX5_keysOf, Cond.instanceMethod yX5_keysOf, Cond.selects RX5 yX5_keysOf yX5_keysOf, Cond.code yX5_keysOf cX5_keysOf 5 (some .int), Cond.methodLink RX5 127 yX5_isSigned, Cond.instanceMethod yX5_isSigned, Cond.selects RX5 yX5_isSigned yX5_isSigned, Cond.code yX5_isSigned cX5_isSigned 6 (some .boolean), Cond.methodLink RX5 100 yX5_hasSignature, Cond.instanceMethod yX5_hasSignature, Cond.selects RX5 yX5_hasSignature yX5_hasSignature, Cond.code yX5_hasSignature cX5_hasSignature 8 (some .boolean), Cond.methodLink RX5 38 yX5_mixOf, Cond.instanceMethod yX5_mixOf]
def wsX5_offer_r4 : List Cond := [Cond.selects RX5 yX5_mixOf yX5_mixOf, Cond.code yX5_mixOf cX5_mixOf 6 (some .int), Cond.constant RX5 36 (-1640531527), Cond.constant RX5 37 (16777619), Cond.methodLink RX5 93 yX5_four, Cond.instanceMethod yX5_four, Cond.selects RX5 yX5_four yX5_four, Cond.code yX5_four cX5_four 2 (some .int), Cond.methodLink RX5 130 yX5_versionOf, Cond.instanceMethod yX5_versionOf, Cond.selects RX5 yX5_versionOf yX5_versionOf, Cond.code yX5_versionOf cX5_versionOf 2 (some .int), Cond.methodLink RX5 133 yX5_areSameKeys, Cond.instanceMethod yX5_areSameKeys, Cond.selects RX5 yX5_areSameKeys yX5_areSameKeys, Cond.code yX5_areSameKeys cX5_areSameKeys 6 (some .boolean), Cond.methodLink RX5 145 yX5_offerStamp, Cond.instanceMethod yX5_offerStamp, Cond.selects RX5 yX5_offerStamp yX5_offerStamp, Cond.code yX5_offerStamp cX5_offerStamp 2 (some .int), Cond.methodLink RX5 136 yX5_stands, Cond.instanceMethod yX5_stands, Cond.selects RX5 yX5_stands yX5_stands, Cond.code yX5_stands cX5_stands 2 (some .boolean)]
def wsX5_offer_r5 : List Cond := [Cond.methodLink RX5 109 yX5_isOver, Cond.instanceMethod yX5_isOver, Cond.selects RX5 yX5_isOver yX5_isOver, Cond.code yX5_isOver cX5_isOver 2 (some .boolean), Cond.fieldLink RX5 106 "TrustedUpdatesModel" "clock" "I", Cond.methodLink RX5 103 yX5_endOf, Cond.instanceMethod yX5_endOf, Cond.selects RX5 yX5_endOf yX5_endOf, Cond.code yX5_endOf cX5_endOf 2 (some .int), Cond.methodLink RX5 148 yX5_offerSnapshot, Cond.instanceMethod yX5_offerSnapshot, Cond.selects RX5 yX5_offerSnapshot yX5_offerSnapshot, Cond.code yX5_offerSnapshot cX5_offerSnapshot 2 (some .int), Cond.methodLink RX5 139 yX5_said, Cond.instanceMethod yX5_said, Cond.selects RX5 yX5_said yX5_said, Cond.code yX5_said cX5_said 6 (some .int), Cond.methodLink RX5 151 yX5_offerTargets, Cond.instanceMethod yX5_offerTargets, Cond.selects RX5 yX5_offerTargets yX5_offerTargets, Cond.code yX5_offerTargets cX5_offerTargets 2 (some .int), Cond.methodLink RX5 121 yX5_trust, Cond.instanceMethod yX5_trust, Cond.selects RX5 yX5_trust yX5_trust]
def wsX5_offer_r6 : List Cond := [Cond.code yX5_trust cX5_trust 2 none, Cond.methodLink RX5 115 yX5_copy, Cond.instanceMethod yX5_copy, Cond.selects RX5 yX5_copy yX5_copy, Cond.code yX5_copy cX5_copy 4 none]
def wsX5_offer : List Cond := .code yX5_offer cX5_offer 2 (some .int) :: ((wsX5_offer_r1 ++ (wsX5_offer_r2 ++ (wsX5_offer_r3 ++ (wsX5_offer_r4 ++ (wsX5_offer_r5 ++ wsX5_offer_r6))))) ++ wsX50)
def wsX5_trusted : List Cond := .code yX5_trusted cX5_trusted 3 (some .int) :: ([.fieldLink RX5 26 "TrustedUpdatesModel" "thrown" "I", .fieldLink RX5 16 "TrustedUpdatesModel" "has" "[Z", .methodLink RX5 103 yX5_endOf, .instanceMethod yX5_endOf, .selects RX5 yX5_endOf yX5_endOf, .initialized RX5, .code yX5_endOf cX5_endOf 2 (some .int), .fieldLink RX5 7 "TrustedUpdatesModel" "row" "[I", .methodLink RX5 130 yX5_versionOf, .instanceMethod yX5_versionOf, .selects RX5 yX5_versionOf yX5_versionOf, .code yX5_versionOf cX5_versionOf 2 (some .int)] ++ wsX50)
def wsX5_letter : List Cond := .code yX5_letter cX5_letter 3 (some .int) :: ([.constantLong RX5 30 (255)])
def wsX5_isName : List Cond := .code yX5_isName cX5_isName 5 (some .boolean) :: ([.methodLink RX5 154 yX5_letter, .static yX5_letter, .initialized RX5, .code yX5_letter cX5_letter 3 (some .int), .constantLong RX5 30 (255)])
def wsX5_begins : List Cond := .code yX5_begins cX5_begins 7 (some .boolean) :: ([.fieldLink RX5 7 "TrustedUpdatesModel" "row" "[I", .methodLink RX5 154 yX5_letter, .static yX5_letter, .initialized RX5, .code yX5_letter cX5_letter 3 (some .int), .constantLong RX5 30 (255)] ++ wsX50)
def wsX5_isFresh : List Cond := .code yX5_isFresh cX5_isFresh 2 (some .boolean) :: ([.methodLink RX5 136 yX5_stands, .instanceMethod yX5_stands, .selects RX5 yX5_stands yX5_stands, .initialized RX5, .code yX5_stands cX5_stands 2 (some .boolean), .fieldLink RX5 16 "TrustedUpdatesModel" "has" "[Z", .methodLink RX5 109 yX5_isOver, .instanceMethod yX5_isOver, .selects RX5 yX5_isOver yX5_isOver, .code yX5_isOver cX5_isOver 2 (some .boolean), .fieldLink RX5 106 "TrustedUpdatesModel" "clock" "I", .methodLink RX5 103 yX5_endOf, .instanceMethod yX5_endOf, .selects RX5 yX5_endOf yX5_endOf, .code yX5_endOf cX5_endOf 2 (some .int), .fieldLink RX5 7 "TrustedUpdatesModel" "row" "[I", .methodLink RX5 130 yX5_versionOf, .instanceMethod yX5_versionOf, .selects RX5 yX5_versionOf yX5_versionOf, .code yX5_versionOf cX5_versionOf 2 (some .int), .methodLink RX5 139 yX5_said, .instanceMethod yX5_said, .selects RX5 yX5_said yX5_said, .code yX5_said cX5_said 6 (some .int)] ++ wsX50)
def wsX5_hasTarget : List Cond := .code yX5_hasTarget cX5_hasTarget 7 (some .boolean) :: ([.fieldLink RX5 7 "TrustedUpdatesModel" "row" "[I", .fieldLink RX5 162 "TrustedUpdatesModel" "foundLength" "I", .fieldLink RX5 165 "TrustedUpdatesModel" "foundDigest" "I", .methodLink RX5 158 yX5_begins, .instanceMethod yX5_begins, .selects RX5 yX5_begins yX5_begins, .initialized RX5, .code yX5_begins cX5_begins 7 (some .boolean), .methodLink RX5 154 yX5_letter, .static yX5_letter, .code yX5_letter cX5_letter 3 (some .int), .constantLong RX5 30 (255), .methodLink RX5 93 yX5_four, .instanceMethod yX5_four, .selects RX5 yX5_four yX5_four, .code yX5_four cX5_four 2 (some .int)] ++ wsX50)
def wsX5_delegation : List Cond := .code yX5_delegation cX5_delegation 6 (some .int) :: ([.fieldLink RX5 7 "TrustedUpdatesModel" "row" "[I"] ++ wsX50)
def wsX5_visit : List Cond := .code yX5_visit cX5_visit 2 none :: ([.fieldLink RX5 20 "TrustedUpdatesModel" "path" "[I", .fieldLink RX5 168 "TrustedUpdatesModel" "depth" "I", .fieldLink RX5 23 "TrustedUpdatesModel" "going" "[I", .fieldLink RX5 171 "TrustedUpdatesModel" "visited" "I", .fieldLink RX5 174 "TrustedUpdatesModel" "seen" "I"] ++ wsX50)
def wsX5_find_r1 : List Cond := [Cond.fieldLink RX5 168 "TrustedUpdatesModel" "depth" "I", Cond.fieldLink RX5 171 "TrustedUpdatesModel" "visited" "I", Cond.fieldLink RX5 174 "TrustedUpdatesModel" "seen" "I", Cond.fieldLink RX5 20 "TrustedUpdatesModel" "path" "[I", Cond.fieldLink RX5 23 "TrustedUpdatesModel" "going" "[I", Cond.fieldLink RX5 7 "TrustedUpdatesModel" "row" "[I", Cond.methodLink RX5 177 yX5_visit, Cond.instanceMethod yX5_visit, Cond.selects RX5 yX5_visit yX5_visit, Cond.initialized RX5, Cond.code yX5_visit cX5_visit 2 none, Cond.methodLink RX5 180 yX5_hasTarget, Cond.instanceMethod yX5_hasTarget, Cond.selects RX5 yX5_hasTarget yX5_hasTarget, Cond.code yX5_hasTarget cX5_hasTarget 7 (some .boolean), Cond.fieldLink RX5 162 "TrustedUpdatesModel" "foundLength" "I", Cond.fieldLink RX5 165 "TrustedUpdatesModel" "foundDigest" "I", Cond.methodLink RX5 158 yX5_begins, Cond.instanceMethod yX5_begins, Cond.selects RX5 yX5_begins yX5_begins, Cond.code yX5_begins cX5_begins 7 (some .boolean), Cond.methodLink RX5 154 yX5_letter, Cond.static yX5_letter, Cond.code yX5_letter cX5_letter 3 (some .int)]
def wsX5_find_r2 : List Cond := [Cond.constantLong RX5 30 (255), Cond.methodLink RX5 93 yX5_four, Cond.instanceMethod yX5_four, Cond.selects RX5 yX5_four yX5_four, Cond.code yX5_four cX5_four 2 (some .int), Cond.methodLink RX5 184 yX5_delegation, Cond.instanceMethod yX5_delegation, Cond.selects RX5 yX5_delegation yX5_delegation, Cond.code yX5_delegation cX5_delegation 6 (some .int), Cond.methodLink RX5 187 yX5_isFresh, Cond.instanceMethod yX5_isFresh, Cond.selects RX5 yX5_isFresh yX5_isFresh, Cond.code yX5_isFresh cX5_isFresh 2 (some .boolean), Cond.methodLink RX5 136 yX5_stands, Cond.instanceMethod yX5_stands, Cond.selects RX5 yX5_stands yX5_stands, Cond.code yX5_stands cX5_stands 2 (some .boolean), Cond.fieldLink RX5 16 "TrustedUpdatesModel" "has" "[Z", Cond.methodLink RX5 109 yX5_isOver, Cond.instanceMethod yX5_isOver, Cond.selects RX5 yX5_isOver yX5_isOver, Cond.code yX5_isOver cX5_isOver 2 (some .boolean), Cond.fieldLink RX5 106 "TrustedUpdatesModel" "clock" "I", Cond.methodLink RX5 103 yX5_endOf]
def wsX5_find_r3 : List Cond := [Cond.instanceMethod yX5_endOf, Cond.selects RX5 yX5_endOf yX5_endOf, Cond.code yX5_endOf cX5_endOf 2 (some .int), Cond.methodLink RX5 130 yX5_versionOf, Cond.instanceMethod yX5_versionOf, Cond.selects RX5 yX5_versionOf yX5_versionOf, Cond.code yX5_versionOf cX5_versionOf 2 (some .int), Cond.methodLink RX5 139 yX5_said, Cond.instanceMethod yX5_said, Cond.selects RX5 yX5_said yX5_said, Cond.code yX5_said cX5_said 6 (some .int), Cond.methodLink RX5 127 yX5_isSigned, Cond.instanceMethod yX5_isSigned, Cond.selects RX5 yX5_isSigned yX5_isSigned, Cond.code yX5_isSigned cX5_isSigned 6 (some .boolean), Cond.methodLink RX5 97 yX5_isDocument, Cond.instanceMethod yX5_isDocument, Cond.selects RX5 yX5_isDocument yX5_isDocument, Cond.code yX5_isDocument cX5_isDocument 4 (some .boolean), Cond.fieldLink RX5 45 "TrustedUpdatesModel" "good" "Z", Cond.fieldLink RX5 49 "TrustedUpdatesModel" "at" "I", Cond.fieldLink RX5 52 "TrustedUpdatesModel" "end" "I", Cond.methodLink RX5 89 yX5_passSigned, Cond.instanceMethod yX5_passSigned]
def wsX5_find_r4 : List Cond := [Cond.selects RX5 yX5_passSigned yX5_passSigned, Cond.code yX5_passSigned cX5_passSigned 3 (some .boolean), Cond.fieldLink RX5 13 "TrustedUpdatesModel" "sizes" "[I", Cond.fieldLink RX5 86 "TrustedUpdatesModel" "signed" "I", Cond.methodLink RX5 62 yX5_between, Cond.instanceMethod yX5_between, Cond.selects RX5 yX5_between yX5_between, Cond.code yX5_between cX5_between 4 (some .int), Cond.methodLink RX5 55 yX5_next, Cond.instanceMethod yX5_next, Cond.selects RX5 yX5_next yX5_next, Cond.code yX5_next cX5_next 2 (some .int), Cond.methodLink RX5 74 yX5_skip, Cond.instanceMethod yX5_skip, Cond.selects RX5 yX5_skip yX5_skip, Cond.code yX5_skip cX5_skip 2 none, Cond.methodLink RX5 83 yX5_passBody, Cond.instanceMethod yX5_passBody, Cond.selects RX5 yX5_passBody yX5_passBody, Cond.code yX5_passBody cX5_passBody 5 none, Cond.methodLink RX5 77 yX5_passKeys, Cond.instanceMethod yX5_passKeys, Cond.selects RX5 yX5_passKeys yX5_passKeys, Cond.code yX5_passKeys cX5_passKeys 5 none]
def wsX5_find_r5 : List Cond := [Cond.fieldLink RX5 59 "TrustedUpdatesModel" "keySet" "I", Cond.methodLink RX5 80 yX5_passTargets, Cond.instanceMethod yX5_passTargets, Cond.selects RX5 yX5_passTargets yX5_passTargets, Cond.code yX5_passTargets cX5_passTargets 6 none, Cond.methodLink RX5 66 yX5_passLetters, Cond.instanceMethod yX5_passLetters, Cond.selects RX5 yX5_passLetters yX5_passLetters, Cond.code yX5_passLetters cX5_passLetters 5 none, Cond.methodLink RX5 70 yX5_areSame, Cond.instanceMethod yX5_areSame, Cond.selects RX5 yX5_areSame yX5_areSame, Cond.code yX5_areSame cX5_areSame 5 (some .boolean), Cond.methodLink RX5 100 yX5_hasSignature, Cond.instanceMethod yX5_hasSignature, Cond.selects RX5 yX5_hasSignature yX5_hasSignature, Cond.code yX5_hasSignature cX5_hasSignature 8 (some .boolean), Cond.methodLink RX5 38 yX5_mixOf, Cond.instanceMethod yX5_mixOf, Cond.selects RX5 yX5_mixOf yX5_mixOf, Cond.code yX5_mixOf cX5_mixOf 6 (some .int), Cond.constant RX5 36 (-1640531527), Cond.constant RX5 37 (16777619)]
def wsX5_find : List Cond := .code yX5_find cX5_find 8 (some .int) :: ((wsX5_find_r1 ++ (wsX5_find_r2 ++ (wsX5_find_r3 ++ (wsX5_find_r4 ++ wsX5_find_r5)))) ++ wsX50)
def wsX5_wrongSeek_r1 : List Cond := [Cond.methodLink RX5 190 yX5_isName, Cond.static yX5_isName, Cond.initialized RX5, Cond.code yX5_isName cX5_isName 5 (some .boolean), Cond.methodLink RX5 154 yX5_letter, Cond.static yX5_letter, Cond.code yX5_letter cX5_letter 3 (some .int), Cond.constantLong RX5 30 (255), Cond.methodLink RX5 136 yX5_stands, Cond.instanceMethod yX5_stands, Cond.selects RX5 yX5_stands yX5_stands, Cond.code yX5_stands cX5_stands 2 (some .boolean), Cond.fieldLink RX5 16 "TrustedUpdatesModel" "has" "[Z", Cond.methodLink RX5 109 yX5_isOver, Cond.instanceMethod yX5_isOver, Cond.selects RX5 yX5_isOver yX5_isOver, Cond.code yX5_isOver cX5_isOver 2 (some .boolean), Cond.fieldLink RX5 106 "TrustedUpdatesModel" "clock" "I", Cond.methodLink RX5 103 yX5_endOf, Cond.instanceMethod yX5_endOf, Cond.selects RX5 yX5_endOf yX5_endOf, Cond.code yX5_endOf cX5_endOf 2 (some .int), Cond.fieldLink RX5 7 "TrustedUpdatesModel" "row" "[I", Cond.methodLink RX5 187 yX5_isFresh]
def wsX5_wrongSeek_r2 : List Cond := [Cond.instanceMethod yX5_isFresh, Cond.selects RX5 yX5_isFresh yX5_isFresh, Cond.code yX5_isFresh cX5_isFresh 2 (some .boolean), Cond.methodLink RX5 130 yX5_versionOf, Cond.instanceMethod yX5_versionOf, Cond.selects RX5 yX5_versionOf yX5_versionOf, Cond.code yX5_versionOf cX5_versionOf 2 (some .int), Cond.methodLink RX5 139 yX5_said, Cond.instanceMethod yX5_said, Cond.selects RX5 yX5_said yX5_said, Cond.code yX5_said cX5_said 6 (some .int)]
def wsX5_wrongSeek : List Cond := .code yX5_wrongSeek cX5_wrongSeek 4 (some .int) :: ((wsX5_wrongSeek_r1 ++ wsX5_wrongSeek_r2) ++ wsX50)
def wsX5_seek_r1 : List Cond := [Cond.fieldLink RX5 26 "TrustedUpdatesModel" "thrown" "I", Cond.methodLink RX5 194 yX5_wrongSeek, Cond.instanceMethod yX5_wrongSeek, Cond.selects RX5 yX5_wrongSeek yX5_wrongSeek, Cond.initialized RX5, Cond.code yX5_wrongSeek cX5_wrongSeek 4 (some .int), Cond.methodLink RX5 190 yX5_isName, Cond.static yX5_isName, Cond.code yX5_isName cX5_isName 5 (some .boolean), Cond.methodLink RX5 154 yX5_letter, Cond.static yX5_letter, Cond.code yX5_letter cX5_letter 3 (some .int), Cond.constantLong RX5 30 (255), Cond.methodLink RX5 136 yX5_stands, Cond.instanceMethod yX5_stands, Cond.selects RX5 yX5_stands yX5_stands, Cond.code yX5_stands cX5_stands 2 (some .boolean), Cond.fieldLink RX5 16 "TrustedUpdatesModel" "has" "[Z", Cond.methodLink RX5 109 yX5_isOver, Cond.instanceMethod yX5_isOver, Cond.selects RX5 yX5_isOver yX5_isOver, Cond.code yX5_isOver cX5_isOver 2 (some .boolean), Cond.fieldLink RX5 106 "TrustedUpdatesModel" "clock" "I", Cond.methodLink RX5 103 yX5_endOf]
def wsX5_seek_r2 : List Cond := [Cond.instanceMethod yX5_endOf, Cond.selects RX5 yX5_endOf yX5_endOf, Cond.code yX5_endOf cX5_endOf 2 (some .int), Cond.fieldLink RX5 7 "TrustedUpdatesModel" "row" "[I", Cond.methodLink RX5 187 yX5_isFresh, Cond.instanceMethod yX5_isFresh, Cond.selects RX5 yX5_isFresh yX5_isFresh, Cond.code yX5_isFresh cX5_isFresh 2 (some .boolean), Cond.methodLink RX5 130 yX5_versionOf, Cond.instanceMethod yX5_versionOf, Cond.selects RX5 yX5_versionOf yX5_versionOf, Cond.code yX5_versionOf cX5_versionOf 2 (some .int), Cond.methodLink RX5 139 yX5_said, Cond.instanceMethod yX5_said, Cond.selects RX5 yX5_said yX5_said, Cond.code yX5_said cX5_said 6 (some .int), Cond.methodLink RX5 197 yX5_find, Cond.instanceMethod yX5_find, Cond.selects RX5 yX5_find yX5_find, Cond.code yX5_find cX5_find 8 (some .int), Cond.fieldLink RX5 168 "TrustedUpdatesModel" "depth" "I", Cond.fieldLink RX5 171 "TrustedUpdatesModel" "visited" "I", Cond.fieldLink RX5 174 "TrustedUpdatesModel" "seen" "I", Cond.fieldLink RX5 20 "TrustedUpdatesModel" "path" "[I"]
def wsX5_seek_r3 : List Cond := [Cond.fieldLink RX5 23 "TrustedUpdatesModel" "going" "[I", Cond.methodLink RX5 177 yX5_visit, Cond.instanceMethod yX5_visit, Cond.selects RX5 yX5_visit yX5_visit, Cond.code yX5_visit cX5_visit 2 none, Cond.methodLink RX5 180 yX5_hasTarget, Cond.instanceMethod yX5_hasTarget, Cond.selects RX5 yX5_hasTarget yX5_hasTarget, Cond.code yX5_hasTarget cX5_hasTarget 7 (some .boolean), Cond.fieldLink RX5 162 "TrustedUpdatesModel" "foundLength" "I", Cond.fieldLink RX5 165 "TrustedUpdatesModel" "foundDigest" "I", Cond.methodLink RX5 158 yX5_begins, Cond.instanceMethod yX5_begins, Cond.selects RX5 yX5_begins yX5_begins, Cond.code yX5_begins cX5_begins 7 (some .boolean), Cond.methodLink RX5 93 yX5_four, Cond.instanceMethod yX5_four, Cond.selects RX5 yX5_four yX5_four, Cond.code yX5_four cX5_four 2 (some .int), Cond.methodLink RX5 184 yX5_delegation, Cond.instanceMethod yX5_delegation, Cond.selects RX5 yX5_delegation yX5_delegation, Cond.code yX5_delegation cX5_delegation 6 (some .int), Cond.methodLink RX5 127 yX5_isSigned]
def wsX5_seek_r4 : List Cond := [Cond.instanceMethod yX5_isSigned, Cond.selects RX5 yX5_isSigned yX5_isSigned, Cond.code yX5_isSigned cX5_isSigned 6 (some .boolean), Cond.methodLink RX5 97 yX5_isDocument, Cond.instanceMethod yX5_isDocument, Cond.selects RX5 yX5_isDocument yX5_isDocument, Cond.code yX5_isDocument cX5_isDocument 4 (some .boolean), Cond.fieldLink RX5 45 "TrustedUpdatesModel" "good" "Z", Cond.fieldLink RX5 49 "TrustedUpdatesModel" "at" "I", Cond.fieldLink RX5 52 "TrustedUpdatesModel" "end" "I", Cond.methodLink RX5 89 yX5_passSigned, Cond.instanceMethod yX5_passSigned, Cond.selects RX5 yX5_passSigned yX5_passSigned, Cond.code yX5_passSigned cX5_passSigned 3 (some .boolean), Cond.fieldLink RX5 13 "TrustedUpdatesModel" "sizes" "[I", Cond.fieldLink RX5 86 "TrustedUpdatesModel" "signed" "I", Cond.methodLink RX5 62 yX5_between, Cond.instanceMethod yX5_between, Cond.selects RX5 yX5_between yX5_between, Cond.code yX5_between cX5_between 4 (some .int), Cond.methodLink RX5 55 yX5_next, Cond.instanceMethod yX5_next, Cond.selects RX5 yX5_next yX5_next, Cond.code yX5_next cX5_next 2 (some .int)]
def wsX5_seek_r5 : List Cond := [Cond.methodLink RX5 74 yX5_skip, Cond.instanceMethod yX5_skip, Cond.selects RX5 yX5_skip yX5_skip, Cond.code yX5_skip cX5_skip 2 none, Cond.methodLink RX5 83 yX5_passBody, Cond.instanceMethod yX5_passBody, Cond.selects RX5 yX5_passBody yX5_passBody, Cond.code yX5_passBody cX5_passBody 5 none, Cond.methodLink RX5 77 yX5_passKeys, Cond.instanceMethod yX5_passKeys, Cond.selects RX5 yX5_passKeys yX5_passKeys, Cond.code yX5_passKeys cX5_passKeys 5 none, Cond.fieldLink RX5 59 "TrustedUpdatesModel" "keySet" "I", Cond.methodLink RX5 80 yX5_passTargets, Cond.instanceMethod yX5_passTargets, Cond.selects RX5 yX5_passTargets yX5_passTargets, Cond.code yX5_passTargets cX5_passTargets 6 none, Cond.methodLink RX5 66 yX5_passLetters, Cond.instanceMethod yX5_passLetters, Cond.selects RX5 yX5_passLetters yX5_passLetters, Cond.code yX5_passLetters cX5_passLetters 5 none, Cond.methodLink RX5 70 yX5_areSame, Cond.instanceMethod yX5_areSame, Cond.selects RX5 yX5_areSame yX5_areSame]
def wsX5_seek_r6 : List Cond := [Cond.code yX5_areSame cX5_areSame 5 (some .boolean), Cond.methodLink RX5 100 yX5_hasSignature, Cond.instanceMethod yX5_hasSignature, Cond.selects RX5 yX5_hasSignature yX5_hasSignature, Cond.code yX5_hasSignature cX5_hasSignature 8 (some .boolean), Cond.methodLink RX5 38 yX5_mixOf, Cond.instanceMethod yX5_mixOf, Cond.selects RX5 yX5_mixOf yX5_mixOf, Cond.code yX5_mixOf cX5_mixOf 6 (some .int), Cond.constant RX5 36 (-1640531527), Cond.constant RX5 37 (16777619)]
def wsX5_seek : List Cond := .code yX5_seek cX5_seek 4 (some .int) :: ((wsX5_seek_r1 ++ (wsX5_seek_r2 ++ (wsX5_seek_r3 ++ (wsX5_seek_r4 ++ (wsX5_seek_r5 ++ wsX5_seek_r6))))) ++ wsX50)
def wsX5_visits : List Cond := .code yX5_visits cX5_visits 1 (some .int) :: ([.fieldLink RX5 26 "TrustedUpdatesModel" "thrown" "I", .fieldLink RX5 171 "TrustedUpdatesModel" "visited" "I"] ++ wsX50)
def wsX5_install_r1 : List Cond := [Cond.fieldLink RX5 26 "TrustedUpdatesModel" "thrown" "I", Cond.fieldLink RX5 171 "TrustedUpdatesModel" "visited" "I", Cond.fieldLink RX5 162 "TrustedUpdatesModel" "foundLength" "I", Cond.fieldLink RX5 13 "TrustedUpdatesModel" "sizes" "[I", Cond.fieldLink RX5 165 "TrustedUpdatesModel" "foundDigest" "I", Cond.fieldLink RX5 200 "TrustedUpdatesModel" "installed" "I", Cond.methodLink RX5 194 yX5_wrongSeek, Cond.instanceMethod yX5_wrongSeek, Cond.selects RX5 yX5_wrongSeek yX5_wrongSeek, Cond.initialized RX5, Cond.code yX5_wrongSeek cX5_wrongSeek 4 (some .int), Cond.methodLink RX5 190 yX5_isName, Cond.static yX5_isName, Cond.code yX5_isName cX5_isName 5 (some .boolean), Cond.methodLink RX5 154 yX5_letter, Cond.static yX5_letter, Cond.code yX5_letter cX5_letter 3 (some .int), Cond.constantLong RX5 30 (255), Cond.methodLink RX5 136 yX5_stands, Cond.instanceMethod yX5_stands, Cond.selects RX5 yX5_stands yX5_stands, Cond.code yX5_stands cX5_stands 2 (some .boolean), Cond.fieldLink RX5 16 "TrustedUpdatesModel" "has" "[Z", Cond.methodLink RX5 109 yX5_isOver]
def wsX5_install_r2 : List Cond := [Cond.instanceMethod yX5_isOver, Cond.selects RX5 yX5_isOver yX5_isOver, Cond.code yX5_isOver cX5_isOver 2 (some .boolean), Cond.fieldLink RX5 106 "TrustedUpdatesModel" "clock" "I", Cond.methodLink RX5 103 yX5_endOf, Cond.instanceMethod yX5_endOf, Cond.selects RX5 yX5_endOf yX5_endOf, Cond.code yX5_endOf cX5_endOf 2 (some .int), Cond.fieldLink RX5 7 "TrustedUpdatesModel" "row" "[I", Cond.methodLink RX5 187 yX5_isFresh, Cond.instanceMethod yX5_isFresh, Cond.selects RX5 yX5_isFresh yX5_isFresh, Cond.code yX5_isFresh cX5_isFresh 2 (some .boolean), Cond.methodLink RX5 130 yX5_versionOf, Cond.instanceMethod yX5_versionOf, Cond.selects RX5 yX5_versionOf yX5_versionOf, Cond.code yX5_versionOf cX5_versionOf 2 (some .int), Cond.methodLink RX5 139 yX5_said, Cond.instanceMethod yX5_said, Cond.selects RX5 yX5_said yX5_said, Cond.code yX5_said cX5_said 6 (some .int), Cond.methodLink RX5 197 yX5_find, Cond.instanceMethod yX5_find, Cond.selects RX5 yX5_find yX5_find]
def wsX5_install_r3 : List Cond := [Cond.code yX5_find cX5_find 8 (some .int), Cond.fieldLink RX5 168 "TrustedUpdatesModel" "depth" "I", Cond.fieldLink RX5 174 "TrustedUpdatesModel" "seen" "I", Cond.fieldLink RX5 20 "TrustedUpdatesModel" "path" "[I", Cond.fieldLink RX5 23 "TrustedUpdatesModel" "going" "[I", Cond.methodLink RX5 177 yX5_visit, Cond.instanceMethod yX5_visit, Cond.selects RX5 yX5_visit yX5_visit, Cond.code yX5_visit cX5_visit 2 none, Cond.methodLink RX5 180 yX5_hasTarget, Cond.instanceMethod yX5_hasTarget, Cond.selects RX5 yX5_hasTarget yX5_hasTarget, Cond.code yX5_hasTarget cX5_hasTarget 7 (some .boolean), Cond.methodLink RX5 158 yX5_begins, Cond.instanceMethod yX5_begins, Cond.selects RX5 yX5_begins yX5_begins, Cond.code yX5_begins cX5_begins 7 (some .boolean), Cond.methodLink RX5 93 yX5_four, Cond.instanceMethod yX5_four, Cond.selects RX5 yX5_four yX5_four, Cond.code yX5_four cX5_four 2 (some .int), Cond.methodLink RX5 184 yX5_delegation, Cond.instanceMethod yX5_delegation, Cond.selects RX5 yX5_delegation yX5_delegation]
def wsX5_install_r4 : List Cond := [Cond.code yX5_delegation cX5_delegation 6 (some .int), Cond.methodLink RX5 127 yX5_isSigned, Cond.instanceMethod yX5_isSigned, Cond.selects RX5 yX5_isSigned yX5_isSigned, Cond.code yX5_isSigned cX5_isSigned 6 (some .boolean), Cond.methodLink RX5 97 yX5_isDocument, Cond.instanceMethod yX5_isDocument, Cond.selects RX5 yX5_isDocument yX5_isDocument, Cond.code yX5_isDocument cX5_isDocument 4 (some .boolean), Cond.fieldLink RX5 45 "TrustedUpdatesModel" "good" "Z", Cond.fieldLink RX5 49 "TrustedUpdatesModel" "at" "I", Cond.fieldLink RX5 52 "TrustedUpdatesModel" "end" "I", Cond.methodLink RX5 89 yX5_passSigned, Cond.instanceMethod yX5_passSigned, Cond.selects RX5 yX5_passSigned yX5_passSigned, Cond.code yX5_passSigned cX5_passSigned 3 (some .boolean), Cond.fieldLink RX5 86 "TrustedUpdatesModel" "signed" "I", Cond.methodLink RX5 62 yX5_between, Cond.instanceMethod yX5_between, Cond.selects RX5 yX5_between yX5_between, Cond.code yX5_between cX5_between 4 (some .int), Cond.methodLink RX5 55 yX5_next, Cond.instanceMethod yX5_next, Cond.selects RX5 yX5_next yX5_next]
def wsX5_install_r5 : List Cond := [Cond.code yX5_next cX5_next 2 (some .int), Cond.methodLink RX5 74 yX5_skip, Cond.instanceMethod yX5_skip, Cond.selects RX5 yX5_skip yX5_skip, Cond.code yX5_skip cX5_skip 2 none, Cond.methodLink RX5 83 yX5_passBody, Cond.instanceMethod yX5_passBody, Cond.selects RX5 yX5_passBody yX5_passBody, Cond.code yX5_passBody cX5_passBody 5 none, Cond.methodLink RX5 77 yX5_passKeys, Cond.instanceMethod yX5_passKeys, Cond.selects RX5 yX5_passKeys yX5_passKeys, Cond.code yX5_passKeys cX5_passKeys 5 none, Cond.fieldLink RX5 59 "TrustedUpdatesModel" "keySet" "I", Cond.methodLink RX5 80 yX5_passTargets, Cond.instanceMethod yX5_passTargets, Cond.selects RX5 yX5_passTargets yX5_passTargets, Cond.code yX5_passTargets cX5_passTargets 6 none, Cond.methodLink RX5 66 yX5_passLetters, Cond.instanceMethod yX5_passLetters, Cond.selects RX5 yX5_passLetters yX5_passLetters, Cond.code yX5_passLetters cX5_passLetters 5 none, Cond.methodLink RX5 70 yX5_areSame, Cond.instanceMethod yX5_areSame]
def wsX5_install_r6 : List Cond := [Cond.selects RX5 yX5_areSame yX5_areSame, Cond.code yX5_areSame cX5_areSame 5 (some .boolean), Cond.methodLink RX5 100 yX5_hasSignature, Cond.instanceMethod yX5_hasSignature, Cond.selects RX5 yX5_hasSignature yX5_hasSignature, Cond.code yX5_hasSignature cX5_hasSignature 8 (some .boolean), Cond.methodLink RX5 38 yX5_mixOf, Cond.instanceMethod yX5_mixOf, Cond.selects RX5 yX5_mixOf yX5_mixOf, Cond.code yX5_mixOf cX5_mixOf 6 (some .int), Cond.constant RX5 36 (-1640531527), Cond.constant RX5 37 (16777619)]
def wsX5_install : List Cond := .code yX5_install cX5_install 6 (some .int) :: ((wsX5_install_r1 ++ (wsX5_install_r2 ++ (wsX5_install_r3 ++ (wsX5_install_r4 ++ (wsX5_install_r5 ++ wsX5_install_r6))))) ++ wsX50)
def wsX5_installed : List Cond := .code yX5_installed cX5_installed 1 (some .int) :: ([.fieldLink RX5 26 "TrustedUpdatesModel" "thrown" "I", .fieldLink RX5 200 "TrustedUpdatesModel" "installed" "I"] ++ wsX50)
def wsL_at : List Cond := .codeWith yL_at cL_at 4 (some .int) [(0, 9, 12, 13)] :: ([.classLink RL 13 "java/lang/IndexOutOfBoundsException", .methodLink RL 7 yX4_at, .instanceMethod yX4_at, .selects RX4 yX4_at yX4_at, .initialized RX4, .code yX4_at cX4_at 2 (some .int), .classLink RX4 66 "java/lang/IndexOutOfBoundsException", .initialized "java/lang/IndexOutOfBoundsException", .fieldLink RX4 14 "TrustedUpdates" "draft" "LTrustedUpdates$Row;", .methodLink RX4 59 yX1_has, .instanceMethod yX1_has, .selects RX1 yX1_has yX1_has, .initialized RX1, .code yX1_has cX1_has 2 (some .boolean), .fieldLink RX1 15 "TrustedUpdates$Row" "size" "I", .methodLink RX4 69 yX1_byteAt, .instanceMethod yX1_byteAt, .selects RX1 yX1_byteAt yX1_byteAt, .code yX1_byteAt cX1_byteAt 2 (some .int), .fieldLink RX1 9 "TrustedUpdates$Row" "bytes" "[I"] ++ wsX40 ++ wsX10 ++ (vx_at0 RX4 68 "java/lang/IndexOutOfBoundsException" ["java/lang/RuntimeException", "java/lang/Exception"]).filter goodWord)
def wsL_sign_r1 : List Cond := [Cond.classLink RL 13 "java/lang/IndexOutOfBoundsException", Cond.classLink RL 18 "java/lang/IllegalArgumentException", Cond.classLink RL 20 "java/lang/UnsupportedOperationException", Cond.methodLink RL 15 yX4_sign, Cond.instanceMethod yX4_sign, Cond.selects RX4 yX4_sign yX4_sign, Cond.initialized RX4, Cond.code yX4_sign cX4_sign 5 (some .int), Cond.classLink RX4 66 "java/lang/IndexOutOfBoundsException", Cond.initialized "java/lang/IndexOutOfBoundsException", Cond.classLink RX4 94 "java/lang/IllegalArgumentException", Cond.initialized "java/lang/IllegalArgumentException", Cond.classLink RX4 100 "java/lang/UnsupportedOperationException", Cond.initialized "java/lang/UnsupportedOperationException", Cond.fieldLink RX4 24 "TrustedUpdates" "offered" "LTrustedUpdates$Document;", Cond.fieldLink RX4 14 "TrustedUpdates" "draft" "LTrustedUpdates$Row;", Cond.methodLink RX4 83 yX0_read, Cond.instanceMethod yX0_read, Cond.selects RX0 yX0_read yX0_read, Cond.initialized RX0, Cond.code yX0_read cX0_read 2 none, Cond.fieldLink RX0 14 "TrustedUpdates$Document" "row" "LTrustedUpdates$Row;", Cond.fieldLink RX0 61 "TrustedUpdates$Document" "place" "I", Cond.fieldLink RX0 64 "TrustedUpdates$Document" "sound" "Z"]
def wsL_sign_r2 : List Cond := [Cond.fieldLink RX0 50 "TrustedUpdates$Document" "signedSize" "I", Cond.fieldLink RX0 37 "TrustedUpdates$Document" "bare" "Z", Cond.fieldLink RX0 33 "TrustedUpdates$Document" "whole" "Z", Cond.methodLink RX0 57 yX1_become, Cond.instanceMethod yX1_become, Cond.selects RX1 yX1_become yX1_become, Cond.initialized RX1, Cond.code yX1_become cX1_become 2 none, Cond.fieldLink RX1 15 "TrustedUpdates$Row" "size" "I", Cond.fieldLink RX1 9 "TrustedUpdates$Row" "bytes" "[I", Cond.methodLink RX1 23 arraycopyName, Cond.native arraycopyName, Cond.static arraycopyName, Cond.initialized "java/lang/System", Cond.methodLink RX0 67 yX0_readSigned, Cond.instanceMethod yX0_readSigned, Cond.selects RX0 yX0_readSigned yX0_readSigned, Cond.code yX0_readSigned cX0_readSigned 2 none, Cond.fieldLink RX0 40 "TrustedUpdates$Document" "role" "I", Cond.fieldLink RX0 44 "TrustedUpdates$Document" "version" "I", Cond.fieldLink RX0 47 "TrustedUpdates$Document" "end" "I", Cond.methodLink RX0 77 yX0_next, Cond.instanceMethod yX0_next, Cond.selects RX0 yX0_next yX0_next]
def wsL_sign_r3 : List Cond := [Cond.code yX0_next cX0_next 4 (some .int), Cond.methodLink RX0 53 yX1_byteAt, Cond.instanceMethod yX1_byteAt, Cond.selects RX1 yX1_byteAt yX1_byteAt, Cond.code yX1_byteAt cX1_byteAt 2 (some .int), Cond.methodLink RX0 81 yX0_readRootKeySets, Cond.instanceMethod yX0_readRootKeySets, Cond.selects RX0 yX0_readRootKeySets yX0_readRootKeySets, Cond.code yX0_readRootKeySets cX0_readRootKeySets 2 none, Cond.fieldLink RX0 20 "TrustedUpdates$Document" "keySets" "[I", Cond.methodLink RX0 96 yX0_readKeySet, Cond.instanceMethod yX0_readKeySet, Cond.selects RX0 yX0_readKeySet yX0_readKeySet, Cond.code yX0_readKeySet cX0_readKeySet 5 none, Cond.methodLink RX0 84 yX0_skip, Cond.instanceMethod yX0_skip, Cond.selects RX0 yX0_skip yX0_skip, Cond.code yX0_skip cX0_skip 3 none, Cond.methodLink RX0 87 yX0_readEntries, Cond.instanceMethod yX0_readEntries, Cond.selects RX0 yX0_readEntries yX0_readEntries, Cond.code yX0_readEntries cX0_readEntries 7 none, Cond.fieldLink RX0 24 "TrustedUpdates$Document" "versions" "[I", Cond.methodLink RX0 90 yX0_readTargets]
def wsL_sign_r4 : List Cond := [Cond.instanceMethod yX0_readTargets, Cond.selects RX0 yX0_readTargets yX0_readTargets, Cond.code yX0_readTargets cX0_readTargets 2 none, Cond.fieldLink RX0 99 "TrustedUpdates$Document" "targetCount" "I", Cond.fieldLink RX0 27 "TrustedUpdates$Document" "targets" "[I", Cond.methodLink RX0 102 yX0_readLetters, Cond.instanceMethod yX0_readLetters, Cond.selects RX0 yX0_readLetters yX0_readLetters, Cond.code yX0_readLetters cX0_readLetters 5 none, Cond.methodLink RX0 106 yX0_isNamedAsEarlier, Cond.instanceMethod yX0_isNamedAsEarlier, Cond.selects RX0 yX0_isNamedAsEarlier yX0_isNamedAsEarlier, Cond.code yX0_isNamedAsEarlier cX0_isNamedAsEarlier 3 (some .boolean), Cond.methodLink RX0 110 yX1_agrees, Cond.instanceMethod yX1_agrees, Cond.selects RX1 yX1_agrees yX1_agrees, Cond.code yX1_agrees cX1_agrees 7 (some .boolean), Cond.methodLink RX1 35 yX1_byteAt, Cond.methodLink RX0 93 yX0_readDelegations, Cond.instanceMethod yX0_readDelegations, Cond.selects RX0 yX0_readDelegations yX0_readDelegations, Cond.code yX0_readDelegations cX0_readDelegations 4 none, Cond.fieldLink RX0 114 "TrustedUpdates$Document" "delegationCount" "I", Cond.fieldLink RX0 30 "TrustedUpdates$Document" "delegations" "[I"]
def wsL_sign_r5 : List Cond := [Cond.methodLink RX0 70 yX1_size, Cond.instanceMethod yX1_size, Cond.selects RX1 yX1_size yX1_size, Cond.code yX1_size cX1_size 1 (some .int), Cond.methodLink RX0 74 yX0_readSignatures, Cond.instanceMethod yX0_readSignatures, Cond.selects RX0 yX0_readSignatures yX0_readSignatures, Cond.code yX0_readSignatures cX0_readSignatures 3 none, Cond.methodLink RX4 87 yX0_isBare, Cond.instanceMethod yX0_isBare, Cond.selects RX0 yX0_isBare yX0_isBare, Cond.code yX0_isBare cX0_isBare 1 (some .boolean), Cond.methodLink RX4 91 yX0_isWhole, Cond.instanceMethod yX0_isWhole, Cond.selects RX0 yX0_isWhole yX0_isWhole, Cond.code yX0_isWhole cX0_isWhole 1 (some .boolean), Cond.methodLink RX4 97 yX0_signatureCount, Cond.instanceMethod yX0_signatureCount, Cond.selects RX0 yX0_signatureCount yX0_signatureCount, Cond.code yX0_signatureCount cX0_signatureCount 1 (some .int), Cond.methodLink RX4 44 yX1_hasRoomFor, Cond.instanceMethod yX1_hasRoomFor, Cond.selects RX1 yX1_hasRoomFor yX1_hasRoomFor, Cond.code yX1_hasRoomFor cX1_hasRoomFor 2 (some .boolean)]
def wsL_sign_r6 : List Cond := [Cond.methodLink RX4 103 yX1_append, Cond.instanceMethod yX1_append, Cond.selects RX1 yX1_append yX1_append, Cond.code yX1_append cX1_append 2 none, Cond.methodLink RX4 106 yX0_signedSize, Cond.instanceMethod yX0_signedSize, Cond.selects RX0 yX0_signedSize yX0_signedSize, Cond.code yX0_signedSize cX0_signedSize 1 (some .int), Cond.methodLink RX4 62 yX1_replace, Cond.instanceMethod yX1_replace, Cond.selects RX1 yX1_replace yX1_replace, Cond.code yX1_replace cX1_replace 3 none, Cond.methodLink RX4 109 yX0_signatureOf, Cond.instanceMethod yX0_signatureOf, Cond.selects RX0 yX0_signatureOf yX0_signatureOf, Cond.code yX0_signatureOf cX0_signatureOf 2 (some .int), Cond.methodLink RX0 117 yX1_mixOfFirst, Cond.instanceMethod yX1_mixOfFirst, Cond.selects RX1 yX1_mixOfFirst yX1_mixOfFirst, Cond.code yX1_mixOfFirst cX1_mixOfFirst 5 (some .int), Cond.constant RX1 29 (-1640531527), Cond.constant RX1 30 (16777619), Cond.methodLink RX4 80 yX1_appendWord, Cond.instanceMethod yX1_appendWord]
def wsL_sign_r7 : List Cond := [Cond.selects RX1 yX1_appendWord yX1_appendWord, Cond.code yX1_appendWord cX1_appendWord 2 none, Cond.methodLink RX1 19 yX1_append]
def wsL_sign : List Cond := .codeWith yL_sign cL_sign 4 (some .int) [(0, 9, 12, 13), (0, 9, 15, 18), (0, 9, 18, 20)] :: ((wsL_sign_r1 ++ (wsL_sign_r2 ++ (wsL_sign_r3 ++ (wsL_sign_r4 ++ (wsL_sign_r5 ++ (wsL_sign_r6 ++ wsL_sign_r7)))))) ++ wsX40 ++ wsX00 ++ wsX10 ++ (vx_at0 RX4 68 "java/lang/IndexOutOfBoundsException" ["java/lang/RuntimeException", "java/lang/Exception"]).filter goodWord ++ (vx_at0 RX4 96 "java/lang/IllegalArgumentException" ["java/lang/RuntimeException", "java/lang/Exception"]).filter goodWord ++ (vx_at0 RX4 102 "java/lang/UnsupportedOperationException" ["java/lang/RuntimeException", "java/lang/Exception"]).filter goodWord)
def wsL_tick : List Cond := .codeWith yL_tick cL_tick 4 (some .int) [(0, 9, 12, 18)] :: ([.classLink RL 18 "java/lang/IllegalArgumentException", .methodLink RL 22 yX4_tick, .instanceMethod yX4_tick, .selects RX4 yX4_tick yX4_tick, .initialized RX4, .code yX4_tick cX4_tick 2 (some .int), .classLink RX4 94 "java/lang/IllegalArgumentException", .initialized "java/lang/IllegalArgumentException", .fieldLink RX4 31 "TrustedUpdates" "trust" "LTrustedUpdates$Trust;", .methodLink RX4 115 yX3_advanceClock, .instanceMethod yX3_advanceClock, .selects RX3 yX3_advanceClock yX3_advanceClock, .initialized RX3, .code yX3_advanceClock cX3_advanceClock 2 (some .int), .fieldLink RX3 22 "TrustedUpdates$Trust" "clock" "I"] ++ wsX40 ++ wsX30 ++ (vx_at0 RX4 96 "java/lang/IllegalArgumentException" ["java/lang/RuntimeException", "java/lang/Exception"]).filter goodWord)
def wsL_begin_r1 : List Cond := [Cond.classLink RL 18 "java/lang/IllegalArgumentException", Cond.methodLink RL 25 yX4_begin, Cond.instanceMethod yX4_begin, Cond.selects RX4 yX4_begin yX4_begin, Cond.initialized RX4, Cond.code yX4_begin cX4_begin 1 none, Cond.classLink RX4 94 "java/lang/IllegalArgumentException", Cond.initialized "java/lang/IllegalArgumentException", Cond.fieldLink RX4 24 "TrustedUpdates" "offered" "LTrustedUpdates$Document;", Cond.fieldLink RX4 14 "TrustedUpdates" "draft" "LTrustedUpdates$Row;", Cond.fieldLink RX4 31 "TrustedUpdates" "trust" "LTrustedUpdates$Trust;", Cond.methodLink RX4 83 yX0_read, Cond.instanceMethod yX0_read, Cond.selects RX0 yX0_read yX0_read, Cond.initialized RX0, Cond.code yX0_read cX0_read 2 none, Cond.fieldLink RX0 14 "TrustedUpdates$Document" "row" "LTrustedUpdates$Row;", Cond.fieldLink RX0 61 "TrustedUpdates$Document" "place" "I", Cond.fieldLink RX0 64 "TrustedUpdates$Document" "sound" "Z", Cond.fieldLink RX0 50 "TrustedUpdates$Document" "signedSize" "I", Cond.fieldLink RX0 37 "TrustedUpdates$Document" "bare" "Z", Cond.fieldLink RX0 33 "TrustedUpdates$Document" "whole" "Z", Cond.methodLink RX0 57 yX1_become, Cond.instanceMethod yX1_become]
def wsL_begin_r2 : List Cond := [Cond.selects RX1 yX1_become yX1_become, Cond.initialized RX1, Cond.code yX1_become cX1_become 2 none, Cond.fieldLink RX1 15 "TrustedUpdates$Row" "size" "I", Cond.fieldLink RX1 9 "TrustedUpdates$Row" "bytes" "[I", Cond.methodLink RX1 23 arraycopyName, Cond.native arraycopyName, Cond.static arraycopyName, Cond.initialized "java/lang/System", Cond.methodLink RX0 67 yX0_readSigned, Cond.instanceMethod yX0_readSigned, Cond.selects RX0 yX0_readSigned yX0_readSigned, Cond.code yX0_readSigned cX0_readSigned 2 none, Cond.fieldLink RX0 40 "TrustedUpdates$Document" "role" "I", Cond.fieldLink RX0 44 "TrustedUpdates$Document" "version" "I", Cond.fieldLink RX0 47 "TrustedUpdates$Document" "end" "I", Cond.methodLink RX0 77 yX0_next, Cond.instanceMethod yX0_next, Cond.selects RX0 yX0_next yX0_next, Cond.code yX0_next cX0_next 4 (some .int), Cond.methodLink RX0 53 yX1_byteAt, Cond.instanceMethod yX1_byteAt, Cond.selects RX1 yX1_byteAt yX1_byteAt, Cond.code yX1_byteAt cX1_byteAt 2 (some .int)]
def wsL_begin_r3 : List Cond := [Cond.methodLink RX0 81 yX0_readRootKeySets, Cond.instanceMethod yX0_readRootKeySets, Cond.selects RX0 yX0_readRootKeySets yX0_readRootKeySets, Cond.code yX0_readRootKeySets cX0_readRootKeySets 2 none, Cond.fieldLink RX0 20 "TrustedUpdates$Document" "keySets" "[I", Cond.methodLink RX0 96 yX0_readKeySet, Cond.instanceMethod yX0_readKeySet, Cond.selects RX0 yX0_readKeySet yX0_readKeySet, Cond.code yX0_readKeySet cX0_readKeySet 5 none, Cond.methodLink RX0 84 yX0_skip, Cond.instanceMethod yX0_skip, Cond.selects RX0 yX0_skip yX0_skip, Cond.code yX0_skip cX0_skip 3 none, Cond.methodLink RX0 87 yX0_readEntries, Cond.instanceMethod yX0_readEntries, Cond.selects RX0 yX0_readEntries yX0_readEntries, Cond.code yX0_readEntries cX0_readEntries 7 none, Cond.fieldLink RX0 24 "TrustedUpdates$Document" "versions" "[I", Cond.methodLink RX0 90 yX0_readTargets, Cond.instanceMethod yX0_readTargets, Cond.selects RX0 yX0_readTargets yX0_readTargets, Cond.code yX0_readTargets cX0_readTargets 2 none, Cond.fieldLink RX0 99 "TrustedUpdates$Document" "targetCount" "I", Cond.fieldLink RX0 27 "TrustedUpdates$Document" "targets" "[I"]
def wsL_begin_r4 : List Cond := [Cond.methodLink RX0 102 yX0_readLetters, Cond.instanceMethod yX0_readLetters, Cond.selects RX0 yX0_readLetters yX0_readLetters, Cond.code yX0_readLetters cX0_readLetters 5 none, Cond.methodLink RX0 106 yX0_isNamedAsEarlier, Cond.instanceMethod yX0_isNamedAsEarlier, Cond.selects RX0 yX0_isNamedAsEarlier yX0_isNamedAsEarlier, Cond.code yX0_isNamedAsEarlier cX0_isNamedAsEarlier 3 (some .boolean), Cond.methodLink RX0 110 yX1_agrees, Cond.instanceMethod yX1_agrees, Cond.selects RX1 yX1_agrees yX1_agrees, Cond.code yX1_agrees cX1_agrees 7 (some .boolean), Cond.methodLink RX1 35 yX1_byteAt, Cond.methodLink RX0 93 yX0_readDelegations, Cond.instanceMethod yX0_readDelegations, Cond.selects RX0 yX0_readDelegations yX0_readDelegations, Cond.code yX0_readDelegations cX0_readDelegations 4 none, Cond.fieldLink RX0 114 "TrustedUpdates$Document" "delegationCount" "I", Cond.fieldLink RX0 30 "TrustedUpdates$Document" "delegations" "[I", Cond.methodLink RX0 70 yX1_size, Cond.instanceMethod yX1_size, Cond.selects RX1 yX1_size yX1_size, Cond.code yX1_size cX1_size 1 (some .int), Cond.methodLink RX0 74 yX0_readSignatures]
def wsL_begin_r5 : List Cond := [Cond.instanceMethod yX0_readSignatures, Cond.selects RX0 yX0_readSignatures yX0_readSignatures, Cond.code yX0_readSignatures cX0_readSignatures 3 none, Cond.methodLink RX4 91 yX0_isWhole, Cond.instanceMethod yX0_isWhole, Cond.selects RX0 yX0_isWhole yX0_isWhole, Cond.code yX0_isWhole cX0_isWhole 1 (some .boolean), Cond.methodLink RX4 118 yX0_role, Cond.instanceMethod yX0_role, Cond.selects RX0 yX0_role yX0_role, Cond.code yX0_role cX0_role 1 (some .int), Cond.methodLink RX4 121 yX3_startFrom, Cond.instanceMethod yX3_startFrom, Cond.selects RX3 yX3_startFrom yX3_startFrom, Cond.initialized RX3, Cond.code yX3_startFrom cX3_startFrom 3 none, Cond.methodLink RX3 30 yX3_documentOf, Cond.instanceMethod yX3_documentOf, Cond.selects RX3 yX3_documentOf yX3_documentOf, Cond.code yX3_documentOf cX3_documentOf 2 (some (.object "TrustedUpdates$Document")), Cond.fieldLink RX3 18 "TrustedUpdates$Trust" "documents" "[LTrustedUpdates$Document;", Cond.fieldLink RX3 12 "TrustedUpdates$Trust" "none" "LTrustedUpdates$Document;", Cond.methodLink RX3 56 yX0_clear, Cond.instanceMethod yX0_clear]
def wsL_begin_r6 : List Cond := [Cond.selects RX0 yX0_clear yX0_clear, Cond.code yX0_clear cX0_clear 1 none, Cond.methodLink RX3 59 yX0_row, Cond.instanceMethod yX0_row, Cond.selects RX0 yX0_row yX0_row, Cond.code yX0_row cX0_row 1 (some (.object "TrustedUpdates$Row")), Cond.methodLink RX3 63 yX0_read]
def wsL_begin : List Cond := .codeWith yL_begin cL_begin 2 (some .int) [(0, 4, 7, 18)] :: ((wsL_begin_r1 ++ (wsL_begin_r2 ++ (wsL_begin_r3 ++ (wsL_begin_r4 ++ (wsL_begin_r5 ++ wsL_begin_r6))))) ++ wsX40 ++ wsX00 ++ wsX10 ++ wsX30 ++ (vx_at0 RX4 96 "java/lang/IllegalArgumentException" ["java/lang/RuntimeException", "java/lang/Exception"]).filter goodWord)
def wsL_offer_r1 : List Cond := [Cond.classLink RL 18 "java/lang/IllegalArgumentException", Cond.classLink RL 13 "java/lang/IndexOutOfBoundsException", Cond.classLink RL 32 "java/lang/IllegalStateException", Cond.classLink RL 20 "java/lang/UnsupportedOperationException", Cond.classLink RL 34 "java/util/NoSuchElementException", Cond.methodLink RL 28 yX4_offer, Cond.instanceMethod yX4_offer, Cond.selects RX4 yX4_offer yX4_offer, Cond.initialized RX4, Cond.code yX4_offer cX4_offer 1 (some .int), Cond.classLink RX4 94 "java/lang/IllegalArgumentException", Cond.initialized "java/lang/IllegalArgumentException", Cond.classLink RX4 66 "java/lang/IndexOutOfBoundsException", Cond.initialized "java/lang/IndexOutOfBoundsException", Cond.classLink RX4 132 "java/lang/IllegalStateException", Cond.initialized "java/lang/IllegalStateException", Cond.classLink RX4 100 "java/lang/UnsupportedOperationException", Cond.initialized "java/lang/UnsupportedOperationException", Cond.classLink RX4 141 "java/util/NoSuchElementException", Cond.initialized "java/util/NoSuchElementException", Cond.fieldLink RX4 24 "TrustedUpdates" "offered" "LTrustedUpdates$Document;", Cond.fieldLink RX4 14 "TrustedUpdates" "draft" "LTrustedUpdates$Row;", Cond.fieldLink RX4 31 "TrustedUpdates" "trust" "LTrustedUpdates$Trust;", Cond.methodLink RX4 83 yX0_read]
def wsL_offer_r2 : List Cond := [Cond.instanceMethod yX0_read, Cond.selects RX0 yX0_read yX0_read, Cond.initialized RX0, Cond.code yX0_read cX0_read 2 none, Cond.fieldLink RX0 14 "TrustedUpdates$Document" "row" "LTrustedUpdates$Row;", Cond.fieldLink RX0 61 "TrustedUpdates$Document" "place" "I", Cond.fieldLink RX0 64 "TrustedUpdates$Document" "sound" "Z", Cond.fieldLink RX0 50 "TrustedUpdates$Document" "signedSize" "I", Cond.fieldLink RX0 37 "TrustedUpdates$Document" "bare" "Z", Cond.fieldLink RX0 33 "TrustedUpdates$Document" "whole" "Z", Cond.methodLink RX0 57 yX1_become, Cond.instanceMethod yX1_become, Cond.selects RX1 yX1_become yX1_become, Cond.initialized RX1, Cond.code yX1_become cX1_become 2 none, Cond.fieldLink RX1 15 "TrustedUpdates$Row" "size" "I", Cond.fieldLink RX1 9 "TrustedUpdates$Row" "bytes" "[I", Cond.methodLink RX1 23 arraycopyName, Cond.native arraycopyName, Cond.static arraycopyName, Cond.initialized "java/lang/System", Cond.methodLink RX0 67 yX0_readSigned, Cond.instanceMethod yX0_readSigned, Cond.selects RX0 yX0_readSigned yX0_readSigned]
def wsL_offer_r3 : List Cond := [Cond.code yX0_readSigned cX0_readSigned 2 none, Cond.fieldLink RX0 40 "TrustedUpdates$Document" "role" "I", Cond.fieldLink RX0 44 "TrustedUpdates$Document" "version" "I", Cond.fieldLink RX0 47 "TrustedUpdates$Document" "end" "I", Cond.methodLink RX0 77 yX0_next, Cond.instanceMethod yX0_next, Cond.selects RX0 yX0_next yX0_next, Cond.code yX0_next cX0_next 4 (some .int), Cond.methodLink RX0 53 yX1_byteAt, Cond.instanceMethod yX1_byteAt, Cond.selects RX1 yX1_byteAt yX1_byteAt, Cond.code yX1_byteAt cX1_byteAt 2 (some .int), Cond.methodLink RX0 81 yX0_readRootKeySets, Cond.instanceMethod yX0_readRootKeySets, Cond.selects RX0 yX0_readRootKeySets yX0_readRootKeySets, Cond.code yX0_readRootKeySets cX0_readRootKeySets 2 none, Cond.fieldLink RX0 20 "TrustedUpdates$Document" "keySets" "[I", Cond.methodLink RX0 96 yX0_readKeySet, Cond.instanceMethod yX0_readKeySet, Cond.selects RX0 yX0_readKeySet yX0_readKeySet, Cond.code yX0_readKeySet cX0_readKeySet 5 none, Cond.methodLink RX0 84 yX0_skip, Cond.instanceMethod yX0_skip, Cond.selects RX0 yX0_skip yX0_skip]
def wsL_offer_r4 : List Cond := [Cond.code yX0_skip cX0_skip 3 none, Cond.methodLink RX0 87 yX0_readEntries, Cond.instanceMethod yX0_readEntries, Cond.selects RX0 yX0_readEntries yX0_readEntries, Cond.code yX0_readEntries cX0_readEntries 7 none, Cond.fieldLink RX0 24 "TrustedUpdates$Document" "versions" "[I", Cond.methodLink RX0 90 yX0_readTargets, Cond.instanceMethod yX0_readTargets, Cond.selects RX0 yX0_readTargets yX0_readTargets, Cond.code yX0_readTargets cX0_readTargets 2 none, Cond.fieldLink RX0 99 "TrustedUpdates$Document" "targetCount" "I", Cond.fieldLink RX0 27 "TrustedUpdates$Document" "targets" "[I", Cond.methodLink RX0 102 yX0_readLetters, Cond.instanceMethod yX0_readLetters, Cond.selects RX0 yX0_readLetters yX0_readLetters, Cond.code yX0_readLetters cX0_readLetters 5 none, Cond.methodLink RX0 106 yX0_isNamedAsEarlier, Cond.instanceMethod yX0_isNamedAsEarlier, Cond.selects RX0 yX0_isNamedAsEarlier yX0_isNamedAsEarlier, Cond.code yX0_isNamedAsEarlier cX0_isNamedAsEarlier 3 (some .boolean), Cond.methodLink RX0 110 yX1_agrees, Cond.instanceMethod yX1_agrees, Cond.selects RX1 yX1_agrees yX1_agrees, Cond.code yX1_agrees cX1_agrees 7 (some .boolean)]
def wsL_offer_r5 : List Cond := [Cond.methodLink RX1 35 yX1_byteAt, Cond.methodLink RX0 93 yX0_readDelegations, Cond.instanceMethod yX0_readDelegations, Cond.selects RX0 yX0_readDelegations yX0_readDelegations, Cond.code yX0_readDelegations cX0_readDelegations 4 none, Cond.fieldLink RX0 114 "TrustedUpdates$Document" "delegationCount" "I", Cond.fieldLink RX0 30 "TrustedUpdates$Document" "delegations" "[I", Cond.methodLink RX0 70 yX1_size, Cond.instanceMethod yX1_size, Cond.selects RX1 yX1_size yX1_size, Cond.code yX1_size cX1_size 1 (some .int), Cond.methodLink RX0 74 yX0_readSignatures, Cond.instanceMethod yX0_readSignatures, Cond.selects RX0 yX0_readSignatures yX0_readSignatures, Cond.code yX0_readSignatures cX0_readSignatures 3 none, Cond.methodLink RX4 91 yX0_isWhole, Cond.instanceMethod yX0_isWhole, Cond.selects RX0 yX0_isWhole yX0_isWhole, Cond.code yX0_isWhole cX0_isWhole 1 (some .boolean), Cond.methodLink RX4 118 yX0_role, Cond.instanceMethod yX0_role, Cond.selects RX0 yX0_role yX0_role, Cond.code yX0_role cX0_role 1 (some .int), Cond.methodLink RX4 125 yX3_hasGroundFor]
def wsL_offer_r6 : List Cond := [Cond.instanceMethod yX3_hasGroundFor, Cond.selects RX3 yX3_hasGroundFor yX3_hasGroundFor, Cond.initialized RX3, Cond.code yX3_hasGroundFor cX3_hasGroundFor 2 (some .boolean), Cond.methodLink RX3 30 yX3_documentOf, Cond.instanceMethod yX3_documentOf, Cond.selects RX3 yX3_documentOf yX3_documentOf, Cond.code yX3_documentOf cX3_documentOf 2 (some (.object "TrustedUpdates$Document")), Cond.fieldLink RX3 18 "TrustedUpdates$Trust" "documents" "[LTrustedUpdates$Document;", Cond.fieldLink RX3 12 "TrustedUpdates$Trust" "none" "LTrustedUpdates$Document;", Cond.methodLink RX3 34 yX0_isWhole, Cond.methodLink RX3 42 yX3_isInForce, Cond.instanceMethod yX3_isInForce, Cond.selects RX3 yX3_isInForce yX3_isInForce, Cond.code yX3_isInForce cX3_isInForce 3 (some .boolean), Cond.methodLink RX3 38 yX3_findsEnded, Cond.instanceMethod yX3_findsEnded, Cond.selects RX3 yX3_findsEnded yX3_findsEnded, Cond.code yX3_findsEnded cX3_findsEnded 2 (some .boolean), Cond.fieldLink RX3 22 "TrustedUpdates$Trust" "clock" "I", Cond.methodLink RX3 26 yX0_end, Cond.instanceMethod yX0_end, Cond.selects RX0 yX0_end yX0_end, Cond.code yX0_end cX0_end 1 (some .int)]
def wsL_offer_r7 : List Cond := [Cond.methodLink RX3 49 yX0_versionFor, Cond.instanceMethod yX0_versionFor, Cond.selects RX0 yX0_versionFor yX0_versionFor, Cond.code yX0_versionFor cX0_versionFor 2 (some .int), Cond.methodLink RX4 128 yX3_findsSigned, Cond.instanceMethod yX3_findsSigned, Cond.selects RX3 yX3_findsSigned yX3_findsSigned, Cond.code yX3_findsSigned cX3_findsSigned 3 (some .boolean), Cond.methodLink RX3 67 yX0_role, Cond.methodLink RX3 70 yX0_rootVouchesFor, Cond.instanceMethod yX0_rootVouchesFor, Cond.selects RX0 yX0_rootVouchesFor yX0_rootVouchesFor, Cond.code yX0_rootVouchesFor cX0_rootVouchesFor 3 (some .boolean), Cond.methodLink RX0 132 yX0_isSignedAsAsked, Cond.instanceMethod yX0_isSignedAsAsked, Cond.selects RX0 yX0_isSignedAsAsked yX0_isSignedAsAsked, Cond.code yX0_isSignedAsAsked cX0_isSignedAsAsked 7 (some .boolean), Cond.methodLink RX0 129 yX0_hasSignatureOf, Cond.instanceMethod yX0_hasSignatureOf, Cond.selects RX0 yX0_hasSignatureOf yX0_hasSignatureOf, Cond.code yX0_hasSignatureOf cX0_hasSignatureOf 6 (some .boolean), Cond.methodLink RX0 120 yX0_signatureOf, Cond.instanceMethod yX0_signatureOf, Cond.selects RX0 yX0_signatureOf yX0_signatureOf]
def wsL_offer_r8 : List Cond := [Cond.code yX0_signatureOf cX0_signatureOf 2 (some .int), Cond.methodLink RX0 117 yX1_mixOfFirst, Cond.instanceMethod yX1_mixOfFirst, Cond.selects RX1 yX1_mixOfFirst yX1_mixOfFirst, Cond.code yX1_mixOfFirst cX1_mixOfFirst 5 (some .int), Cond.constant RX1 29 (-1640531527), Cond.constant RX1 30 (16777619), Cond.methodLink RX0 123 yX0_signatureCount, Cond.instanceMethod yX0_signatureCount, Cond.selects RX0 yX0_signatureCount yX0_signatureCount, Cond.code yX0_signatureCount cX0_signatureCount 1 (some .int), Cond.methodLink RX0 126 yX1_wordAt, Cond.instanceMethod yX1_wordAt, Cond.selects RX1 yX1_wordAt yX1_wordAt, Cond.code yX1_wordAt cX1_wordAt 2 (some .int), Cond.methodLink RX4 135 yX3_findsVersionsRight, Cond.instanceMethod yX3_findsVersionsRight, Cond.selects RX3 yX3_findsVersionsRight yX3_findsVersionsRight, Cond.code yX3_findsVersionsRight cX3_findsVersionsRight 2 (some .boolean), Cond.methodLink RX3 46 yX0_version, Cond.instanceMethod yX0_version, Cond.selects RX0 yX0_version yX0_version, Cond.code yX0_version cX0_version 1 (some .int), Cond.methodLink RX3 74 yX3_isNoOlderStamp]
def wsL_offer_r9 : List Cond := [Cond.instanceMethod yX3_isNoOlderStamp, Cond.selects RX3 yX3_isNoOlderStamp yX3_isNoOlderStamp, Cond.code yX3_isNoOlderStamp cX3_isNoOlderStamp 3 (some .boolean), Cond.methodLink RX3 83 yX0_stampedVersion, Cond.instanceMethod yX0_stampedVersion, Cond.selects RX0 yX0_stampedVersion yX0_stampedVersion, Cond.code yX0_stampedVersion cX0_stampedVersion 1 (some .int), Cond.methodLink RX3 77 yX3_isAsStamped, Cond.instanceMethod yX3_isAsStamped, Cond.selects RX3 yX3_isAsStamped yX3_isAsStamped, Cond.code yX3_isAsStamped cX3_isAsStamped 3 (some .boolean), Cond.methodLink RX3 59 yX0_row, Cond.instanceMethod yX0_row, Cond.selects RX0 yX0_row yX0_row, Cond.code yX0_row cX0_row 1 (some (.object "TrustedUpdates$Row")), Cond.methodLink RX3 86 yX1_wholeDigest, Cond.instanceMethod yX1_wholeDigest, Cond.selects RX1 yX1_wholeDigest yX1_wholeDigest, Cond.code yX1_wholeDigest cX1_wholeDigest 1 (some .int), Cond.methodLink RX1 31 yX1_mixOfFirst, Cond.methodLink RX3 91 yX0_stampedDigest, Cond.instanceMethod yX0_stampedDigest, Cond.selects RX0 yX0_stampedDigest yX0_stampedDigest, Cond.code yX0_stampedDigest cX0_stampedDigest 1 (some .int)]
def wsL_offer_r10 : List Cond := [Cond.methodLink RX3 80 yX3_isNoOlderSnapshot, Cond.instanceMethod yX3_isNoOlderSnapshot, Cond.selects RX3 yX3_isNoOlderSnapshot yX3_isNoOlderSnapshot, Cond.code yX3_isNoOlderSnapshot cX3_isNoOlderSnapshot 4 (some .boolean), Cond.methodLink RX4 138 yX3_findsEnded, Cond.methodLink RX4 144 yX3_take, Cond.instanceMethod yX3_take, Cond.selects RX3 yX3_take yX3_take, Cond.code yX3_take cX3_take 2 none, Cond.methodLink RX3 94 yX3_changesOnlineKeys, Cond.instanceMethod yX3_changesOnlineKeys, Cond.selects RX3 yX3_changesOnlineKeys yX3_changesOnlineKeys, Cond.code yX3_changesOnlineKeys cX3_changesOnlineKeys 3 (some .boolean), Cond.methodLink RX3 97 yX0_hasKeySetOf, Cond.instanceMethod yX0_hasKeySetOf, Cond.selects RX0 yX0_hasKeySetOf yX0_hasKeySetOf, Cond.code yX0_hasKeySetOf cX0_hasKeySetOf 4 (some .boolean), Cond.methodLink RX3 56 yX0_clear, Cond.instanceMethod yX0_clear, Cond.selects RX0 yX0_clear yX0_clear, Cond.code yX0_clear cX0_clear 1 none, Cond.methodLink RX3 63 yX0_read]
def wsL_offer : List Cond := .codeWith yL_offer cL_offer 3 (some .int) [(0, 8, 11, 18), (0, 8, 14, 13), (0, 8, 17, 32), (0, 8, 20, 20), (0, 8, 23, 34)] :: ((wsL_offer_r1 ++ (wsL_offer_r2 ++ (wsL_offer_r3 ++ (wsL_offer_r4 ++ (wsL_offer_r5 ++ (wsL_offer_r6 ++ (wsL_offer_r7 ++ (wsL_offer_r8 ++ (wsL_offer_r9 ++ wsL_offer_r10))))))))) ++ wsX40 ++ wsX00 ++ wsX10 ++ wsX30 ++ (vx_at0 RX4 96 "java/lang/IllegalArgumentException" ["java/lang/RuntimeException", "java/lang/Exception"]).filter goodWord ++ (vx_at0 RX4 68 "java/lang/IndexOutOfBoundsException" ["java/lang/RuntimeException", "java/lang/Exception"]).filter goodWord ++ (vx_at0 RX4 134 "java/lang/IllegalStateException" ["java/lang/RuntimeException", "java/lang/Exception"]).filter goodWord ++ (vx_at0 RX4 102 "java/lang/UnsupportedOperationException" ["java/lang/RuntimeException", "java/lang/Exception"]).filter goodWord ++ (vx_at0 RX4 143 "java/util/NoSuchElementException" ["java/lang/RuntimeException", "java/lang/Exception"]).filter goodWord)
def wsL_trusted_r1 : List Cond := [Cond.classLink RL 13 "java/lang/IndexOutOfBoundsException", Cond.methodLink RL 36 yX4_trusted, Cond.instanceMethod yX4_trusted, Cond.selects RX4 yX4_trusted yX4_trusted, Cond.initialized RX4, Cond.code yX4_trusted cX4_trusted 4 (some .int), Cond.classLink RX4 66 "java/lang/IndexOutOfBoundsException", Cond.initialized "java/lang/IndexOutOfBoundsException", Cond.fieldLink RX4 31 "TrustedUpdates" "trust" "LTrustedUpdates$Trust;", Cond.methodLink RX4 147 yX3_documentOf, Cond.instanceMethod yX3_documentOf, Cond.selects RX3 yX3_documentOf yX3_documentOf, Cond.initialized RX3, Cond.code yX3_documentOf cX3_documentOf 2 (some (.object "TrustedUpdates$Document")), Cond.fieldLink RX3 18 "TrustedUpdates$Trust" "documents" "[LTrustedUpdates$Document;", Cond.fieldLink RX3 12 "TrustedUpdates$Trust" "none" "LTrustedUpdates$Document;", Cond.methodLink RX4 91 yX0_isWhole, Cond.instanceMethod yX0_isWhole, Cond.selects RX0 yX0_isWhole yX0_isWhole, Cond.initialized RX0, Cond.code yX0_isWhole cX0_isWhole 1 (some .boolean), Cond.fieldLink RX0 33 "TrustedUpdates$Document" "whole" "Z", Cond.methodLink RX4 151 yX0_end, Cond.instanceMethod yX0_end]
def wsL_trusted_r2 : List Cond := [Cond.selects RX0 yX0_end yX0_end, Cond.code yX0_end cX0_end 1 (some .int), Cond.fieldLink RX0 47 "TrustedUpdates$Document" "end" "I", Cond.methodLink RX4 154 yX0_version, Cond.instanceMethod yX0_version, Cond.selects RX0 yX0_version yX0_version, Cond.code yX0_version cX0_version 1 (some .int), Cond.fieldLink RX0 44 "TrustedUpdates$Document" "version" "I"]
def wsL_trusted : List Cond := .codeWith yL_trusted cL_trusted 5 (some .int) [(0, 10, 13, 13)] :: ((wsL_trusted_r1 ++ wsL_trusted_r2) ++ wsX40 ++ wsX30 ++ wsX00 ++ (vx_at0 RX4 68 "java/lang/IndexOutOfBoundsException" ["java/lang/RuntimeException", "java/lang/Exception"]).filter goodWord)
def wsL_seek_r1 : List Cond := [Cond.classLink RL 18 "java/lang/IllegalArgumentException", Cond.classLink RL 32 "java/lang/IllegalStateException", Cond.methodLink RL 40 yX4_seek, Cond.instanceMethod yX4_seek, Cond.selects RX4 yX4_seek yX4_seek, Cond.initialized RX4, Cond.code yX4_seek cX4_seek 4 (some .int), Cond.fieldLink RX4 40 "TrustedUpdates" "search" "LTrustedUpdates$Search;", Cond.fieldLink RX4 166 "TrustedUpdates" "latestVisits" "I", Cond.methodLink RX4 157 yX4_refuseUnlessSearchable, Cond.instanceMethod yX4_refuseUnlessSearchable, Cond.selects RX4 yX4_refuseUnlessSearchable yX4_refuseUnlessSearchable, Cond.code yX4_refuseUnlessSearchable cX4_refuseUnlessSearchable 4 none, Cond.classLink RX4 94 "java/lang/IllegalArgumentException", Cond.initialized "java/lang/IllegalArgumentException", Cond.classLink RX4 132 "java/lang/IllegalStateException", Cond.initialized "java/lang/IllegalStateException", Cond.fieldLink RX4 31 "TrustedUpdates" "trust" "LTrustedUpdates$Trust;", Cond.methodLink RX4 180 yX4_isName, Cond.static yX4_isName, Cond.code yX4_isName cX4_isName 5 (some .boolean), Cond.methodLink RX4 184 yX3_allowsSeeking, Cond.instanceMethod yX3_allowsSeeking, Cond.selects RX3 yX3_allowsSeeking yX3_allowsSeeking]
def wsL_seek_r2 : List Cond := [Cond.initialized RX3, Cond.code yX3_allowsSeeking cX3_allowsSeeking 1 (some .boolean), Cond.methodLink RX3 42 yX3_isInForce, Cond.instanceMethod yX3_isInForce, Cond.selects RX3 yX3_isInForce yX3_isInForce, Cond.code yX3_isInForce cX3_isInForce 3 (some .boolean), Cond.methodLink RX3 30 yX3_documentOf, Cond.instanceMethod yX3_documentOf, Cond.selects RX3 yX3_documentOf yX3_documentOf, Cond.code yX3_documentOf cX3_documentOf 2 (some (.object "TrustedUpdates$Document")), Cond.fieldLink RX3 18 "TrustedUpdates$Trust" "documents" "[LTrustedUpdates$Document;", Cond.fieldLink RX3 12 "TrustedUpdates$Trust" "none" "LTrustedUpdates$Document;", Cond.methodLink RX3 34 yX0_isWhole, Cond.instanceMethod yX0_isWhole, Cond.selects RX0 yX0_isWhole yX0_isWhole, Cond.initialized RX0, Cond.code yX0_isWhole cX0_isWhole 1 (some .boolean), Cond.fieldLink RX0 33 "TrustedUpdates$Document" "whole" "Z", Cond.methodLink RX3 38 yX3_findsEnded, Cond.instanceMethod yX3_findsEnded, Cond.selects RX3 yX3_findsEnded yX3_findsEnded, Cond.code yX3_findsEnded cX3_findsEnded 2 (some .boolean), Cond.fieldLink RX3 22 "TrustedUpdates$Trust" "clock" "I", Cond.methodLink RX3 26 yX0_end]
def wsL_seek_r3 : List Cond := [Cond.instanceMethod yX0_end, Cond.selects RX0 yX0_end yX0_end, Cond.code yX0_end cX0_end 1 (some .int), Cond.fieldLink RX0 47 "TrustedUpdates$Document" "end" "I", Cond.methodLink RX3 53 yX3_isFresh, Cond.instanceMethod yX3_isFresh, Cond.selects RX3 yX3_isFresh yX3_isFresh, Cond.code yX3_isFresh cX3_isFresh 2 (some .boolean), Cond.methodLink RX3 46 yX0_version, Cond.instanceMethod yX0_version, Cond.selects RX0 yX0_version yX0_version, Cond.code yX0_version cX0_version 1 (some .int), Cond.fieldLink RX0 44 "TrustedUpdates$Document" "version" "I", Cond.methodLink RX3 49 yX0_versionFor, Cond.instanceMethod yX0_versionFor, Cond.selects RX0 yX0_versionFor yX0_versionFor, Cond.code yX0_versionFor cX0_versionFor 2 (some .int), Cond.fieldLink RX0 24 "TrustedUpdates$Document" "versions" "[I", Cond.methodLink RX4 160 yX2_run, Cond.instanceMethod yX2_run, Cond.selects RX2 yX2_run yX2_run, Cond.initialized RX2, Cond.code yX2_run cX2_run 4 none, Cond.fieldLink RX2 20 "TrustedUpdates$Search" "name" "LTrustedUpdates$Row;"]
def wsL_seek_r4 : List Cond := [Cond.fieldLink RX2 67 "TrustedUpdates$Search" "visitedRoles" "I", Cond.fieldLink RX2 24 "TrustedUpdates$Search" "visitCount" "I", Cond.fieldLink RX2 28 "TrustedUpdates$Search" "foundRole" "I", Cond.fieldLink RX2 70 "TrustedUpdates$Search" "over" "Z", Cond.methodLink RX2 60 yX1_keepFirst, Cond.instanceMethod yX1_keepFirst, Cond.selects RX1 yX1_keepFirst yX1_keepFirst, Cond.initialized RX1, Cond.code yX1_keepFirst cX1_keepFirst 2 none, Cond.fieldLink RX1 15 "TrustedUpdates$Row" "size" "I", Cond.methodLink RX2 63 yX1_appendLowest, Cond.instanceMethod yX1_appendLowest, Cond.selects RX1 yX1_appendLowest yX1_appendLowest, Cond.code yX1_appendLowest cX1_appendLowest 5 none, Cond.methodLink RX1 19 yX1_append, Cond.instanceMethod yX1_append, Cond.selects RX1 yX1_append yX1_append, Cond.code yX1_append cX1_append 2 none, Cond.fieldLink RX1 9 "TrustedUpdates$Row" "bytes" "[I", Cond.methodLink RX2 74 yX2_visit, Cond.instanceMethod yX2_visit, Cond.selects RX2 yX2_visit yX2_visit, Cond.code yX2_visit cX2_visit 5 none, Cond.fieldLink RX2 9 "TrustedUpdates$Search" "trust" "LTrustedUpdates$Trust;"]
def wsL_seek_r5 : List Cond := [Cond.fieldLink RX2 43 "TrustedUpdates$Search" "foundPlace" "I", Cond.methodLink RX2 31 yX3_documentOf, Cond.methodLink RX2 78 yX0_targetNamed, Cond.instanceMethod yX0_targetNamed, Cond.selects RX0 yX0_targetNamed yX0_targetNamed, Cond.code yX0_targetNamed cX0_targetNamed 4 (some .int), Cond.fieldLink RX0 99 "TrustedUpdates$Document" "targetCount" "I", Cond.fieldLink RX0 27 "TrustedUpdates$Document" "targets" "[I", Cond.fieldLink RX0 14 "TrustedUpdates$Document" "row" "LTrustedUpdates$Row;", Cond.methodLink RX0 53 yX1_byteAt, Cond.instanceMethod yX1_byteAt, Cond.selects RX1 yX1_byteAt yX1_byteAt, Cond.code yX1_byteAt cX1_byteAt 2 (some .int), Cond.methodLink RX0 70 yX1_size, Cond.instanceMethod yX1_size, Cond.selects RX1 yX1_size yX1_size, Cond.code yX1_size cX1_size 1 (some .int), Cond.methodLink RX0 110 yX1_agrees, Cond.instanceMethod yX1_agrees, Cond.selects RX1 yX1_agrees yX1_agrees, Cond.code yX1_agrees cX1_agrees 7 (some .boolean), Cond.methodLink RX1 35 yX1_byteAt, Cond.methodLink RX2 82 yX0_delegationCount, Cond.instanceMethod yX0_delegationCount]
def wsL_seek_r6 : List Cond := [Cond.selects RX0 yX0_delegationCount yX0_delegationCount, Cond.code yX0_delegationCount cX0_delegationCount 1 (some .int), Cond.fieldLink RX0 114 "TrustedUpdates$Document" "delegationCount" "I", Cond.methodLink RX2 85 yX2_mayFollow, Cond.instanceMethod yX2_mayFollow, Cond.selects RX2 yX2_mayFollow yX2_mayFollow, Cond.code yX2_mayFollow cX2_mayFollow 4 (some .boolean), Cond.methodLink RX2 89 yX0_delegateOf, Cond.instanceMethod yX0_delegateOf, Cond.selects RX0 yX0_delegateOf yX0_delegateOf, Cond.code yX0_delegateOf cX0_delegateOf 2 (some .int), Cond.methodLink RX0 136 yX0_delegationPlace, Cond.instanceMethod yX0_delegationPlace, Cond.selects RX0 yX0_delegationPlace yX0_delegationPlace, Cond.code yX0_delegationPlace cX0_delegationPlace 2 (some .int), Cond.fieldLink RX0 30 "TrustedUpdates$Document" "delegations" "[I", Cond.methodLink RX2 96 yX0_delegates, Cond.instanceMethod yX0_delegates, Cond.selects RX0 yX0_delegates yX0_delegates, Cond.code yX0_delegates cX0_delegates 5 (some .boolean), Cond.methodLink RX0 139 yX0_delegatedKeySet, Cond.instanceMethod yX0_delegatedKeySet, Cond.selects RX0 yX0_delegatedKeySet yX0_delegatedKeySet, Cond.code yX0_delegatedKeySet cX0_delegatedKeySet 2 (some .int)]
def wsL_seek_r7 : List Cond := [Cond.methodLink RX2 100 yX3_isFresh, Cond.methodLink RX2 37 yX0_row, Cond.instanceMethod yX0_row, Cond.selects RX0 yX0_row yX0_row, Cond.code yX0_row cX0_row 1 (some (.object "TrustedUpdates$Row")), Cond.methodLink RX2 103 yX0_delegatedKeySet, Cond.methodLink RX2 106 yX0_isSignedAsAsked, Cond.instanceMethod yX0_isSignedAsAsked, Cond.selects RX0 yX0_isSignedAsAsked yX0_isSignedAsAsked, Cond.code yX0_isSignedAsAsked cX0_isSignedAsAsked 7 (some .boolean), Cond.methodLink RX0 129 yX0_hasSignatureOf, Cond.instanceMethod yX0_hasSignatureOf, Cond.selects RX0 yX0_hasSignatureOf yX0_hasSignatureOf, Cond.code yX0_hasSignatureOf cX0_hasSignatureOf 6 (some .boolean), Cond.fieldLink RX0 50 "TrustedUpdates$Document" "signedSize" "I", Cond.methodLink RX0 120 yX0_signatureOf, Cond.instanceMethod yX0_signatureOf, Cond.selects RX0 yX0_signatureOf yX0_signatureOf, Cond.code yX0_signatureOf cX0_signatureOf 2 (some .int), Cond.methodLink RX0 117 yX1_mixOfFirst, Cond.instanceMethod yX1_mixOfFirst, Cond.selects RX1 yX1_mixOfFirst yX1_mixOfFirst, Cond.code yX1_mixOfFirst cX1_mixOfFirst 5 (some .int), Cond.constant RX1 29 (-1640531527)]
def wsL_seek_r8 : List Cond := [Cond.constant RX1 30 (16777619), Cond.methodLink RX0 123 yX0_signatureCount, Cond.instanceMethod yX0_signatureCount, Cond.selects RX0 yX0_signatureCount yX0_signatureCount, Cond.code yX0_signatureCount cX0_signatureCount 1 (some .int), Cond.methodLink RX0 126 yX1_wordAt, Cond.instanceMethod yX1_wordAt, Cond.selects RX1 yX1_wordAt yX1_wordAt, Cond.code yX1_wordAt cX1_wordAt 2 (some .int), Cond.methodLink RX2 92 yX0_isFinal, Cond.instanceMethod yX0_isFinal, Cond.selects RX0 yX0_isFinal yX0_isFinal, Cond.code yX0_isFinal cX0_isFinal 2 (some .boolean), Cond.methodLink RX4 163 yX2_visitCount, Cond.instanceMethod yX2_visitCount, Cond.selects RX2 yX2_visitCount yX2_visitCount, Cond.code yX2_visitCount cX2_visitCount 1 (some .int), Cond.methodLink RX4 170 yX2_foundRole, Cond.instanceMethod yX2_foundRole, Cond.selects RX2 yX2_foundRole yX2_foundRole, Cond.code yX2_foundRole cX2_foundRole 1 (some .int)]
def wsL_seek : List Cond := .codeWith yL_seek cL_seek 6 (some .int) [(0, 11, 14, 18), (0, 11, 18, 32)] :: ((wsL_seek_r1 ++ (wsL_seek_r2 ++ (wsL_seek_r3 ++ (wsL_seek_r4 ++ (wsL_seek_r5 ++ (wsL_seek_r6 ++ (wsL_seek_r7 ++ wsL_seek_r8))))))) ++ wsX40 ++ wsX30 ++ wsX00 ++ wsX20 ++ wsX10 ++ (vx_at0 RX4 96 "java/lang/IllegalArgumentException" ["java/lang/RuntimeException", "java/lang/Exception"]).filter goodWord ++ (vx_at0 RX4 134 "java/lang/IllegalStateException" ["java/lang/RuntimeException", "java/lang/Exception"]).filter goodWord)
def wsL_install_r1 : List Cond := [Cond.classLink RL 18 "java/lang/IllegalArgumentException", Cond.classLink RL 32 "java/lang/IllegalStateException", Cond.classLink RL 34 "java/util/NoSuchElementException", Cond.classLink RL 20 "java/lang/UnsupportedOperationException", Cond.methodLink RL 44 yX4_install, Cond.instanceMethod yX4_install, Cond.selects RX4 yX4_install yX4_install, Cond.initialized RX4, Cond.code yX4_install cX4_install 4 (some .int), Cond.classLink RX4 141 "java/util/NoSuchElementException", Cond.initialized "java/util/NoSuchElementException", Cond.classLink RX4 100 "java/lang/UnsupportedOperationException", Cond.initialized "java/lang/UnsupportedOperationException", Cond.fieldLink RX4 40 "TrustedUpdates" "search" "LTrustedUpdates$Search;", Cond.fieldLink RX4 18 "TrustedUpdates" "content" "LTrustedUpdates$Row;", Cond.fieldLink RX4 166 "TrustedUpdates" "latestVisits" "I", Cond.fieldLink RX4 177 "TrustedUpdates" "installs" "I", Cond.methodLink RX4 157 yX4_refuseUnlessSearchable, Cond.instanceMethod yX4_refuseUnlessSearchable, Cond.selects RX4 yX4_refuseUnlessSearchable yX4_refuseUnlessSearchable, Cond.code yX4_refuseUnlessSearchable cX4_refuseUnlessSearchable 4 none, Cond.classLink RX4 94 "java/lang/IllegalArgumentException", Cond.initialized "java/lang/IllegalArgumentException", Cond.classLink RX4 132 "java/lang/IllegalStateException"]
def wsL_install_r2 : List Cond := [Cond.initialized "java/lang/IllegalStateException", Cond.fieldLink RX4 31 "TrustedUpdates" "trust" "LTrustedUpdates$Trust;", Cond.methodLink RX4 180 yX4_isName, Cond.static yX4_isName, Cond.code yX4_isName cX4_isName 5 (some .boolean), Cond.methodLink RX4 184 yX3_allowsSeeking, Cond.instanceMethod yX3_allowsSeeking, Cond.selects RX3 yX3_allowsSeeking yX3_allowsSeeking, Cond.initialized RX3, Cond.code yX3_allowsSeeking cX3_allowsSeeking 1 (some .boolean), Cond.methodLink RX3 42 yX3_isInForce, Cond.instanceMethod yX3_isInForce, Cond.selects RX3 yX3_isInForce yX3_isInForce, Cond.code yX3_isInForce cX3_isInForce 3 (some .boolean), Cond.methodLink RX3 30 yX3_documentOf, Cond.instanceMethod yX3_documentOf, Cond.selects RX3 yX3_documentOf yX3_documentOf, Cond.code yX3_documentOf cX3_documentOf 2 (some (.object "TrustedUpdates$Document")), Cond.fieldLink RX3 18 "TrustedUpdates$Trust" "documents" "[LTrustedUpdates$Document;", Cond.fieldLink RX3 12 "TrustedUpdates$Trust" "none" "LTrustedUpdates$Document;", Cond.methodLink RX3 34 yX0_isWhole, Cond.instanceMethod yX0_isWhole, Cond.selects RX0 yX0_isWhole yX0_isWhole, Cond.initialized RX0]
def wsL_install_r3 : List Cond := [Cond.code yX0_isWhole cX0_isWhole 1 (some .boolean), Cond.fieldLink RX0 33 "TrustedUpdates$Document" "whole" "Z", Cond.methodLink RX3 38 yX3_findsEnded, Cond.instanceMethod yX3_findsEnded, Cond.selects RX3 yX3_findsEnded yX3_findsEnded, Cond.code yX3_findsEnded cX3_findsEnded 2 (some .boolean), Cond.fieldLink RX3 22 "TrustedUpdates$Trust" "clock" "I", Cond.methodLink RX3 26 yX0_end, Cond.instanceMethod yX0_end, Cond.selects RX0 yX0_end yX0_end, Cond.code yX0_end cX0_end 1 (some .int), Cond.fieldLink RX0 47 "TrustedUpdates$Document" "end" "I", Cond.methodLink RX3 53 yX3_isFresh, Cond.instanceMethod yX3_isFresh, Cond.selects RX3 yX3_isFresh yX3_isFresh, Cond.code yX3_isFresh cX3_isFresh 2 (some .boolean), Cond.methodLink RX3 46 yX0_version, Cond.instanceMethod yX0_version, Cond.selects RX0 yX0_version yX0_version, Cond.code yX0_version cX0_version 1 (some .int), Cond.fieldLink RX0 44 "TrustedUpdates$Document" "version" "I", Cond.methodLink RX3 49 yX0_versionFor, Cond.instanceMethod yX0_versionFor, Cond.selects RX0 yX0_versionFor yX0_versionFor]
def wsL_install_r4 : List Cond := [Cond.code yX0_versionFor cX0_versionFor 2 (some .int), Cond.fieldLink RX0 24 "TrustedUpdates$Document" "versions" "[I", Cond.methodLink RX4 160 yX2_run, Cond.instanceMethod yX2_run, Cond.selects RX2 yX2_run yX2_run, Cond.initialized RX2, Cond.code yX2_run cX2_run 4 none, Cond.fieldLink RX2 20 "TrustedUpdates$Search" "name" "LTrustedUpdates$Row;", Cond.fieldLink RX2 67 "TrustedUpdates$Search" "visitedRoles" "I", Cond.fieldLink RX2 24 "TrustedUpdates$Search" "visitCount" "I", Cond.fieldLink RX2 28 "TrustedUpdates$Search" "foundRole" "I", Cond.fieldLink RX2 70 "TrustedUpdates$Search" "over" "Z", Cond.methodLink RX2 60 yX1_keepFirst, Cond.instanceMethod yX1_keepFirst, Cond.selects RX1 yX1_keepFirst yX1_keepFirst, Cond.initialized RX1, Cond.code yX1_keepFirst cX1_keepFirst 2 none, Cond.fieldLink RX1 15 "TrustedUpdates$Row" "size" "I", Cond.methodLink RX2 63 yX1_appendLowest, Cond.instanceMethod yX1_appendLowest, Cond.selects RX1 yX1_appendLowest yX1_appendLowest, Cond.code yX1_appendLowest cX1_appendLowest 5 none, Cond.methodLink RX1 19 yX1_append, Cond.instanceMethod yX1_append]
def wsL_install_r5 : List Cond := [Cond.selects RX1 yX1_append yX1_append, Cond.code yX1_append cX1_append 2 none, Cond.fieldLink RX1 9 "TrustedUpdates$Row" "bytes" "[I", Cond.methodLink RX2 74 yX2_visit, Cond.instanceMethod yX2_visit, Cond.selects RX2 yX2_visit yX2_visit, Cond.code yX2_visit cX2_visit 5 none, Cond.fieldLink RX2 9 "TrustedUpdates$Search" "trust" "LTrustedUpdates$Trust;", Cond.fieldLink RX2 43 "TrustedUpdates$Search" "foundPlace" "I", Cond.methodLink RX2 31 yX3_documentOf, Cond.methodLink RX2 78 yX0_targetNamed, Cond.instanceMethod yX0_targetNamed, Cond.selects RX0 yX0_targetNamed yX0_targetNamed, Cond.code yX0_targetNamed cX0_targetNamed 4 (some .int), Cond.fieldLink RX0 99 "TrustedUpdates$Document" "targetCount" "I", Cond.fieldLink RX0 27 "TrustedUpdates$Document" "targets" "[I", Cond.fieldLink RX0 14 "TrustedUpdates$Document" "row" "LTrustedUpdates$Row;", Cond.methodLink RX0 53 yX1_byteAt, Cond.instanceMethod yX1_byteAt, Cond.selects RX1 yX1_byteAt yX1_byteAt, Cond.code yX1_byteAt cX1_byteAt 2 (some .int), Cond.methodLink RX0 70 yX1_size, Cond.instanceMethod yX1_size, Cond.selects RX1 yX1_size yX1_size]
def wsL_install_r6 : List Cond := [Cond.code yX1_size cX1_size 1 (some .int), Cond.methodLink RX0 110 yX1_agrees, Cond.instanceMethod yX1_agrees, Cond.selects RX1 yX1_agrees yX1_agrees, Cond.code yX1_agrees cX1_agrees 7 (some .boolean), Cond.methodLink RX1 35 yX1_byteAt, Cond.methodLink RX2 82 yX0_delegationCount, Cond.instanceMethod yX0_delegationCount, Cond.selects RX0 yX0_delegationCount yX0_delegationCount, Cond.code yX0_delegationCount cX0_delegationCount 1 (some .int), Cond.fieldLink RX0 114 "TrustedUpdates$Document" "delegationCount" "I", Cond.methodLink RX2 85 yX2_mayFollow, Cond.instanceMethod yX2_mayFollow, Cond.selects RX2 yX2_mayFollow yX2_mayFollow, Cond.code yX2_mayFollow cX2_mayFollow 4 (some .boolean), Cond.methodLink RX2 89 yX0_delegateOf, Cond.instanceMethod yX0_delegateOf, Cond.selects RX0 yX0_delegateOf yX0_delegateOf, Cond.code yX0_delegateOf cX0_delegateOf 2 (some .int), Cond.methodLink RX0 136 yX0_delegationPlace, Cond.instanceMethod yX0_delegationPlace, Cond.selects RX0 yX0_delegationPlace yX0_delegationPlace, Cond.code yX0_delegationPlace cX0_delegationPlace 2 (some .int), Cond.fieldLink RX0 30 "TrustedUpdates$Document" "delegations" "[I"]
def wsL_install_r7 : List Cond := [Cond.methodLink RX2 96 yX0_delegates, Cond.instanceMethod yX0_delegates, Cond.selects RX0 yX0_delegates yX0_delegates, Cond.code yX0_delegates cX0_delegates 5 (some .boolean), Cond.methodLink RX0 139 yX0_delegatedKeySet, Cond.instanceMethod yX0_delegatedKeySet, Cond.selects RX0 yX0_delegatedKeySet yX0_delegatedKeySet, Cond.code yX0_delegatedKeySet cX0_delegatedKeySet 2 (some .int), Cond.methodLink RX2 100 yX3_isFresh, Cond.methodLink RX2 37 yX0_row, Cond.instanceMethod yX0_row, Cond.selects RX0 yX0_row yX0_row, Cond.code yX0_row cX0_row 1 (some (.object "TrustedUpdates$Row")), Cond.methodLink RX2 103 yX0_delegatedKeySet, Cond.methodLink RX2 106 yX0_isSignedAsAsked, Cond.instanceMethod yX0_isSignedAsAsked, Cond.selects RX0 yX0_isSignedAsAsked yX0_isSignedAsAsked, Cond.code yX0_isSignedAsAsked cX0_isSignedAsAsked 7 (some .boolean), Cond.methodLink RX0 129 yX0_hasSignatureOf, Cond.instanceMethod yX0_hasSignatureOf, Cond.selects RX0 yX0_hasSignatureOf yX0_hasSignatureOf, Cond.code yX0_hasSignatureOf cX0_hasSignatureOf 6 (some .boolean), Cond.fieldLink RX0 50 "TrustedUpdates$Document" "signedSize" "I", Cond.methodLink RX0 120 yX0_signatureOf]
def wsL_install_r8 : List Cond := [Cond.instanceMethod yX0_signatureOf, Cond.selects RX0 yX0_signatureOf yX0_signatureOf, Cond.code yX0_signatureOf cX0_signatureOf 2 (some .int), Cond.methodLink RX0 117 yX1_mixOfFirst, Cond.instanceMethod yX1_mixOfFirst, Cond.selects RX1 yX1_mixOfFirst yX1_mixOfFirst, Cond.code yX1_mixOfFirst cX1_mixOfFirst 5 (some .int), Cond.constant RX1 29 (-1640531527), Cond.constant RX1 30 (16777619), Cond.methodLink RX0 123 yX0_signatureCount, Cond.instanceMethod yX0_signatureCount, Cond.selects RX0 yX0_signatureCount yX0_signatureCount, Cond.code yX0_signatureCount cX0_signatureCount 1 (some .int), Cond.methodLink RX0 126 yX1_wordAt, Cond.instanceMethod yX1_wordAt, Cond.selects RX1 yX1_wordAt yX1_wordAt, Cond.code yX1_wordAt cX1_wordAt 2 (some .int), Cond.methodLink RX2 92 yX0_isFinal, Cond.instanceMethod yX0_isFinal, Cond.selects RX0 yX0_isFinal yX0_isFinal, Cond.code yX0_isFinal cX0_isFinal 2 (some .boolean), Cond.methodLink RX4 170 yX2_foundRole, Cond.instanceMethod yX2_foundRole, Cond.selects RX2 yX2_foundRole yX2_foundRole]
def wsL_install_r9 : List Cond := [Cond.code yX2_foundRole cX2_foundRole 1 (some .int), Cond.methodLink RX4 173 yX2_foundTargetIs, Cond.instanceMethod yX2_foundTargetIs, Cond.selects RX2 yX2_foundTargetIs yX2_foundTargetIs, Cond.code yX2_foundTargetIs cX2_foundTargetIs 3 (some .boolean), Cond.methodLink RX2 46 yX1_byteAt, Cond.methodLink RX2 50 yX1_size, Cond.methodLink RX2 54 yX1_wordAt, Cond.methodLink RX2 57 yX1_wholeDigest, Cond.instanceMethod yX1_wholeDigest, Cond.selects RX1 yX1_wholeDigest yX1_wholeDigest, Cond.code yX1_wholeDigest cX1_wholeDigest 1 (some .int), Cond.methodLink RX1 31 yX1_mixOfFirst, Cond.methodLink RX4 163 yX2_visitCount, Cond.instanceMethod yX2_visitCount, Cond.selects RX2 yX2_visitCount yX2_visitCount, Cond.code yX2_visitCount cX2_visitCount 1 (some .int)]
def wsL_install : List Cond := .codeWith yL_install cL_install 6 (some .int) [(0, 11, 14, 18), (0, 11, 18, 32), (0, 11, 22, 34), (0, 11, 26, 20)] :: ((wsL_install_r1 ++ (wsL_install_r2 ++ (wsL_install_r3 ++ (wsL_install_r4 ++ (wsL_install_r5 ++ (wsL_install_r6 ++ (wsL_install_r7 ++ (wsL_install_r8 ++ wsL_install_r9)))))))) ++ wsX40 ++ wsX30 ++ wsX00 ++ wsX20 ++ wsX10 ++ (vx_at0 RX4 143 "java/util/NoSuchElementException" ["java/lang/RuntimeException", "java/lang/Exception"]).filter goodWord ++ (vx_at0 RX4 102 "java/lang/UnsupportedOperationException" ["java/lang/RuntimeException", "java/lang/Exception"]).filter goodWord ++ (vx_at0 RX4 96 "java/lang/IllegalArgumentException" ["java/lang/RuntimeException", "java/lang/Exception"]).filter goodWord ++ (vx_at0 RX4 134 "java/lang/IllegalStateException" ["java/lang/RuntimeException", "java/lang/Exception"]).filter goodWord)
def wsL_law0_r1 : List Cond := [Cond.classLink RL 8 RX4, Cond.instantiable RX4 7, Cond.initialized RX4, Cond.classLink RL 48 RX5, Cond.instantiable RX5 18, Cond.initialized RX5, Cond.arrayClass .long, Cond.constantLong RL 51 (4294967295), Cond.methodLink RL 47 yX4_init, Cond.instanceMethod yX4_init, Cond.code yX4_init cX4_init 1 none, Cond.methodLink RX4 3 objectInit, Cond.instanceMethod objectInit, Cond.code objectInit ⟨#[0xb1]⟩ 1 none, Cond.classLink RX4 9 RX1, Cond.instantiable RX1 2, Cond.initialized RX1, Cond.fieldLink RX4 14 "TrustedUpdates" "draft" "LTrustedUpdates$Row;", Cond.fieldLink RX4 18 "TrustedUpdates" "content" "LTrustedUpdates$Row;", Cond.classLink RX4 21 RX0, Cond.instantiable RX0 15, Cond.initialized RX0, Cond.fieldLink RX4 24 "TrustedUpdates" "offered" "LTrustedUpdates$Document;", Cond.classLink RX4 28 RX3]
def wsL_law0_r2 : List Cond := [Cond.instantiable RX3 3, Cond.initialized RX3, Cond.fieldLink RX4 31 "TrustedUpdates" "trust" "LTrustedUpdates$Trust;", Cond.classLink RX4 35 RX2, Cond.instantiable RX2 7, Cond.initialized RX2, Cond.fieldLink RX4 40 "TrustedUpdates" "search" "LTrustedUpdates$Search;", Cond.methodLink RX4 11 yX1_init, Cond.instanceMethod yX1_init, Cond.code yX1_init cX1_init 2 none, Cond.methodLink RX1 3 objectInit, Cond.arrayClass .int, Cond.fieldLink RX1 9 "TrustedUpdates$Row" "bytes" "[I", Cond.methodLink RX4 23 yX0_init, Cond.instanceMethod yX0_init, Cond.code yX0_init cX0_init 1 none, Cond.methodLink RX0 3 objectInit, Cond.classLink RX0 9 RX1, Cond.fieldLink RX0 14 "TrustedUpdates$Document" "row" "LTrustedUpdates$Row;", Cond.fieldLink RX0 20 "TrustedUpdates$Document" "keySets" "[I", Cond.fieldLink RX0 24 "TrustedUpdates$Document" "versions" "[I", Cond.fieldLink RX0 27 "TrustedUpdates$Document" "targets" "[I", Cond.fieldLink RX0 30 "TrustedUpdates$Document" "delegations" "[I", Cond.methodLink RX0 11 yX1_init]
def wsL_law0_r3 : List Cond := [Cond.methodLink RX4 30 yX3_init, Cond.instanceMethod yX3_init, Cond.code yX3_init cX3_init 2 none, Cond.methodLink RX3 3 objectInit, Cond.classLink RX3 9 RX0, Cond.fieldLink RX3 12 "TrustedUpdates$Trust" "none" "LTrustedUpdates$Document;", Cond.fieldLink RX3 18 "TrustedUpdates$Trust" "documents" "[LTrustedUpdates$Document;", Cond.methodLink RX3 11 yX0_init, Cond.methodLink RX4 37 yX2_init, Cond.instanceMethod yX2_init, Cond.code yX2_init cX2_init 2 none, Cond.methodLink RX2 3 objectInit, Cond.fieldLink RX2 9 "TrustedUpdates$Search" "trust" "LTrustedUpdates$Trust;", Cond.classLink RX2 15 RX1, Cond.fieldLink RX2 20 "TrustedUpdates$Search" "name" "LTrustedUpdates$Row;", Cond.methodLink RX2 17 yX1_init, Cond.methodLink RL 50 yX5_init, Cond.instanceMethod yX5_init, Cond.code yX5_init cX5_init 1 none, Cond.methodLink RX5 1 objectInit, Cond.fieldLink RX5 7 "TrustedUpdatesModel" "row" "[I", Cond.fieldLink RX5 13 "TrustedUpdatesModel" "sizes" "[I", Cond.arrayClass .boolean, Cond.fieldLink RX5 16 "TrustedUpdatesModel" "has" "[Z"]
def wsL_law0_r4 : List Cond := [Cond.fieldLink RX5 20 "TrustedUpdatesModel" "path" "[I", Cond.fieldLink RX5 23 "TrustedUpdatesModel" "going" "[I", Cond.methodLink RL 53 yX4_put, Cond.instanceMethod yX4_put, Cond.selects RX4 yX4_put yX4_put, Cond.code yX4_put cX4_put 4 (some .boolean), Cond.methodLink RX4 44 yX1_hasRoomFor, Cond.instanceMethod yX1_hasRoomFor, Cond.selects RX1 yX1_hasRoomFor yX1_hasRoomFor, Cond.code yX1_hasRoomFor cX1_hasRoomFor 2 (some .boolean), Cond.fieldLink RX1 15 "TrustedUpdates$Row" "size" "I", Cond.methodLink RX4 48 yX1_appendLowest, Cond.instanceMethod yX1_appendLowest, Cond.selects RX1 yX1_appendLowest yX1_appendLowest, Cond.code yX1_appendLowest cX1_appendLowest 5 none, Cond.methodLink RX1 19 yX1_append, Cond.instanceMethod yX1_append, Cond.selects RX1 yX1_append yX1_append, Cond.code yX1_append cX1_append 2 none, Cond.methodLink RL 57 yX5_put, Cond.instanceMethod yX5_put, Cond.selects RX5 yX5_put yX5_put, Cond.code yX5_put cX5_put 5 (some .boolean), Cond.fieldLink RX5 26 "TrustedUpdatesModel" "thrown" "I"]
def wsL_law0_r5 : List Cond := [Cond.constantLong RX5 30 (255), Cond.methodLink RX5 32 yX5_add, Cond.instanceMethod yX5_add, Cond.selects RX5 yX5_add yX5_add, Cond.code yX5_add cX5_add 2 none, Cond.methodLink RL 58 yX4_cut, Cond.instanceMethod yX4_cut, Cond.selects RX4 yX4_cut yX4_cut, Cond.code yX4_cut cX4_cut 2 (some .boolean), Cond.methodLink RX4 52 yX1_size, Cond.instanceMethod yX1_size, Cond.selects RX1 yX1_size yX1_size, Cond.code yX1_size cX1_size 1 (some .int), Cond.methodLink RX4 56 yX1_keepFirst, Cond.instanceMethod yX1_keepFirst, Cond.selects RX1 yX1_keepFirst yX1_keepFirst, Cond.code yX1_keepFirst cX1_keepFirst 2 none, Cond.methodLink RL 62 yX5_cut, Cond.instanceMethod yX5_cut, Cond.selects RX5 yX5_cut yX5_cut, Cond.code yX5_cut cX5_cut 2 (some .boolean), Cond.methodLink RL 63 yX4_alter, Cond.instanceMethod yX4_alter, Cond.selects RX4 yX4_alter yX4_alter]
def wsL_law0_r6 : List Cond := [Cond.code yX4_alter cX4_alter 3 (some .boolean), Cond.methodLink RX4 59 yX1_has, Cond.instanceMethod yX1_has, Cond.selects RX1 yX1_has yX1_has, Cond.code yX1_has cX1_has 2 (some .boolean), Cond.methodLink RX4 62 yX1_replace, Cond.instanceMethod yX1_replace, Cond.selects RX1 yX1_replace yX1_replace, Cond.code yX1_replace cX1_replace 3 none, Cond.methodLink RL 67 yX5_alter, Cond.instanceMethod yX5_alter, Cond.selects RX5 yX5_alter yX5_alter, Cond.code yX5_alter cX5_alter 3 (some .boolean), Cond.methodLink RL 68 yX4_length, Cond.instanceMethod yX4_length, Cond.selects RX4 yX4_length yX4_length, Cond.code yX4_length cX4_length 1 (some .int), Cond.methodLink RL 71 yX5_length, Cond.instanceMethod yX5_length, Cond.selects RX5 yX5_length yX5_length, Cond.code yX5_length cX5_length 1 (some .int), Cond.methodLink RL 72 yL_at, Cond.static yL_at, Cond.initialized RL]
def wsL_law0_r7 : List Cond := [Cond.codeWith yL_at cL_at 4 (some .int) [(0, 9, 12, 13)], Cond.classLink RL 13 "java/lang/IndexOutOfBoundsException", Cond.methodLink RL 7 yX4_at, Cond.instanceMethod yX4_at, Cond.selects RX4 yX4_at yX4_at, Cond.code yX4_at cX4_at 2 (some .int), Cond.classLink RX4 66 "java/lang/IndexOutOfBoundsException", Cond.initialized "java/lang/IndexOutOfBoundsException", Cond.methodLink RX4 69 yX1_byteAt, Cond.instanceMethod yX1_byteAt, Cond.selects RX1 yX1_byteAt yX1_byteAt, Cond.code yX1_byteAt cX1_byteAt 2 (some .int), Cond.methodLink RL 77 yX5_at, Cond.instanceMethod yX5_at, Cond.selects RX5 yX5_at yX5_at, Cond.code yX5_at cX5_at 2 (some .int), Cond.methodLink RL 78 yX5_thrown, Cond.instanceMethod yX5_thrown, Cond.selects RX5 yX5_thrown yX5_thrown, Cond.code yX5_thrown cX5_thrown 1 (some .int), Cond.methodLink RL 81 yX4_mix, Cond.instanceMethod yX4_mix, Cond.selects RX4 yX4_mix yX4_mix, Cond.code yX4_mix cX4_mix 2 (some .int)]
def wsL_law0_r8 : List Cond := [Cond.methodLink RX4 73 yX1_mixOfFirst, Cond.instanceMethod yX1_mixOfFirst, Cond.selects RX1 yX1_mixOfFirst yX1_mixOfFirst, Cond.code yX1_mixOfFirst cX1_mixOfFirst 5 (some .int), Cond.constant RX1 29 (-1640531527), Cond.constant RX1 30 (16777619), Cond.methodLink RL 84 yX5_mix, Cond.instanceMethod yX5_mix, Cond.selects RX5 yX5_mix yX5_mix, Cond.code yX5_mix cX5_mix 2 (some .int), Cond.methodLink RX5 38 yX5_mixOf, Cond.instanceMethod yX5_mixOf, Cond.selects RX5 yX5_mixOf yX5_mixOf, Cond.code yX5_mixOf cX5_mixOf 6 (some .int), Cond.constant RX5 36 (-1640531527), Cond.constant RX5 37 (16777619), Cond.methodLink RL 85 yX4_digest, Cond.instanceMethod yX4_digest, Cond.selects RX4 yX4_digest yX4_digest, Cond.code yX4_digest cX4_digest 1 (some .boolean), Cond.methodLink RX4 77 yX1_wholeDigest, Cond.instanceMethod yX1_wholeDigest, Cond.selects RX1 yX1_wholeDigest yX1_wholeDigest, Cond.code yX1_wholeDigest cX1_wholeDigest 1 (some .int)]
def wsL_law0_r9 : List Cond := [Cond.methodLink RX1 31 yX1_mixOfFirst, Cond.methodLink RX4 80 yX1_appendWord, Cond.instanceMethod yX1_appendWord, Cond.selects RX1 yX1_appendWord yX1_appendWord, Cond.code yX1_appendWord cX1_appendWord 2 none, Cond.methodLink RL 89 yX5_digest, Cond.instanceMethod yX5_digest, Cond.selects RX5 yX5_digest yX5_digest, Cond.code yX5_digest cX5_digest 1 (some .boolean), Cond.methodLink RX5 42 yX5_addFour, Cond.instanceMethod yX5_addFour, Cond.selects RX5 yX5_addFour yX5_addFour, Cond.code yX5_addFour cX5_addFour 3 none, Cond.methodLink RL 90 yL_sign, Cond.static yL_sign, Cond.codeWith yL_sign cL_sign 4 (some .int) [(0, 9, 12, 13), (0, 9, 15, 18), (0, 9, 18, 20)], Cond.classLink RL 18 "java/lang/IllegalArgumentException", Cond.classLink RL 20 "java/lang/UnsupportedOperationException", Cond.methodLink RL 15 yX4_sign, Cond.instanceMethod yX4_sign, Cond.selects RX4 yX4_sign yX4_sign, Cond.code yX4_sign cX4_sign 5 (some .int), Cond.classLink RX4 94 "java/lang/IllegalArgumentException", Cond.initialized "java/lang/IllegalArgumentException"]
def wsL_law0_r10 : List Cond := [Cond.classLink RX4 100 "java/lang/UnsupportedOperationException", Cond.initialized "java/lang/UnsupportedOperationException", Cond.methodLink RX4 83 yX0_read, Cond.instanceMethod yX0_read, Cond.selects RX0 yX0_read yX0_read, Cond.code yX0_read cX0_read 2 none, Cond.fieldLink RX0 61 "TrustedUpdates$Document" "place" "I", Cond.fieldLink RX0 64 "TrustedUpdates$Document" "sound" "Z", Cond.fieldLink RX0 50 "TrustedUpdates$Document" "signedSize" "I", Cond.fieldLink RX0 37 "TrustedUpdates$Document" "bare" "Z", Cond.fieldLink RX0 33 "TrustedUpdates$Document" "whole" "Z", Cond.methodLink RX0 57 yX1_become, Cond.instanceMethod yX1_become, Cond.selects RX1 yX1_become yX1_become, Cond.code yX1_become cX1_become 2 none, Cond.methodLink RX1 23 arraycopyName, Cond.native arraycopyName, Cond.static arraycopyName, Cond.initialized "java/lang/System", Cond.methodLink RX0 67 yX0_readSigned, Cond.instanceMethod yX0_readSigned, Cond.selects RX0 yX0_readSigned yX0_readSigned, Cond.code yX0_readSigned cX0_readSigned 2 none, Cond.fieldLink RX0 40 "TrustedUpdates$Document" "role" "I"]
def wsL_law0_r11 : List Cond := [Cond.fieldLink RX0 44 "TrustedUpdates$Document" "version" "I", Cond.fieldLink RX0 47 "TrustedUpdates$Document" "end" "I", Cond.methodLink RX0 77 yX0_next, Cond.instanceMethod yX0_next, Cond.selects RX0 yX0_next yX0_next, Cond.code yX0_next cX0_next 4 (some .int), Cond.methodLink RX0 53 yX1_byteAt, Cond.methodLink RX0 81 yX0_readRootKeySets, Cond.instanceMethod yX0_readRootKeySets, Cond.selects RX0 yX0_readRootKeySets yX0_readRootKeySets, Cond.code yX0_readRootKeySets cX0_readRootKeySets 2 none, Cond.methodLink RX0 96 yX0_readKeySet, Cond.instanceMethod yX0_readKeySet, Cond.selects RX0 yX0_readKeySet yX0_readKeySet, Cond.code yX0_readKeySet cX0_readKeySet 5 none, Cond.methodLink RX0 84 yX0_skip, Cond.instanceMethod yX0_skip, Cond.selects RX0 yX0_skip yX0_skip, Cond.code yX0_skip cX0_skip 3 none, Cond.methodLink RX0 87 yX0_readEntries, Cond.instanceMethod yX0_readEntries, Cond.selects RX0 yX0_readEntries yX0_readEntries, Cond.code yX0_readEntries cX0_readEntries 7 none, Cond.methodLink RX0 90 yX0_readTargets]
def wsL_law0_r12 : List Cond := [Cond.instanceMethod yX0_readTargets, Cond.selects RX0 yX0_readTargets yX0_readTargets, Cond.code yX0_readTargets cX0_readTargets 2 none, Cond.fieldLink RX0 99 "TrustedUpdates$Document" "targetCount" "I", Cond.methodLink RX0 102 yX0_readLetters, Cond.instanceMethod yX0_readLetters, Cond.selects RX0 yX0_readLetters yX0_readLetters, Cond.code yX0_readLetters cX0_readLetters 5 none, Cond.methodLink RX0 106 yX0_isNamedAsEarlier, Cond.instanceMethod yX0_isNamedAsEarlier, Cond.selects RX0 yX0_isNamedAsEarlier yX0_isNamedAsEarlier, Cond.code yX0_isNamedAsEarlier cX0_isNamedAsEarlier 3 (some .boolean), Cond.methodLink RX0 110 yX1_agrees, Cond.instanceMethod yX1_agrees, Cond.selects RX1 yX1_agrees yX1_agrees, Cond.code yX1_agrees cX1_agrees 7 (some .boolean), Cond.methodLink RX1 35 yX1_byteAt, Cond.methodLink RX0 93 yX0_readDelegations, Cond.instanceMethod yX0_readDelegations, Cond.selects RX0 yX0_readDelegations yX0_readDelegations, Cond.code yX0_readDelegations cX0_readDelegations 4 none, Cond.fieldLink RX0 114 "TrustedUpdates$Document" "delegationCount" "I", Cond.methodLink RX0 70 yX1_size, Cond.methodLink RX0 74 yX0_readSignatures]
def wsL_law0_r13 : List Cond := [Cond.instanceMethod yX0_readSignatures, Cond.selects RX0 yX0_readSignatures yX0_readSignatures, Cond.code yX0_readSignatures cX0_readSignatures 3 none, Cond.methodLink RX4 87 yX0_isBare, Cond.instanceMethod yX0_isBare, Cond.selects RX0 yX0_isBare yX0_isBare, Cond.code yX0_isBare cX0_isBare 1 (some .boolean), Cond.methodLink RX4 91 yX0_isWhole, Cond.instanceMethod yX0_isWhole, Cond.selects RX0 yX0_isWhole yX0_isWhole, Cond.code yX0_isWhole cX0_isWhole 1 (some .boolean), Cond.methodLink RX4 97 yX0_signatureCount, Cond.instanceMethod yX0_signatureCount, Cond.selects RX0 yX0_signatureCount yX0_signatureCount, Cond.code yX0_signatureCount cX0_signatureCount 1 (some .int), Cond.methodLink RX4 103 yX1_append, Cond.methodLink RX4 106 yX0_signedSize, Cond.instanceMethod yX0_signedSize, Cond.selects RX0 yX0_signedSize yX0_signedSize, Cond.code yX0_signedSize cX0_signedSize 1 (some .int), Cond.methodLink RX4 109 yX0_signatureOf, Cond.instanceMethod yX0_signatureOf, Cond.selects RX0 yX0_signatureOf yX0_signatureOf, Cond.code yX0_signatureOf cX0_signatureOf 2 (some .int)]
def wsL_law0_r14 : List Cond := [Cond.methodLink RX0 117 yX1_mixOfFirst, Cond.methodLink RL 92 yX5_sign, Cond.instanceMethod yX5_sign, Cond.selects RX5 yX5_sign yX5_sign, Cond.code yX5_sign cX5_sign 6 (some .int), Cond.fieldLink RX5 49 "TrustedUpdatesModel" "at" "I", Cond.fieldLink RX5 52 "TrustedUpdatesModel" "end" "I", Cond.fieldLink RX5 86 "TrustedUpdatesModel" "signed" "I", Cond.methodLink RX5 97 yX5_isDocument, Cond.instanceMethod yX5_isDocument, Cond.selects RX5 yX5_isDocument yX5_isDocument, Cond.code yX5_isDocument cX5_isDocument 4 (some .boolean), Cond.fieldLink RX5 45 "TrustedUpdatesModel" "good" "Z", Cond.methodLink RX5 89 yX5_passSigned, Cond.instanceMethod yX5_passSigned, Cond.selects RX5 yX5_passSigned yX5_passSigned, Cond.code yX5_passSigned cX5_passSigned 3 (some .boolean), Cond.methodLink RX5 62 yX5_between, Cond.instanceMethod yX5_between, Cond.selects RX5 yX5_between yX5_between, Cond.code yX5_between cX5_between 4 (some .int), Cond.methodLink RX5 55 yX5_next, Cond.instanceMethod yX5_next, Cond.selects RX5 yX5_next yX5_next]
def wsL_law0_r15 : List Cond := [Cond.code yX5_next cX5_next 2 (some .int), Cond.methodLink RX5 74 yX5_skip, Cond.instanceMethod yX5_skip, Cond.selects RX5 yX5_skip yX5_skip, Cond.code yX5_skip cX5_skip 2 none, Cond.methodLink RX5 83 yX5_passBody, Cond.instanceMethod yX5_passBody, Cond.selects RX5 yX5_passBody yX5_passBody, Cond.code yX5_passBody cX5_passBody 5 none, Cond.methodLink RX5 77 yX5_passKeys, Cond.instanceMethod yX5_passKeys, Cond.selects RX5 yX5_passKeys yX5_passKeys, Cond.code yX5_passKeys cX5_passKeys 5 none, Cond.fieldLink RX5 59 "TrustedUpdatesModel" "keySet" "I", Cond.methodLink RX5 80 yX5_passTargets, Cond.instanceMethod yX5_passTargets, Cond.selects RX5 yX5_passTargets yX5_passTargets, Cond.code yX5_passTargets cX5_passTargets 6 none, Cond.methodLink RX5 66 yX5_passLetters, Cond.instanceMethod yX5_passLetters, Cond.selects RX5 yX5_passLetters yX5_passLetters, Cond.code yX5_passLetters cX5_passLetters 5 none, Cond.methodLink RX5 70 yX5_areSame, Cond.instanceMethod yX5_areSame]
def wsL_law0_r16 : List Cond := [Cond.selects RX5 yX5_areSame yX5_areSame, Cond.code yX5_areSame cX5_areSame 5 (some .boolean), Cond.methodLink RX5 112 yX5_fail, Cond.instanceMethod yX5_fail, Cond.selects RX5 yX5_fail yX5_fail, Cond.code yX5_fail cX5_fail 2 (some .int), Cond.methodLink RL 93 yX4_content, Cond.instanceMethod yX4_content, Cond.selects RX4 yX4_content yX4_content, Cond.code yX4_content cX4_content 1 (some .int), Cond.methodLink RX4 112 yX1_become, Cond.methodLink RL 96 yX5_content, Cond.instanceMethod yX5_content, Cond.selects RX5 yX5_content yX5_content, Cond.code yX5_content cX5_content 1 (some .int), Cond.methodLink RX5 115 yX5_copy, Cond.instanceMethod yX5_copy, Cond.selects RX5 yX5_copy yX5_copy, Cond.code yX5_copy cX5_copy 4 none, Cond.methodLink RL 97 yL_tick, Cond.static yL_tick, Cond.codeWith yL_tick cL_tick 4 (some .int) [(0, 9, 12, 18)], Cond.methodLink RL 22 yX4_tick, Cond.instanceMethod yX4_tick]
def wsL_law0_r17 : List Cond := [Cond.selects RX4 yX4_tick yX4_tick, Cond.code yX4_tick cX4_tick 2 (some .int), Cond.methodLink RX4 115 yX3_advanceClock, Cond.instanceMethod yX3_advanceClock, Cond.selects RX3 yX3_advanceClock yX3_advanceClock, Cond.code yX3_advanceClock cX3_advanceClock 2 (some .int), Cond.fieldLink RX3 22 "TrustedUpdates$Trust" "clock" "I", Cond.methodLink RL 99 yX5_tick, Cond.instanceMethod yX5_tick, Cond.selects RX5 yX5_tick yX5_tick, Cond.code yX5_tick cX5_tick 2 (some .int), Cond.fieldLink RX5 106 "TrustedUpdatesModel" "clock" "I", Cond.methodLink RL 100 yL_begin, Cond.static yL_begin, Cond.codeWith yL_begin cL_begin 2 (some .int) [(0, 4, 7, 18)], Cond.methodLink RL 25 yX4_begin, Cond.instanceMethod yX4_begin, Cond.selects RX4 yX4_begin yX4_begin, Cond.code yX4_begin cX4_begin 1 none, Cond.methodLink RX4 118 yX0_role, Cond.instanceMethod yX0_role, Cond.selects RX0 yX0_role yX0_role, Cond.code yX0_role cX0_role 1 (some .int), Cond.methodLink RX4 121 yX3_startFrom]
def wsL_law0_r18 : List Cond := [Cond.instanceMethod yX3_startFrom, Cond.selects RX3 yX3_startFrom yX3_startFrom, Cond.code yX3_startFrom cX3_startFrom 3 none, Cond.methodLink RX3 30 yX3_documentOf, Cond.instanceMethod yX3_documentOf, Cond.selects RX3 yX3_documentOf yX3_documentOf, Cond.code yX3_documentOf cX3_documentOf 2 (some (.object "TrustedUpdates$Document")), Cond.methodLink RX3 56 yX0_clear, Cond.instanceMethod yX0_clear, Cond.selects RX0 yX0_clear yX0_clear, Cond.code yX0_clear cX0_clear 1 none, Cond.methodLink RX3 59 yX0_row, Cond.instanceMethod yX0_row, Cond.selects RX0 yX0_row yX0_row, Cond.code yX0_row cX0_row 1 (some (.object "TrustedUpdates$Row")), Cond.methodLink RX3 63 yX0_read, Cond.methodLink RL 103 yX5_begin, Cond.instanceMethod yX5_begin, Cond.selects RX5 yX5_begin yX5_begin, Cond.code yX5_begin cX5_begin 2 none, Cond.methodLink RX5 118 yX5_roleOfDraft, Cond.instanceMethod yX5_roleOfDraft, Cond.selects RX5 yX5_roleOfDraft yX5_roleOfDraft, Cond.code yX5_roleOfDraft cX5_roleOfDraft 1 (some .int)]
def wsL_law0_r19 : List Cond := [Cond.methodLink RX5 121 yX5_trust, Cond.instanceMethod yX5_trust, Cond.selects RX5 yX5_trust yX5_trust, Cond.code yX5_trust cX5_trust 2 none, Cond.methodLink RL 104 yL_offer, Cond.static yL_offer, Cond.codeWith yL_offer cL_offer 3 (some .int) [(0, 8, 11, 18), (0, 8, 14, 13), (0, 8, 17, 32), (0, 8, 20, 20), (0, 8, 23, 34)], Cond.classLink RL 32 "java/lang/IllegalStateException", Cond.classLink RL 34 "java/util/NoSuchElementException", Cond.methodLink RL 28 yX4_offer, Cond.instanceMethod yX4_offer, Cond.selects RX4 yX4_offer yX4_offer, Cond.code yX4_offer cX4_offer 1 (some .int), Cond.classLink RX4 132 "java/lang/IllegalStateException", Cond.initialized "java/lang/IllegalStateException", Cond.classLink RX4 141 "java/util/NoSuchElementException", Cond.initialized "java/util/NoSuchElementException", Cond.methodLink RX4 125 yX3_hasGroundFor, Cond.instanceMethod yX3_hasGroundFor, Cond.selects RX3 yX3_hasGroundFor yX3_hasGroundFor, Cond.code yX3_hasGroundFor cX3_hasGroundFor 2 (some .boolean), Cond.methodLink RX3 34 yX0_isWhole, Cond.methodLink RX3 42 yX3_isInForce, Cond.instanceMethod yX3_isInForce]
def wsL_law0_r20 : List Cond := [Cond.selects RX3 yX3_isInForce yX3_isInForce, Cond.code yX3_isInForce cX3_isInForce 3 (some .boolean), Cond.methodLink RX3 38 yX3_findsEnded, Cond.instanceMethod yX3_findsEnded, Cond.selects RX3 yX3_findsEnded yX3_findsEnded, Cond.code yX3_findsEnded cX3_findsEnded 2 (some .boolean), Cond.methodLink RX3 26 yX0_end, Cond.instanceMethod yX0_end, Cond.selects RX0 yX0_end yX0_end, Cond.code yX0_end cX0_end 1 (some .int), Cond.methodLink RX3 49 yX0_versionFor, Cond.instanceMethod yX0_versionFor, Cond.selects RX0 yX0_versionFor yX0_versionFor, Cond.code yX0_versionFor cX0_versionFor 2 (some .int), Cond.methodLink RX4 128 yX3_findsSigned, Cond.instanceMethod yX3_findsSigned, Cond.selects RX3 yX3_findsSigned yX3_findsSigned, Cond.code yX3_findsSigned cX3_findsSigned 3 (some .boolean), Cond.methodLink RX3 67 yX0_role, Cond.methodLink RX3 70 yX0_rootVouchesFor, Cond.instanceMethod yX0_rootVouchesFor, Cond.selects RX0 yX0_rootVouchesFor yX0_rootVouchesFor, Cond.code yX0_rootVouchesFor cX0_rootVouchesFor 3 (some .boolean), Cond.methodLink RX0 132 yX0_isSignedAsAsked]
def wsL_law0_r21 : List Cond := [Cond.instanceMethod yX0_isSignedAsAsked, Cond.selects RX0 yX0_isSignedAsAsked yX0_isSignedAsAsked, Cond.code yX0_isSignedAsAsked cX0_isSignedAsAsked 7 (some .boolean), Cond.methodLink RX0 129 yX0_hasSignatureOf, Cond.instanceMethod yX0_hasSignatureOf, Cond.selects RX0 yX0_hasSignatureOf yX0_hasSignatureOf, Cond.code yX0_hasSignatureOf cX0_hasSignatureOf 6 (some .boolean), Cond.methodLink RX0 120 yX0_signatureOf, Cond.methodLink RX0 123 yX0_signatureCount, Cond.methodLink RX0 126 yX1_wordAt, Cond.instanceMethod yX1_wordAt, Cond.selects RX1 yX1_wordAt yX1_wordAt, Cond.code yX1_wordAt cX1_wordAt 2 (some .int), Cond.methodLink RX4 135 yX3_findsVersionsRight, Cond.instanceMethod yX3_findsVersionsRight, Cond.selects RX3 yX3_findsVersionsRight yX3_findsVersionsRight, Cond.code yX3_findsVersionsRight cX3_findsVersionsRight 2 (some .boolean), Cond.methodLink RX3 46 yX0_version, Cond.instanceMethod yX0_version, Cond.selects RX0 yX0_version yX0_version, Cond.code yX0_version cX0_version 1 (some .int), Cond.methodLink RX3 74 yX3_isNoOlderStamp, Cond.instanceMethod yX3_isNoOlderStamp, Cond.selects RX3 yX3_isNoOlderStamp yX3_isNoOlderStamp]
def wsL_law0_r22 : List Cond := [Cond.code yX3_isNoOlderStamp cX3_isNoOlderStamp 3 (some .boolean), Cond.methodLink RX3 83 yX0_stampedVersion, Cond.instanceMethod yX0_stampedVersion, Cond.selects RX0 yX0_stampedVersion yX0_stampedVersion, Cond.code yX0_stampedVersion cX0_stampedVersion 1 (some .int), Cond.methodLink RX3 77 yX3_isAsStamped, Cond.instanceMethod yX3_isAsStamped, Cond.selects RX3 yX3_isAsStamped yX3_isAsStamped, Cond.code yX3_isAsStamped cX3_isAsStamped 3 (some .boolean), Cond.methodLink RX3 86 yX1_wholeDigest, Cond.methodLink RX3 91 yX0_stampedDigest, Cond.instanceMethod yX0_stampedDigest, Cond.selects RX0 yX0_stampedDigest yX0_stampedDigest, Cond.code yX0_stampedDigest cX0_stampedDigest 1 (some .int), Cond.methodLink RX3 80 yX3_isNoOlderSnapshot, Cond.instanceMethod yX3_isNoOlderSnapshot, Cond.selects RX3 yX3_isNoOlderSnapshot yX3_isNoOlderSnapshot, Cond.code yX3_isNoOlderSnapshot cX3_isNoOlderSnapshot 4 (some .boolean), Cond.methodLink RX4 138 yX3_findsEnded, Cond.methodLink RX4 144 yX3_take, Cond.instanceMethod yX3_take, Cond.selects RX3 yX3_take yX3_take, Cond.code yX3_take cX3_take 2 none, Cond.methodLink RX3 94 yX3_changesOnlineKeys]
def wsL_law0_r23 : List Cond := [Cond.instanceMethod yX3_changesOnlineKeys, Cond.selects RX3 yX3_changesOnlineKeys yX3_changesOnlineKeys, Cond.code yX3_changesOnlineKeys cX3_changesOnlineKeys 3 (some .boolean), Cond.methodLink RX3 97 yX0_hasKeySetOf, Cond.instanceMethod yX0_hasKeySetOf, Cond.selects RX0 yX0_hasKeySetOf yX0_hasKeySetOf, Cond.code yX0_hasKeySetOf cX0_hasKeySetOf 4 (some .boolean), Cond.methodLink RL 107 yX5_offer, Cond.instanceMethod yX5_offer, Cond.selects RX5 yX5_offer yX5_offer, Cond.code yX5_offer cX5_offer 2 (some .int), Cond.methodLink RX5 142 yX5_offerRoot, Cond.instanceMethod yX5_offerRoot, Cond.selects RX5 yX5_offerRoot yX5_offerRoot, Cond.code yX5_offerRoot cX5_offerRoot 1 (some .int), Cond.methodLink RX5 124 yX5_keysOf, Cond.instanceMethod yX5_keysOf, Cond.selects RX5 yX5_keysOf yX5_keysOf, Cond.code yX5_keysOf cX5_keysOf 5 (some .int), Cond.methodLink RX5 127 yX5_isSigned, Cond.instanceMethod yX5_isSigned, Cond.selects RX5 yX5_isSigned yX5_isSigned, Cond.code yX5_isSigned cX5_isSigned 6 (some .boolean), Cond.methodLink RX5 100 yX5_hasSignature]
def wsL_law0_r24 : List Cond := [Cond.instanceMethod yX5_hasSignature, Cond.selects RX5 yX5_hasSignature yX5_hasSignature, Cond.code yX5_hasSignature cX5_hasSignature 8 (some .boolean), Cond.methodLink RX5 93 yX5_four, Cond.instanceMethod yX5_four, Cond.selects RX5 yX5_four yX5_four, Cond.code yX5_four cX5_four 2 (some .int), Cond.methodLink RX5 130 yX5_versionOf, Cond.instanceMethod yX5_versionOf, Cond.selects RX5 yX5_versionOf yX5_versionOf, Cond.code yX5_versionOf cX5_versionOf 2 (some .int), Cond.methodLink RX5 133 yX5_areSameKeys, Cond.instanceMethod yX5_areSameKeys, Cond.selects RX5 yX5_areSameKeys yX5_areSameKeys, Cond.code yX5_areSameKeys cX5_areSameKeys 6 (some .boolean), Cond.methodLink RX5 145 yX5_offerStamp, Cond.instanceMethod yX5_offerStamp, Cond.selects RX5 yX5_offerStamp yX5_offerStamp, Cond.code yX5_offerStamp cX5_offerStamp 2 (some .int), Cond.methodLink RX5 136 yX5_stands, Cond.instanceMethod yX5_stands, Cond.selects RX5 yX5_stands yX5_stands, Cond.code yX5_stands cX5_stands 2 (some .boolean), Cond.methodLink RX5 109 yX5_isOver]
def wsL_law0_r25 : List Cond := [Cond.instanceMethod yX5_isOver, Cond.selects RX5 yX5_isOver yX5_isOver, Cond.code yX5_isOver cX5_isOver 2 (some .boolean), Cond.methodLink RX5 103 yX5_endOf, Cond.instanceMethod yX5_endOf, Cond.selects RX5 yX5_endOf yX5_endOf, Cond.code yX5_endOf cX5_endOf 2 (some .int), Cond.methodLink RX5 148 yX5_offerSnapshot, Cond.instanceMethod yX5_offerSnapshot, Cond.selects RX5 yX5_offerSnapshot yX5_offerSnapshot, Cond.code yX5_offerSnapshot cX5_offerSnapshot 2 (some .int), Cond.methodLink RX5 139 yX5_said, Cond.instanceMethod yX5_said, Cond.selects RX5 yX5_said yX5_said, Cond.code yX5_said cX5_said 6 (some .int), Cond.methodLink RX5 151 yX5_offerTargets, Cond.instanceMethod yX5_offerTargets, Cond.selects RX5 yX5_offerTargets yX5_offerTargets, Cond.code yX5_offerTargets cX5_offerTargets 2 (some .int), Cond.methodLink RL 108 yL_trusted, Cond.static yL_trusted, Cond.codeWith yL_trusted cL_trusted 5 (some .int) [(0, 10, 13, 13)], Cond.methodLink RL 36 yX4_trusted, Cond.instanceMethod yX4_trusted]
def wsL_law0_r26 : List Cond := [Cond.selects RX4 yX4_trusted yX4_trusted, Cond.code yX4_trusted cX4_trusted 4 (some .int), Cond.methodLink RX4 147 yX3_documentOf, Cond.methodLink RX4 151 yX0_end, Cond.methodLink RX4 154 yX0_version, Cond.methodLink RL 111 yX5_trusted, Cond.instanceMethod yX5_trusted, Cond.selects RX5 yX5_trusted yX5_trusted, Cond.code yX5_trusted cX5_trusted 3 (some .int), Cond.methodLink RL 112 yL_seek, Cond.static yL_seek, Cond.codeWith yL_seek cL_seek 6 (some .int) [(0, 11, 14, 18), (0, 11, 18, 32)], Cond.methodLink RL 40 yX4_seek, Cond.instanceMethod yX4_seek, Cond.selects RX4 yX4_seek yX4_seek, Cond.code yX4_seek cX4_seek 4 (some .int), Cond.fieldLink RX4 166 "TrustedUpdates" "latestVisits" "I", Cond.methodLink RX4 157 yX4_refuseUnlessSearchable, Cond.instanceMethod yX4_refuseUnlessSearchable, Cond.selects RX4 yX4_refuseUnlessSearchable yX4_refuseUnlessSearchable, Cond.code yX4_refuseUnlessSearchable cX4_refuseUnlessSearchable 4 none, Cond.methodLink RX4 180 yX4_isName, Cond.static yX4_isName, Cond.code yX4_isName cX4_isName 5 (some .boolean)]
def wsL_law0_r27 : List Cond := [Cond.methodLink RX4 184 yX3_allowsSeeking, Cond.instanceMethod yX3_allowsSeeking, Cond.selects RX3 yX3_allowsSeeking yX3_allowsSeeking, Cond.code yX3_allowsSeeking cX3_allowsSeeking 1 (some .boolean), Cond.methodLink RX3 53 yX3_isFresh, Cond.instanceMethod yX3_isFresh, Cond.selects RX3 yX3_isFresh yX3_isFresh, Cond.code yX3_isFresh cX3_isFresh 2 (some .boolean), Cond.methodLink RX4 160 yX2_run, Cond.instanceMethod yX2_run, Cond.selects RX2 yX2_run yX2_run, Cond.code yX2_run cX2_run 4 none, Cond.fieldLink RX2 67 "TrustedUpdates$Search" "visitedRoles" "I", Cond.fieldLink RX2 24 "TrustedUpdates$Search" "visitCount" "I", Cond.fieldLink RX2 28 "TrustedUpdates$Search" "foundRole" "I", Cond.fieldLink RX2 70 "TrustedUpdates$Search" "over" "Z", Cond.methodLink RX2 60 yX1_keepFirst, Cond.methodLink RX2 63 yX1_appendLowest, Cond.methodLink RX2 74 yX2_visit, Cond.instanceMethod yX2_visit, Cond.selects RX2 yX2_visit yX2_visit, Cond.code yX2_visit cX2_visit 5 none, Cond.fieldLink RX2 43 "TrustedUpdates$Search" "foundPlace" "I", Cond.methodLink RX2 31 yX3_documentOf]
def wsL_law0_r28 : List Cond := [Cond.methodLink RX2 78 yX0_targetNamed, Cond.instanceMethod yX0_targetNamed, Cond.selects RX0 yX0_targetNamed yX0_targetNamed, Cond.code yX0_targetNamed cX0_targetNamed 4 (some .int), Cond.methodLink RX2 82 yX0_delegationCount, Cond.instanceMethod yX0_delegationCount, Cond.selects RX0 yX0_delegationCount yX0_delegationCount, Cond.code yX0_delegationCount cX0_delegationCount 1 (some .int), Cond.methodLink RX2 85 yX2_mayFollow, Cond.instanceMethod yX2_mayFollow, Cond.selects RX2 yX2_mayFollow yX2_mayFollow, Cond.code yX2_mayFollow cX2_mayFollow 4 (some .boolean), Cond.methodLink RX2 89 yX0_delegateOf, Cond.instanceMethod yX0_delegateOf, Cond.selects RX0 yX0_delegateOf yX0_delegateOf, Cond.code yX0_delegateOf cX0_delegateOf 2 (some .int), Cond.methodLink RX0 136 yX0_delegationPlace, Cond.instanceMethod yX0_delegationPlace, Cond.selects RX0 yX0_delegationPlace yX0_delegationPlace, Cond.code yX0_delegationPlace cX0_delegationPlace 2 (some .int), Cond.methodLink RX2 96 yX0_delegates, Cond.instanceMethod yX0_delegates, Cond.selects RX0 yX0_delegates yX0_delegates, Cond.code yX0_delegates cX0_delegates 5 (some .boolean)]
def wsL_law0_r29 : List Cond := [Cond.methodLink RX0 139 yX0_delegatedKeySet, Cond.instanceMethod yX0_delegatedKeySet, Cond.selects RX0 yX0_delegatedKeySet yX0_delegatedKeySet, Cond.code yX0_delegatedKeySet cX0_delegatedKeySet 2 (some .int), Cond.methodLink RX2 100 yX3_isFresh, Cond.methodLink RX2 37 yX0_row, Cond.methodLink RX2 103 yX0_delegatedKeySet, Cond.methodLink RX2 106 yX0_isSignedAsAsked, Cond.methodLink RX2 92 yX0_isFinal, Cond.instanceMethod yX0_isFinal, Cond.selects RX0 yX0_isFinal yX0_isFinal, Cond.code yX0_isFinal cX0_isFinal 2 (some .boolean), Cond.methodLink RX4 163 yX2_visitCount, Cond.instanceMethod yX2_visitCount, Cond.selects RX2 yX2_visitCount yX2_visitCount, Cond.code yX2_visitCount cX2_visitCount 1 (some .int), Cond.methodLink RX4 170 yX2_foundRole, Cond.instanceMethod yX2_foundRole, Cond.selects RX2 yX2_foundRole yX2_foundRole, Cond.code yX2_foundRole cX2_foundRole 1 (some .int), Cond.methodLink RL 115 yX5_seek, Cond.instanceMethod yX5_seek, Cond.selects RX5 yX5_seek yX5_seek, Cond.code yX5_seek cX5_seek 4 (some .int)]
def wsL_law0_r30 : List Cond := [Cond.methodLink RX5 194 yX5_wrongSeek, Cond.instanceMethod yX5_wrongSeek, Cond.selects RX5 yX5_wrongSeek yX5_wrongSeek, Cond.code yX5_wrongSeek cX5_wrongSeek 4 (some .int), Cond.methodLink RX5 190 yX5_isName, Cond.static yX5_isName, Cond.code yX5_isName cX5_isName 5 (some .boolean), Cond.methodLink RX5 154 yX5_letter, Cond.static yX5_letter, Cond.code yX5_letter cX5_letter 3 (some .int), Cond.methodLink RX5 187 yX5_isFresh, Cond.instanceMethod yX5_isFresh, Cond.selects RX5 yX5_isFresh yX5_isFresh, Cond.code yX5_isFresh cX5_isFresh 2 (some .boolean), Cond.methodLink RX5 197 yX5_find, Cond.instanceMethod yX5_find, Cond.selects RX5 yX5_find yX5_find, Cond.code yX5_find cX5_find 8 (some .int), Cond.fieldLink RX5 168 "TrustedUpdatesModel" "depth" "I", Cond.fieldLink RX5 171 "TrustedUpdatesModel" "visited" "I", Cond.fieldLink RX5 174 "TrustedUpdatesModel" "seen" "I", Cond.methodLink RX5 177 yX5_visit, Cond.instanceMethod yX5_visit, Cond.selects RX5 yX5_visit yX5_visit]
def wsL_law0_r31 : List Cond := [Cond.code yX5_visit cX5_visit 2 none, Cond.methodLink RX5 180 yX5_hasTarget, Cond.instanceMethod yX5_hasTarget, Cond.selects RX5 yX5_hasTarget yX5_hasTarget, Cond.code yX5_hasTarget cX5_hasTarget 7 (some .boolean), Cond.fieldLink RX5 162 "TrustedUpdatesModel" "foundLength" "I", Cond.fieldLink RX5 165 "TrustedUpdatesModel" "foundDigest" "I", Cond.methodLink RX5 158 yX5_begins, Cond.instanceMethod yX5_begins, Cond.selects RX5 yX5_begins yX5_begins, Cond.code yX5_begins cX5_begins 7 (some .boolean), Cond.methodLink RX5 184 yX5_delegation, Cond.instanceMethod yX5_delegation, Cond.selects RX5 yX5_delegation yX5_delegation, Cond.code yX5_delegation cX5_delegation 6 (some .int), Cond.methodLink RL 116 yX4_visits, Cond.instanceMethod yX4_visits, Cond.selects RX4 yX4_visits yX4_visits, Cond.code yX4_visits cX4_visits 1 (some .int), Cond.methodLink RL 119 yX5_visits, Cond.instanceMethod yX5_visits, Cond.selects RX5 yX5_visits yX5_visits, Cond.code yX5_visits cX5_visits 1 (some .int), Cond.methodLink RL 120 yL_install]
def wsL_law0_r32 : List Cond := [Cond.static yL_install, Cond.codeWith yL_install cL_install 6 (some .int) [(0, 11, 14, 18), (0, 11, 18, 32), (0, 11, 22, 34), (0, 11, 26, 20)], Cond.methodLink RL 44 yX4_install, Cond.instanceMethod yX4_install, Cond.selects RX4 yX4_install yX4_install, Cond.code yX4_install cX4_install 4 (some .int), Cond.fieldLink RX4 177 "TrustedUpdates" "installs" "I", Cond.methodLink RX4 173 yX2_foundTargetIs, Cond.instanceMethod yX2_foundTargetIs, Cond.selects RX2 yX2_foundTargetIs yX2_foundTargetIs, Cond.code yX2_foundTargetIs cX2_foundTargetIs 3 (some .boolean), Cond.methodLink RX2 46 yX1_byteAt, Cond.methodLink RX2 50 yX1_size, Cond.methodLink RX2 54 yX1_wordAt, Cond.methodLink RX2 57 yX1_wholeDigest, Cond.methodLink RL 122 yX5_install, Cond.instanceMethod yX5_install, Cond.selects RX5 yX5_install yX5_install, Cond.code yX5_install cX5_install 6 (some .int), Cond.fieldLink RX5 200 "TrustedUpdatesModel" "installed" "I", Cond.methodLink RL 123 yX4_installed, Cond.instanceMethod yX4_installed, Cond.selects RX4 yX4_installed yX4_installed, Cond.code yX4_installed cX4_installed 1 (some .int)]
def wsL_law0_r33 : List Cond := [Cond.methodLink RL 126 yX5_installed, Cond.instanceMethod yX5_installed, Cond.selects RX5 yX5_installed yX5_installed, Cond.code yX5_installed cX5_installed 1 (some .int)]
def wsL_law0 : List Cond := (wsL_law0_r1 ++ (wsL_law0_r2 ++ (wsL_law0_r3 ++ (wsL_law0_r4 ++ (wsL_law0_r5 ++ (wsL_law0_r6 ++ (wsL_law0_r7 ++ (wsL_law0_r8 ++ (wsL_law0_r9 ++ (wsL_law0_r10 ++ (wsL_law0_r11 ++ (wsL_law0_r12 ++ (wsL_law0_r13 ++ (wsL_law0_r14 ++ (wsL_law0_r15 ++ (wsL_law0_r16 ++ (wsL_law0_r17 ++ (wsL_law0_r18 ++ (wsL_law0_r19 ++ (wsL_law0_r20 ++ (wsL_law0_r21 ++ (wsL_law0_r22 ++ (wsL_law0_r23 ++ (wsL_law0_r24 ++ (wsL_law0_r25 ++ (wsL_law0_r26 ++ (wsL_law0_r27 ++ (wsL_law0_r28 ++ (wsL_law0_r29 ++ (wsL_law0_r30 ++ (wsL_law0_r31 ++ (wsL_law0_r32 ++ wsL_law0_r33)))))))))))))))))))))))))))))))) ++ wsX40 ++ wsX50 ++ wsX10 ++ wsX00 ++ wsX30 ++ wsX20 ++ ([] : List Cond)
def wsL_law : List Cond := wsL_law0 ++ (vx_at0 RX4 68 "java/lang/IndexOutOfBoundsException" ["java/lang/RuntimeException", "java/lang/Exception"]).filter goodWord ++ (vx_at0 RX4 96 "java/lang/IllegalArgumentException" ["java/lang/RuntimeException", "java/lang/Exception"]).filter goodWord ++ (vx_at0 RX4 102 "java/lang/UnsupportedOperationException" ["java/lang/RuntimeException", "java/lang/Exception"]).filter goodWord ++ (vx_at0 RX4 134 "java/lang/IllegalStateException" ["java/lang/RuntimeException", "java/lang/Exception"]).filter goodWord ++ (vx_at0 RX4 143 "java/util/NoSuchElementException" ["java/lang/RuntimeException", "java/lang/Exception"]).filter goodWord
set_option maxRecDepth 20000 in
theorem ggX0_init_X1_init : GoodIn wsX0_init wsX1_init := goodIn_r _ [15, 16, 2, 3, 8, 17, 18, 19] (by decide +kernel) (by decide +kernel)
set_option maxRecDepth 20000 in
theorem gX0_init_X1_init : GoodIn wsX0_init (wsX1_init) := ggX0_init_X1_init
theorem dX0_init_0 : decode cX0_init 0 = .ok (.aload_n 0, 1) := by decide +kernel
theorem dX0_init_1 : decode cX0_init 1 = .ok (.invokespecial 3, 3) := by decide +kernel
theorem dX0_init_4 : decode cX0_init 4 = .ok (.aload_n 0, 1) := by decide +kernel
theorem dX0_init_5 : decode cX0_init 5 = .ok (.new 9, 3) := by decide +kernel
theorem dX0_init_8 : decode cX0_init 8 = .ok (.dup, 1) := by decide +kernel
theorem dX0_init_9 : decode cX0_init 9 = .ok (.bipush 120, 2) := by decide +kernel
theorem dX0_init_11 : decode cX0_init 11 = .ok (.invokespecial 11, 3) := by decide +kernel
theorem dX0_init_14 : decode cX0_init 14 = .ok (.putfield 14, 3) := by decide +kernel
theorem dX0_init_17 : decode cX0_init 17 = .ok (.aload_n 0, 1) := by decide +kernel
theorem dX0_init_18 : decode cX0_init 18 = .ok (.iconst 4, 1) := by decide +kernel
theorem dX0_init_19 : decode cX0_init 19 = .ok (.newarray .int, 2) := by decide +kernel
theorem dX0_init_21 : decode cX0_init 21 = .ok (.putfield 20, 3) := by decide +kernel
theorem dX0_init_24 : decode cX0_init 24 = .ok (.aload_n 0, 1) := by decide +kernel
theorem dX0_init_25 : decode cX0_init 25 = .ok (.bipush 7, 2) := by decide +kernel
end
section
theorem dX0_init_27 : decode cX0_init 27 = .ok (.newarray .int, 2) := by decide +kernel
theorem dX0_init_29 : decode cX0_init 29 = .ok (.putfield 24, 3) := by decide +kernel
theorem dX0_init_32 : decode cX0_init 32 = .ok (.aload_n 0, 1) := by decide +kernel
theorem dX0_init_33 : decode cX0_init 33 = .ok (.iconst 4, 1) := by decide +kernel
theorem dX0_init_34 : decode cX0_init 34 = .ok (.newarray .int, 2) := by decide +kernel
theorem dX0_init_36 : decode cX0_init 36 = .ok (.putfield 27, 3) := by decide +kernel
theorem dX0_init_39 : decode cX0_init 39 = .ok (.aload_n 0, 1) := by decide +kernel
theorem dX0_init_40 : decode cX0_init 40 = .ok (.iconst 3, 1) := by decide +kernel
theorem dX0_init_41 : decode cX0_init 41 = .ok (.newarray .int, 2) := by decide +kernel
theorem dX0_init_43 : decode cX0_init 43 = .ok (.putfield 30, 3) := by decide +kernel
theorem dX0_init_46 : decode cX0_init 46 = .ok (.return_, 1) := by decide +kernel
theorem dX0_isWhole_0 : decode cX0_isWhole 0 = .ok (.aload_n 0, 1) := by decide +kernel
theorem dX0_isWhole_1 : decode cX0_isWhole 1 = .ok (.getfield 33, 3) := by decide +kernel
theorem dX0_isWhole_4 : decode cX0_isWhole 4 = .ok (.ireturn, 1) := by decide +kernel
theorem dX0_isBare_0 : decode cX0_isBare 0 = .ok (.aload_n 0, 1) := by decide +kernel
theorem dX0_isBare_1 : decode cX0_isBare 1 = .ok (.getfield 37, 3) := by decide +kernel
theorem dX0_isBare_4 : decode cX0_isBare 4 = .ok (.ireturn, 1) := by decide +kernel
theorem dX0_row_0 : decode cX0_row 0 = .ok (.aload_n 0, 1) := by decide +kernel
theorem dX0_row_1 : decode cX0_row 1 = .ok (.getfield 14, 3) := by decide +kernel
theorem dX0_row_4 : decode cX0_row 4 = .ok (.areturn, 1) := by decide +kernel
theorem dX0_role_0 : decode cX0_role 0 = .ok (.aload_n 0, 1) := by decide +kernel
theorem dX0_role_1 : decode cX0_role 1 = .ok (.getfield 40, 3) := by decide +kernel
theorem dX0_role_4 : decode cX0_role 4 = .ok (.ireturn, 1) := by decide +kernel
theorem dX0_version_0 : decode cX0_version 0 = .ok (.aload_n 0, 1) := by decide +kernel
theorem dX0_version_1 : decode cX0_version 1 = .ok (.getfield 44, 3) := by decide +kernel
theorem dX0_version_4 : decode cX0_version 4 = .ok (.ireturn, 1) := by decide +kernel
theorem dX0_end_0 : decode cX0_end 0 = .ok (.aload_n 0, 1) := by decide +kernel
theorem dX0_end_1 : decode cX0_end 1 = .ok (.getfield 47, 3) := by decide +kernel
theorem dX0_end_4 : decode cX0_end 4 = .ok (.ireturn, 1) := by decide +kernel
theorem dX0_signedSize_0 : decode cX0_signedSize 0 = .ok (.aload_n 0, 1) := by decide +kernel
theorem dX0_signedSize_1 : decode cX0_signedSize 1 = .ok (.getfield 50, 3) := by decide +kernel
theorem dX0_signedSize_4 : decode cX0_signedSize 4 = .ok (.ireturn, 1) := by decide +kernel
set_option maxRecDepth 20000 in
theorem ggX0_signatureCount_X1_byteAt : GoodIn wsX0_signatureCount wsX1_byteAt := goodIn_r _ [7, 8, 9, 25, 26] (by decide +kernel) (by decide +kernel)
set_option maxRecDepth 20000 in
theorem gX0_signatureCount_X1_byteAt : GoodIn wsX0_signatureCount (wsV RX0 53 RX1 yX1_byteAt wsX1_byteAt) := goodIn_app (goodIn_of _ (by decide +kernel)) ggX0_signatureCount_X1_byteAt
theorem dX0_signatureCount_0 : decode cX0_signatureCount 0 = .ok (.aload_n 0, 1) := by decide +kernel
theorem dX0_signatureCount_1 : decode cX0_signatureCount 1 = .ok (.getfield 14, 3) := by decide +kernel
theorem dX0_signatureCount_4 : decode cX0_signatureCount 4 = .ok (.aload_n 0, 1) := by decide +kernel
theorem dX0_signatureCount_5 : decode cX0_signatureCount 5 = .ok (.getfield 50, 3) := by decide +kernel
theorem dX0_signatureCount_8 : decode cX0_signatureCount 8 = .ok (.invokevirtual 53, 3) := by decide +kernel
theorem dX0_signatureCount_11 : decode cX0_signatureCount 11 = .ok (.ireturn, 1) := by decide +kernel
theorem dX0_clear_0 : decode cX0_clear 0 = .ok (.aload_n 0, 1) := by decide +kernel
theorem dX0_clear_1 : decode cX0_clear 1 = .ok (.iconst 0, 1) := by decide +kernel
theorem dX0_clear_2 : decode cX0_clear 2 = .ok (.putfield 33, 3) := by decide +kernel
theorem dX0_clear_5 : decode cX0_clear 5 = .ok (.return_, 1) := by decide +kernel
set_option maxRecDepth 20000 in
theorem ggX0_read_X1_become : GoodIn wsX0_read wsX1_become := goodIn_r _ [11, 12, 13, 14, 15, 16, 17, 100, 101] (by decide +kernel) (by decide +kernel)
set_option maxRecDepth 20000 in
theorem gX0_read_X1_become : GoodIn wsX0_read (wsV RX0 57 RX1 yX1_become wsX1_become) := goodIn_app (goodIn_of _ (by decide +kernel)) ggX0_read_X1_become
set_option maxRecDepth 20000 in
theorem ggX0_read_X0_readSigned : GoodIn wsX0_read wsX0_readSigned := goodIn_r _ [22, 23, 24, 25, 26, 27, 28, 21, 29, 1, 2, 3, 30, 31, 32, 10, 33, 12, 13, 34, 35, 36, 37, 38, 39, 40, 41, 42, 43, 44, 45, 46, 47, 48, 49, 50, 51, 52, 53, 54, 55, 56, 57, 58, 59, 60, 61, 62, 63, 64, 65, 66, 67, 68, 69, 70, 71, 72, 73, 74, 75, 76, 85, 86, 87, 88, 89, 90, 91, 92, 93, 94, 95, 96, 97, 98, 99, 100, 101] (by decide +kernel) (by decide +kernel)
set_option maxRecDepth 20000 in
theorem gX0_read_X0_readSigned : GoodIn wsX0_read (wsV RX0 67 RX0 yX0_readSigned wsX0_readSigned) := goodIn_app (goodIn_of _ (by decide +kernel)) ggX0_read_X0_readSigned
set_option maxRecDepth 20000 in
theorem ggX0_read_X1_size : GoodIn wsX0_read wsX1_size := goodIn_r _ [80, 12, 100, 101] (by decide +kernel) (by decide +kernel)
set_option maxRecDepth 20000 in
theorem gX0_read_X1_size : GoodIn wsX0_read (wsV RX0 70 RX1 yX1_size wsX1_size) := goodIn_app (goodIn_of _ (by decide +kernel)) ggX0_read_X1_size
set_option maxRecDepth 20000 in
theorem ggX0_read_X0_readSignatures : GoodIn wsX0_read wsX0_readSignatures := goodIn_r _ [84, 26, 27, 28, 21, 29, 1, 2, 3, 30, 31, 32, 10, 33, 12, 13, 43, 44, 45, 46, 85, 86, 87, 88, 89, 90, 91, 92, 93, 94, 95, 96, 97, 98, 99, 100, 101] (by decide +kernel) (by decide +kernel)
set_option maxRecDepth 20000 in
theorem gX0_read_X0_readSignatures : GoodIn wsX0_read (wsV RX0 74 RX0 yX0_readSignatures wsX0_readSignatures) := goodIn_app (goodIn_of _ (by decide +kernel)) ggX0_read_X0_readSignatures
theorem dX0_read_0 : decode cX0_read 0 = .ok (.aload_n 0, 1) := by decide +kernel
theorem dX0_read_1 : decode cX0_read 1 = .ok (.getfield 14, 3) := by decide +kernel
theorem dX0_read_4 : decode cX0_read 4 = .ok (.aload_n 1, 1) := by decide +kernel
theorem dX0_read_5 : decode cX0_read 5 = .ok (.invokevirtual 57, 3) := by decide +kernel
theorem dX0_read_8 : decode cX0_read 8 = .ok (.aload_n 0, 1) := by decide +kernel
theorem dX0_read_9 : decode cX0_read 9 = .ok (.iconst 0, 1) := by decide +kernel
theorem dX0_read_10 : decode cX0_read 10 = .ok (.putfield 61, 3) := by decide +kernel
theorem dX0_read_13 : decode cX0_read 13 = .ok (.aload_n 0, 1) := by decide +kernel
theorem dX0_read_14 : decode cX0_read 14 = .ok (.iconst 1, 1) := by decide +kernel
theorem dX0_read_15 : decode cX0_read 15 = .ok (.putfield 64, 3) := by decide +kernel
theorem dX0_read_18 : decode cX0_read 18 = .ok (.aload_n 0, 1) := by decide +kernel
theorem dX0_read_19 : decode cX0_read 19 = .ok (.invokevirtual 67, 3) := by decide +kernel
theorem dX0_read_22 : decode cX0_read 22 = .ok (.aload_n 0, 1) := by decide +kernel
theorem dX0_read_23 : decode cX0_read 23 = .ok (.aload_n 0, 1) := by decide +kernel
theorem dX0_read_24 : decode cX0_read 24 = .ok (.getfield 61, 3) := by decide +kernel
theorem dX0_read_27 : decode cX0_read 27 = .ok (.putfield 50, 3) := by decide +kernel
theorem dX0_read_30 : decode cX0_read 30 = .ok (.aload_n 0, 1) := by decide +kernel
theorem dX0_read_31 : decode cX0_read 31 = .ok (.aload_n 0, 1) := by decide +kernel
theorem dX0_read_32 : decode cX0_read 32 = .ok (.getfield 64, 3) := by decide +kernel
theorem dX0_read_35 : decode cX0_read 35 = .ok (.ifCond .eq 21, 3) := by decide +kernel
theorem dX0_read_38 : decode cX0_read 38 = .ok (.aload_n 0, 1) := by decide +kernel
theorem dX0_read_39 : decode cX0_read 39 = .ok (.getfield 61, 3) := by decide +kernel
theorem dX0_read_42 : decode cX0_read 42 = .ok (.aload_n 0, 1) := by decide +kernel
theorem dX0_read_43 : decode cX0_read 43 = .ok (.getfield 14, 3) := by decide +kernel
theorem dX0_read_46 : decode cX0_read 46 = .ok (.invokevirtual 70, 3) := by decide +kernel
theorem dX0_read_49 : decode cX0_read 49 = .ok (.if_icmp .ne 7, 3) := by decide +kernel
theorem dX0_read_52 : decode cX0_read 52 = .ok (.iconst 1, 1) := by decide +kernel
theorem dX0_read_53 : decode cX0_read 53 = .ok (.goto 4, 3) := by decide +kernel
theorem dX0_read_56 : decode cX0_read 56 = .ok (.iconst 0, 1) := by decide +kernel
theorem dX0_read_57 : decode cX0_read 57 = .ok (.putfield 37, 3) := by decide +kernel
theorem dX0_read_60 : decode cX0_read 60 = .ok (.aload_n 0, 1) := by decide +kernel
theorem dX0_read_61 : decode cX0_read 61 = .ok (.invokevirtual 74, 3) := by decide +kernel
theorem dX0_read_64 : decode cX0_read 64 = .ok (.aload_n 0, 1) := by decide +kernel
theorem dX0_read_65 : decode cX0_read 65 = .ok (.aload_n 0, 1) := by decide +kernel
theorem dX0_read_66 : decode cX0_read 66 = .ok (.getfield 64, 3) := by decide +kernel
theorem dX0_read_69 : decode cX0_read 69 = .ok (.ifCond .eq 21, 3) := by decide +kernel
theorem dX0_read_72 : decode cX0_read 72 = .ok (.aload_n 0, 1) := by decide +kernel
theorem dX0_read_73 : decode cX0_read 73 = .ok (.getfield 61, 3) := by decide +kernel
theorem dX0_read_76 : decode cX0_read 76 = .ok (.aload_n 0, 1) := by decide +kernel
theorem dX0_read_77 : decode cX0_read 77 = .ok (.getfield 14, 3) := by decide +kernel
theorem dX0_read_80 : decode cX0_read 80 = .ok (.invokevirtual 70, 3) := by decide +kernel
theorem dX0_read_83 : decode cX0_read 83 = .ok (.if_icmp .ne 7, 3) := by decide +kernel
theorem dX0_read_86 : decode cX0_read 86 = .ok (.iconst 1, 1) := by decide +kernel
theorem dX0_read_87 : decode cX0_read 87 = .ok (.goto 4, 3) := by decide +kernel
theorem dX0_read_90 : decode cX0_read 90 = .ok (.iconst 0, 1) := by decide +kernel
theorem dX0_read_91 : decode cX0_read 91 = .ok (.putfield 33, 3) := by decide +kernel
theorem dX0_read_94 : decode cX0_read 94 = .ok (.return_, 1) := by decide +kernel
set_option maxRecDepth 20000 in
theorem ggX0_next_X1_byteAt : GoodIn wsX0_next wsX1_byteAt := goodIn_r _ [8, 9, 10, 26, 27] (by decide +kernel) (by decide +kernel)
set_option maxRecDepth 20000 in
theorem gX0_next_X1_byteAt : GoodIn wsX0_next (wsV RX0 53 RX1 yX1_byteAt wsX1_byteAt) := goodIn_app (goodIn_of _ (by decide +kernel)) ggX0_next_X1_byteAt
theorem dX0_next_0 : decode cX0_next 0 = .ok (.aload_n 0, 1) := by decide +kernel
theorem dX0_next_1 : decode cX0_next 1 = .ok (.getfield 14, 3) := by decide +kernel
theorem dX0_next_4 : decode cX0_next 4 = .ok (.aload_n 0, 1) := by decide +kernel
theorem dX0_next_5 : decode cX0_next 5 = .ok (.getfield 61, 3) := by decide +kernel
theorem dX0_next_8 : decode cX0_next 8 = .ok (.invokevirtual 53, 3) := by decide +kernel
theorem dX0_next_11 : decode cX0_next 11 = .ok (.istore_n 3, 1) := by decide +kernel
theorem dX0_next_12 : decode cX0_next 12 = .ok (.iload_n 3, 1) := by decide +kernel
theorem dX0_next_13 : decode cX0_next 13 = .ok (.iload_n 1, 1) := by decide +kernel
theorem dX0_next_14 : decode cX0_next 14 = .ok (.if_icmp .lt 8, 3) := by decide +kernel
theorem dX0_next_17 : decode cX0_next 17 = .ok (.iload_n 3, 1) := by decide +kernel
theorem dX0_next_18 : decode cX0_next 18 = .ok (.iload_n 2, 1) := by decide +kernel
theorem dX0_next_19 : decode cX0_next 19 = .ok (.if_icmp .le 10, 3) := by decide +kernel
theorem dX0_next_22 : decode cX0_next 22 = .ok (.aload_n 0, 1) := by decide +kernel
theorem dX0_next_23 : decode cX0_next 23 = .ok (.iconst 0, 1) := by decide +kernel
theorem dX0_next_24 : decode cX0_next 24 = .ok (.putfield 64, 3) := by decide +kernel
theorem dX0_next_27 : decode cX0_next 27 = .ok (.iload_n 1, 1) := by decide +kernel
theorem dX0_next_28 : decode cX0_next 28 = .ok (.ireturn, 1) := by decide +kernel
theorem dX0_next_29 : decode cX0_next 29 = .ok (.aload_n 0, 1) := by decide +kernel
theorem dX0_next_30 : decode cX0_next 30 = .ok (.dup, 1) := by decide +kernel
theorem dX0_next_31 : decode cX0_next 31 = .ok (.getfield 61, 3) := by decide +kernel
theorem dX0_next_34 : decode cX0_next 34 = .ok (.iconst 1, 1) := by decide +kernel
theorem dX0_next_35 : decode cX0_next 35 = .ok (.iadd, 1) := by decide +kernel
theorem dX0_next_36 : decode cX0_next 36 = .ok (.putfield 61, 3) := by decide +kernel
theorem dX0_next_39 : decode cX0_next 39 = .ok (.iload_n 3, 1) := by decide +kernel
theorem dX0_next_40 : decode cX0_next 40 = .ok (.ireturn, 1) := by decide +kernel
set_option maxRecDepth 20000 in
theorem ggX0_skip_X0_next : GoodIn wsX0_skip wsX0_next := goodIn_r _ [5, 6, 7, 8, 9, 10, 11, 12, 13, 14, 15, 16, 17, 18, 19, 20, 21, 22, 23, 24, 25, 26, 27, 28, 29, 30, 31, 32] (by decide +kernel) (by decide +kernel)
set_option maxRecDepth 20000 in
theorem gX0_skip_X0_next : GoodIn wsX0_skip (wsV RX0 77 RX0 yX0_next wsX0_next) := goodIn_app (goodIn_of _ (by decide +kernel)) ggX0_skip_X0_next
theorem dX0_skip_0 : decode cX0_skip 0 = .ok (.iconst 0, 1) := by decide +kernel
theorem dX0_skip_1 : decode cX0_skip 1 = .ok (.istore_n 2, 1) := by decide +kernel
theorem dX0_skip_2 : decode cX0_skip 2 = .ok (.iload_n 2, 1) := by decide +kernel
theorem dX0_skip_3 : decode cX0_skip 3 = .ok (.iload_n 1, 1) := by decide +kernel
theorem dX0_skip_4 : decode cX0_skip 4 = .ok (.if_icmp .ge 18, 3) := by decide +kernel
theorem dX0_skip_7 : decode cX0_skip 7 = .ok (.aload_n 0, 1) := by decide +kernel
theorem dX0_skip_8 : decode cX0_skip 8 = .ok (.iconst 0, 1) := by decide +kernel
theorem dX0_skip_9 : decode cX0_skip 9 = .ok (.sipush 255, 3) := by decide +kernel
theorem dX0_skip_12 : decode cX0_skip 12 = .ok (.invokevirtual 77, 3) := by decide +kernel
theorem dX0_skip_15 : decode cX0_skip 15 = .ok (.pop, 1) := by decide +kernel
theorem dX0_skip_16 : decode cX0_skip 16 = .ok (.iinc 2 1, 3) := by decide +kernel
theorem dX0_skip_19 : decode cX0_skip 19 = .ok (.goto (-17), 3) := by decide +kernel
theorem dX0_skip_22 : decode cX0_skip 22 = .ok (.return_, 1) := by decide +kernel
set_option maxRecDepth 20000 in
theorem ggX0_readSigned_X0_next : GoodIn wsX0_readSigned wsX0_next := goodIn_r _ [8, 9, 10, 11, 12, 13, 14, 15, 16, 17, 18, 62, 63, 64, 65, 66, 67, 68, 69, 70, 71, 72, 73, 74, 75, 76, 77, 78] (by decide +kernel) (by decide +kernel)
set_option maxRecDepth 20000 in
theorem gX0_readSigned_X0_next : GoodIn wsX0_readSigned (wsV RX0 77 RX0 yX0_next wsX0_next) := goodIn_app (goodIn_of _ (by decide +kernel)) ggX0_readSigned_X0_next
set_option maxRecDepth 20000 in
theorem ggX0_readSigned_X0_readRootKeySets : GoodIn wsX0_readSigned wsX0_readRootKeySets := goodIn_r _ [22, 23, 10, 24, 25, 26, 7, 27, 4, 5, 6, 8, 9, 11, 12, 13, 14, 15, 16, 17, 18, 62, 63, 64, 65, 66, 67, 68, 69, 70, 71, 72, 73, 74, 75, 76, 77, 78] (by decide +kernel) (by decide +kernel)
set_option maxRecDepth 20000 in
theorem gX0_readSigned_X0_readRootKeySets : GoodIn wsX0_readSigned (wsV RX0 81 RX0 yX0_readRootKeySets wsX0_readRootKeySets) := goodIn_app (goodIn_of _ (by decide +kernel)) ggX0_readSigned_X0_readRootKeySets
set_option maxRecDepth 20000 in
theorem ggX0_readSigned_X0_skip : GoodIn wsX0_readSigned wsX0_skip := goodIn_r _ [31, 4, 5, 6, 7, 8, 9, 10, 11, 12, 13, 14, 15, 16, 17, 18, 62, 63, 64, 65, 66, 67, 68, 69, 70, 71, 72, 73, 74, 75, 76, 77, 78] (by decide +kernel) (by decide +kernel)
set_option maxRecDepth 20000 in
theorem gX0_readSigned_X0_skip : GoodIn wsX0_readSigned (wsV RX0 84 RX0 yX0_skip wsX0_skip) := goodIn_app (goodIn_of _ (by decide +kernel)) ggX0_readSigned_X0_skip
set_option maxRecDepth 20000 in
theorem ggX0_readSigned_X0_readEntries : GoodIn wsX0_readSigned wsX0_readEntries := goodIn_r _ [35, 36, 4, 5, 6, 7, 8, 9, 10, 11, 12, 13, 14, 15, 16, 17, 18, 62, 63, 64, 65, 66, 67, 68, 69, 70, 71, 72, 73, 74, 75, 76, 77, 78] (by decide +kernel) (by decide +kernel)
set_option maxRecDepth 20000 in
theorem gX0_readSigned_X0_readEntries : GoodIn wsX0_readSigned (wsV RX0 87 RX0 yX0_readEntries wsX0_readEntries) := goodIn_app (goodIn_of _ (by decide +kernel)) ggX0_readSigned_X0_readEntries
set_option maxRecDepth 20000 in
theorem ggX0_readSigned_X0_readTargets : GoodIn wsX0_readSigned wsX0_readTargets := goodIn_r _ [40, 41, 42, 10, 11, 4, 5, 6, 7, 8, 9, 12, 13, 14, 15, 16, 17, 18, 43, 44, 45, 46, 28, 29, 30, 31, 47, 48, 49, 50, 51, 52, 53, 54, 55, 62, 63, 64, 65, 66, 67, 68, 69, 70, 71, 72, 73, 74, 75, 76, 77, 78] (by decide +kernel) (by decide +kernel)
set_option maxRecDepth 20000 in
theorem gX0_readSigned_X0_readTargets : GoodIn wsX0_readSigned (wsV RX0 90 RX0 yX0_readTargets wsX0_readTargets) := goodIn_app (goodIn_of _ (by decide +kernel)) ggX0_readSigned_X0_readTargets
set_option maxRecDepth 20000 in
theorem ggX0_readSigned_X0_readDelegations : GoodIn wsX0_readSigned wsX0_readDelegations := goodIn_r _ [59, 60, 61, 10, 11, 4, 5, 6, 7, 8, 9, 12, 13, 14, 15, 16, 17, 18, 24, 25, 26, 27, 43, 44, 45, 46, 62, 63, 64, 65, 66, 67, 68, 69, 70, 71, 72, 73, 74, 75, 76, 77, 78] (by decide +kernel) (by decide +kernel)
set_option maxRecDepth 20000 in
theorem gX0_readSigned_X0_readDelegations : GoodIn wsX0_readSigned (wsV RX0 93 RX0 yX0_readDelegations wsX0_readDelegations) := goodIn_app (goodIn_of _ (by decide +kernel)) ggX0_readSigned_X0_readDelegations
theorem dX0_readSigned_0 : decode cX0_readSigned 0 = .ok (.aload_n 0, 1) := by decide +kernel
theorem dX0_readSigned_1 : decode cX0_readSigned 1 = .ok (.aload_n 0, 1) := by decide +kernel
theorem dX0_readSigned_2 : decode cX0_readSigned 2 = .ok (.iconst 0, 1) := by decide +kernel
theorem dX0_readSigned_3 : decode cX0_readSigned 3 = .ok (.bipush 6, 2) := by decide +kernel
theorem dX0_readSigned_5 : decode cX0_readSigned 5 = .ok (.invokevirtual 77, 3) := by decide +kernel
theorem dX0_readSigned_8 : decode cX0_readSigned 8 = .ok (.putfield 40, 3) := by decide +kernel
theorem dX0_readSigned_11 : decode cX0_readSigned 11 = .ok (.aload_n 0, 1) := by decide +kernel
theorem dX0_readSigned_12 : decode cX0_readSigned 12 = .ok (.aload_n 0, 1) := by decide +kernel
theorem dX0_readSigned_13 : decode cX0_readSigned 13 = .ok (.iconst 1, 1) := by decide +kernel
theorem dX0_readSigned_14 : decode cX0_readSigned 14 = .ok (.sipush 255, 3) := by decide +kernel
theorem dX0_readSigned_17 : decode cX0_readSigned 17 = .ok (.invokevirtual 77, 3) := by decide +kernel
theorem dX0_readSigned_20 : decode cX0_readSigned 20 = .ok (.putfield 44, 3) := by decide +kernel
theorem dX0_readSigned_23 : decode cX0_readSigned 23 = .ok (.aload_n 0, 1) := by decide +kernel
theorem dX0_readSigned_24 : decode cX0_readSigned 24 = .ok (.iconst 0, 1) := by decide +kernel
theorem dX0_readSigned_25 : decode cX0_readSigned 25 = .ok (.sipush 255, 3) := by decide +kernel
theorem dX0_readSigned_28 : decode cX0_readSigned 28 = .ok (.invokevirtual 77, 3) := by decide +kernel
theorem dX0_readSigned_31 : decode cX0_readSigned 31 = .ok (.istore_n 1, 1) := by decide +kernel
theorem dX0_readSigned_32 : decode cX0_readSigned 32 = .ok (.aload_n 0, 1) := by decide +kernel
theorem dX0_readSigned_33 : decode cX0_readSigned 33 = .ok (.iload_n 1, 1) := by decide +kernel
theorem dX0_readSigned_34 : decode cX0_readSigned 34 = .ok (.bipush 8, 2) := by decide +kernel
theorem dX0_readSigned_36 : decode cX0_readSigned 36 = .ok (.ishl, 1) := by decide +kernel
theorem dX0_readSigned_37 : decode cX0_readSigned 37 = .ok (.aload_n 0, 1) := by decide +kernel
theorem dX0_readSigned_38 : decode cX0_readSigned 38 = .ok (.iconst 0, 1) := by decide +kernel
theorem dX0_readSigned_39 : decode cX0_readSigned 39 = .ok (.sipush 255, 3) := by decide +kernel
theorem dX0_readSigned_42 : decode cX0_readSigned 42 = .ok (.invokevirtual 77, 3) := by decide +kernel
theorem dX0_readSigned_45 : decode cX0_readSigned 45 = .ok (.ior, 1) := by decide +kernel
theorem dX0_readSigned_46 : decode cX0_readSigned 46 = .ok (.putfield 47, 3) := by decide +kernel
theorem dX0_readSigned_49 : decode cX0_readSigned 49 = .ok (.aload_n 0, 1) := by decide +kernel
theorem dX0_readSigned_50 : decode cX0_readSigned 50 = .ok (.getfield 40, 3) := by decide +kernel
theorem dX0_readSigned_53 : decode cX0_readSigned 53 = .ok (.tableswitch 58 0 2 #[27, 34, 51], 27) := by decide +kernel
theorem dX0_readSigned_80 : decode cX0_readSigned 80 = .ok (.aload_n 0, 1) := by decide +kernel
theorem dX0_readSigned_81 : decode cX0_readSigned 81 = .ok (.invokevirtual 81, 3) := by decide +kernel
theorem dX0_readSigned_84 : decode cX0_readSigned 84 = .ok (.goto 35, 3) := by decide +kernel
theorem dX0_readSigned_87 : decode cX0_readSigned 87 = .ok (.aload_n 0, 1) := by decide +kernel
theorem dX0_readSigned_88 : decode cX0_readSigned 88 = .ok (.iconst 1, 1) := by decide +kernel
theorem dX0_readSigned_89 : decode cX0_readSigned 89 = .ok (.sipush 255, 3) := by decide +kernel
theorem dX0_readSigned_92 : decode cX0_readSigned 92 = .ok (.invokevirtual 77, 3) := by decide +kernel
theorem dX0_readSigned_95 : decode cX0_readSigned 95 = .ok (.pop, 1) := by decide +kernel
theorem dX0_readSigned_96 : decode cX0_readSigned 96 = .ok (.aload_n 0, 1) := by decide +kernel
theorem dX0_readSigned_97 : decode cX0_readSigned 97 = .ok (.iconst 4, 1) := by decide +kernel
theorem dX0_readSigned_98 : decode cX0_readSigned 98 = .ok (.invokevirtual 84, 3) := by decide +kernel
theorem dX0_readSigned_101 : decode cX0_readSigned 101 = .ok (.goto 18, 3) := by decide +kernel
theorem dX0_readSigned_104 : decode cX0_readSigned 104 = .ok (.aload_n 0, 1) := by decide +kernel
theorem dX0_readSigned_105 : decode cX0_readSigned 105 = .ok (.invokevirtual 87, 3) := by decide +kernel
theorem dX0_readSigned_108 : decode cX0_readSigned 108 = .ok (.goto 11, 3) := by decide +kernel
theorem dX0_readSigned_111 : decode cX0_readSigned 111 = .ok (.aload_n 0, 1) := by decide +kernel
theorem dX0_readSigned_112 : decode cX0_readSigned 112 = .ok (.invokevirtual 90, 3) := by decide +kernel
theorem dX0_readSigned_115 : decode cX0_readSigned 115 = .ok (.aload_n 0, 1) := by decide +kernel
theorem dX0_readSigned_116 : decode cX0_readSigned 116 = .ok (.invokevirtual 93, 3) := by decide +kernel
theorem dX0_readSigned_119 : decode cX0_readSigned 119 = .ok (.return_, 1) := by decide +kernel
set_option maxRecDepth 20000 in
theorem ggX0_readRootKeySets_X0_readKeySet : GoodIn wsX0_readRootKeySets wsX0_readKeySet := goodIn_r _ [7, 8, 9, 10, 6, 11, 12, 2, 13, 14, 15, 16, 17, 18, 19, 20, 21, 22, 23, 24, 25, 26, 27, 28, 29, 30, 31, 32, 33, 34, 35, 36, 37] (by decide +kernel) (by decide +kernel)
set_option maxRecDepth 20000 in
theorem gX0_readRootKeySets_X0_readKeySet : GoodIn wsX0_readRootKeySets (wsV RX0 96 RX0 yX0_readKeySet wsX0_readKeySet) := goodIn_app (goodIn_of _ (by decide +kernel)) ggX0_readRootKeySets_X0_readKeySet
theorem dX0_readRootKeySets_0 : decode cX0_readRootKeySets 0 = .ok (.iconst 0, 1) := by decide +kernel
theorem dX0_readRootKeySets_1 : decode cX0_readRootKeySets 1 = .ok (.istore_n 1, 1) := by decide +kernel
theorem dX0_readRootKeySets_2 : decode cX0_readRootKeySets 2 = .ok (.iload_n 1, 1) := by decide +kernel
theorem dX0_readRootKeySets_3 : decode cX0_readRootKeySets 3 = .ok (.iconst 4, 1) := by decide +kernel
theorem dX0_readRootKeySets_4 : decode cX0_readRootKeySets 4 = .ok (.if_icmp .ge 23, 3) := by decide +kernel
theorem dX0_readRootKeySets_7 : decode cX0_readRootKeySets 7 = .ok (.aload_n 0, 1) := by decide +kernel
theorem dX0_readRootKeySets_8 : decode cX0_readRootKeySets 8 = .ok (.getfield 20, 3) := by decide +kernel
theorem dX0_readRootKeySets_11 : decode cX0_readRootKeySets 11 = .ok (.iload_n 1, 1) := by decide +kernel
theorem dX0_readRootKeySets_12 : decode cX0_readRootKeySets 12 = .ok (.aload_n 0, 1) := by decide +kernel
theorem dX0_readRootKeySets_13 : decode cX0_readRootKeySets 13 = .ok (.getfield 61, 3) := by decide +kernel
theorem dX0_readRootKeySets_16 : decode cX0_readRootKeySets 16 = .ok (.iastore, 1) := by decide +kernel
theorem dX0_readRootKeySets_17 : decode cX0_readRootKeySets 17 = .ok (.aload_n 0, 1) := by decide +kernel
theorem dX0_readRootKeySets_18 : decode cX0_readRootKeySets 18 = .ok (.invokevirtual 96, 3) := by decide +kernel
theorem dX0_readRootKeySets_21 : decode cX0_readRootKeySets 21 = .ok (.iinc 1 1, 3) := by decide +kernel
theorem dX0_readRootKeySets_24 : decode cX0_readRootKeySets 24 = .ok (.goto (-22), 3) := by decide +kernel
theorem dX0_readRootKeySets_27 : decode cX0_readRootKeySets 27 = .ok (.return_, 1) := by decide +kernel
set_option maxRecDepth 20000 in
theorem ggX0_readKeySet_X0_next : GoodIn wsX0_readKeySet wsX0_next := goodIn_r _ [5, 6, 7, 8, 9, 10, 11, 12, 13, 14, 15, 16, 17, 18, 19, 20, 21, 22, 23, 24, 25, 26, 27, 28, 29, 30, 31, 32] (by decide +kernel) (by decide +kernel)
set_option maxRecDepth 20000 in
theorem gX0_readKeySet_X0_next : GoodIn wsX0_readKeySet (wsV RX0 77 RX0 yX0_next wsX0_next) := goodIn_app (goodIn_of _ (by decide +kernel)) ggX0_readKeySet_X0_next
theorem dX0_readKeySet_0 : decode cX0_readKeySet 0 = .ok (.aload_n 0, 1) := by decide +kernel
theorem dX0_readKeySet_1 : decode cX0_readKeySet 1 = .ok (.iconst 1, 1) := by decide +kernel
theorem dX0_readKeySet_2 : decode cX0_readKeySet 2 = .ok (.iconst 4, 1) := by decide +kernel
theorem dX0_readKeySet_3 : decode cX0_readKeySet 3 = .ok (.invokevirtual 77, 3) := by decide +kernel
theorem dX0_readKeySet_6 : decode cX0_readKeySet 6 = .ok (.istore_n 1, 1) := by decide +kernel
theorem dX0_readKeySet_7 : decode cX0_readKeySet 7 = .ok (.aload_n 0, 1) := by decide +kernel
theorem dX0_readKeySet_8 : decode cX0_readKeySet 8 = .ok (.iload_n 1, 1) := by decide +kernel
theorem dX0_readKeySet_9 : decode cX0_readKeySet 9 = .ok (.iconst 4, 1) := by decide +kernel
theorem dX0_readKeySet_10 : decode cX0_readKeySet 10 = .ok (.invokevirtual 77, 3) := by decide +kernel
theorem dX0_readKeySet_13 : decode cX0_readKeySet 13 = .ok (.istore_n 2, 1) := by decide +kernel
theorem dX0_readKeySet_14 : decode cX0_readKeySet 14 = .ok (.iconst 0, 1) := by decide +kernel
theorem dX0_readKeySet_15 : decode cX0_readKeySet 15 = .ok (.istore_n 3, 1) := by decide +kernel
theorem dX0_readKeySet_16 : decode cX0_readKeySet 16 = .ok (.iconst 0, 1) := by decide +kernel
theorem dX0_readKeySet_17 : decode cX0_readKeySet 17 = .ok (.istore 4, 2) := by decide +kernel
theorem dX0_readKeySet_19 : decode cX0_readKeySet 19 = .ok (.iload 4, 2) := by decide +kernel
theorem dX0_readKeySet_21 : decode cX0_readKeySet 21 = .ok (.iload_n 2, 1) := by decide +kernel
theorem dX0_readKeySet_22 : decode cX0_readKeySet 22 = .ok (.if_icmp .ge 19, 3) := by decide +kernel
theorem dX0_readKeySet_25 : decode cX0_readKeySet 25 = .ok (.aload_n 0, 1) := by decide +kernel
theorem dX0_readKeySet_26 : decode cX0_readKeySet 26 = .ok (.iload_n 3, 1) := by decide +kernel
theorem dX0_readKeySet_27 : decode cX0_readKeySet 27 = .ok (.bipush 9, 2) := by decide +kernel
theorem dX0_readKeySet_29 : decode cX0_readKeySet 29 = .ok (.invokevirtual 77, 3) := by decide +kernel
theorem dX0_readKeySet_32 : decode cX0_readKeySet 32 = .ok (.iconst 1, 1) := by decide +kernel
theorem dX0_readKeySet_33 : decode cX0_readKeySet 33 = .ok (.iadd, 1) := by decide +kernel
theorem dX0_readKeySet_34 : decode cX0_readKeySet 34 = .ok (.istore_n 3, 1) := by decide +kernel
theorem dX0_readKeySet_35 : decode cX0_readKeySet 35 = .ok (.iinc 4 1, 3) := by decide +kernel
theorem dX0_readKeySet_38 : decode cX0_readKeySet 38 = .ok (.goto (-19), 3) := by decide +kernel
theorem dX0_readKeySet_41 : decode cX0_readKeySet 41 = .ok (.return_, 1) := by decide +kernel
set_option maxRecDepth 20000 in
theorem ggX0_readEntries_X0_next : GoodIn wsX0_readEntries wsX0_next := goodIn_r _ [6, 7, 8, 9, 10, 11, 12, 13, 14, 15, 16, 17, 18, 19, 20, 21, 22, 23, 24, 25, 26, 27, 28, 29, 30, 31, 32, 33] (by decide +kernel) (by decide +kernel)
set_option maxRecDepth 20000 in
theorem gX0_readEntries_X0_next : GoodIn wsX0_readEntries (wsV RX0 77 RX0 yX0_next wsX0_next) := goodIn_app (goodIn_of _ (by decide +kernel)) ggX0_readEntries_X0_next
theorem dX0_readEntries_0 : decode cX0_readEntries 0 = .ok (.iconst 0, 1) := by decide +kernel
theorem dX0_readEntries_1 : decode cX0_readEntries 1 = .ok (.istore_n 1, 1) := by decide +kernel
theorem dX0_readEntries_2 : decode cX0_readEntries 2 = .ok (.iload_n 1, 1) := by decide +kernel
theorem dX0_readEntries_3 : decode cX0_readEntries 3 = .ok (.bipush 6, 2) := by decide +kernel
theorem dX0_readEntries_5 : decode cX0_readEntries 5 = .ok (.if_icmp .gt 16, 3) := by decide +kernel
theorem dX0_readEntries_8 : decode cX0_readEntries 8 = .ok (.aload_n 0, 1) := by decide +kernel
theorem dX0_readEntries_9 : decode cX0_readEntries 9 = .ok (.getfield 24, 3) := by decide +kernel
theorem dX0_readEntries_12 : decode cX0_readEntries 12 = .ok (.iload_n 1, 1) := by decide +kernel
theorem dX0_readEntries_13 : decode cX0_readEntries 13 = .ok (.iconst (-1), 1) := by decide +kernel
theorem dX0_readEntries_14 : decode cX0_readEntries 14 = .ok (.iastore, 1) := by decide +kernel
theorem dX0_readEntries_15 : decode cX0_readEntries 15 = .ok (.iinc 1 1, 3) := by decide +kernel
theorem dX0_readEntries_18 : decode cX0_readEntries 18 = .ok (.goto (-16), 3) := by decide +kernel
theorem dX0_readEntries_21 : decode cX0_readEntries 21 = .ok (.aload_n 0, 1) := by decide +kernel
theorem dX0_readEntries_22 : decode cX0_readEntries 22 = .ok (.iconst 1, 1) := by decide +kernel
theorem dX0_readEntries_23 : decode cX0_readEntries 23 = .ok (.iconst 4, 1) := by decide +kernel
theorem dX0_readEntries_24 : decode cX0_readEntries 24 = .ok (.invokevirtual 77, 3) := by decide +kernel
theorem dX0_readEntries_27 : decode cX0_readEntries 27 = .ok (.istore_n 1, 1) := by decide +kernel
theorem dX0_readEntries_28 : decode cX0_readEntries 28 = .ok (.iconst 3, 1) := by decide +kernel
theorem dX0_readEntries_29 : decode cX0_readEntries 29 = .ok (.istore_n 2, 1) := by decide +kernel
theorem dX0_readEntries_30 : decode cX0_readEntries 30 = .ok (.iconst 3, 1) := by decide +kernel
theorem dX0_readEntries_31 : decode cX0_readEntries 31 = .ok (.istore_n 3, 1) := by decide +kernel
theorem dX0_readEntries_32 : decode cX0_readEntries 32 = .ok (.iconst 0, 1) := by decide +kernel
theorem dX0_readEntries_33 : decode cX0_readEntries 33 = .ok (.istore 4, 2) := by decide +kernel
theorem dX0_readEntries_35 : decode cX0_readEntries 35 = .ok (.iload 4, 2) := by decide +kernel
theorem dX0_readEntries_37 : decode cX0_readEntries 37 = .ok (.iload_n 1, 1) := by decide +kernel
theorem dX0_readEntries_38 : decode cX0_readEntries 38 = .ok (.if_icmp .ge 51, 3) := by decide +kernel
theorem dX0_readEntries_41 : decode cX0_readEntries 41 = .ok (.aload_n 0, 1) := by decide +kernel
theorem dX0_readEntries_42 : decode cX0_readEntries 42 = .ok (.iload_n 2, 1) := by decide +kernel
theorem dX0_readEntries_43 : decode cX0_readEntries 43 = .ok (.iload_n 3, 1) := by decide +kernel
theorem dX0_readEntries_44 : decode cX0_readEntries 44 = .ok (.invokevirtual 77, 3) := by decide +kernel
theorem dX0_readEntries_47 : decode cX0_readEntries 47 = .ok (.istore 5, 2) := by decide +kernel
theorem dX0_readEntries_49 : decode cX0_readEntries 49 = .ok (.aload_n 0, 1) := by decide +kernel
theorem dX0_readEntries_50 : decode cX0_readEntries 50 = .ok (.iconst 1, 1) := by decide +kernel
theorem dX0_readEntries_51 : decode cX0_readEntries 51 = .ok (.sipush 255, 3) := by decide +kernel
theorem dX0_readEntries_54 : decode cX0_readEntries 54 = .ok (.invokevirtual 77, 3) := by decide +kernel
theorem dX0_readEntries_57 : decode cX0_readEntries 57 = .ok (.istore 6, 2) := by decide +kernel
theorem dX0_readEntries_59 : decode cX0_readEntries 59 = .ok (.iload 5, 2) := by decide +kernel
theorem dX0_readEntries_61 : decode cX0_readEntries 61 = .ok (.bipush 6, 2) := by decide +kernel
theorem dX0_readEntries_63 : decode cX0_readEntries 63 = .ok (.if_icmp .gt 12, 3) := by decide +kernel
theorem dX0_readEntries_66 : decode cX0_readEntries 66 = .ok (.aload_n 0, 1) := by decide +kernel
theorem dX0_readEntries_67 : decode cX0_readEntries 67 = .ok (.getfield 24, 3) := by decide +kernel
theorem dX0_readEntries_70 : decode cX0_readEntries 70 = .ok (.iload 5, 2) := by decide +kernel
theorem dX0_readEntries_72 : decode cX0_readEntries 72 = .ok (.iload 6, 2) := by decide +kernel
theorem dX0_readEntries_74 : decode cX0_readEntries 74 = .ok (.iastore, 1) := by decide +kernel
theorem dX0_readEntries_75 : decode cX0_readEntries 75 = .ok (.iload 5, 2) := by decide +kernel
theorem dX0_readEntries_77 : decode cX0_readEntries 77 = .ok (.iconst 1, 1) := by decide +kernel
theorem dX0_readEntries_78 : decode cX0_readEntries 78 = .ok (.iadd, 1) := by decide +kernel
theorem dX0_readEntries_79 : decode cX0_readEntries 79 = .ok (.istore_n 2, 1) := by decide +kernel
theorem dX0_readEntries_80 : decode cX0_readEntries 80 = .ok (.bipush 6, 2) := by decide +kernel
theorem dX0_readEntries_82 : decode cX0_readEntries 82 = .ok (.istore_n 3, 1) := by decide +kernel
theorem dX0_readEntries_83 : decode cX0_readEntries 83 = .ok (.iinc 4 1, 3) := by decide +kernel
theorem dX0_readEntries_86 : decode cX0_readEntries 86 = .ok (.goto (-51), 3) := by decide +kernel
theorem dX0_readEntries_89 : decode cX0_readEntries 89 = .ok (.return_, 1) := by decide +kernel
set_option maxRecDepth 20000 in
theorem ggX0_readTargets_X0_next : GoodIn wsX0_readTargets wsX0_next := goodIn_r _ [9, 10, 3, 4, 11, 12, 13, 14, 15, 16, 17, 35, 36, 37, 38, 39, 40, 41, 42, 43, 44, 45, 46, 47, 48, 49, 50, 51] (by decide +kernel) (by decide +kernel)
set_option maxRecDepth 20000 in
theorem gX0_readTargets_X0_next : GoodIn wsX0_readTargets (wsV RX0 77 RX0 yX0_next wsX0_next) := goodIn_app (goodIn_of _ (by decide +kernel)) ggX0_readTargets_X0_next
set_option maxRecDepth 20000 in
theorem ggX0_readTargets_X0_readLetters : GoodIn wsX0_readTargets wsX0_readLetters := goodIn_r _ [21, 5, 6, 7, 8, 9, 10, 3, 4, 11, 12, 13, 14, 15, 16, 17, 35, 36, 37, 38, 39, 40, 41, 42, 43, 44, 45, 46, 47, 48, 49, 50, 51] (by decide +kernel) (by decide +kernel)
set_option maxRecDepth 20000 in
theorem gX0_readTargets_X0_readLetters : GoodIn wsX0_readTargets (wsV RX0 102 RX0 yX0_readLetters wsX0_readLetters) := goodIn_app (goodIn_of _ (by decide +kernel)) ggX0_readTargets_X0_readLetters
set_option maxRecDepth 20000 in
theorem ggX0_readTargets_X0_skip : GoodIn wsX0_readTargets wsX0_skip := goodIn_r _ [25, 5, 6, 7, 8, 9, 10, 3, 4, 11, 12, 13, 14, 15, 16, 17, 35, 36, 37, 38, 39, 40, 41, 42, 43, 44, 45, 46, 47, 48, 49, 50, 51] (by decide +kernel) (by decide +kernel)
set_option maxRecDepth 20000 in
theorem gX0_readTargets_X0_skip : GoodIn wsX0_readTargets (wsV RX0 84 RX0 yX0_skip wsX0_skip) := goodIn_app (goodIn_of _ (by decide +kernel)) ggX0_readTargets_X0_skip
set_option maxRecDepth 20000 in
theorem ggX0_readTargets_X0_isNamedAsEarlier : GoodIn wsX0_readTargets wsX0_isNamedAsEarlier := goodIn_r _ [29, 10, 2, 11, 12, 13, 14, 15, 16, 17, 30, 31, 32, 33, 34, 35, 36, 37, 38, 39, 40, 41, 42, 43, 44, 45, 46, 47, 48, 49, 50, 51] (by decide +kernel) (by decide +kernel)
set_option maxRecDepth 20000 in
theorem gX0_readTargets_X0_isNamedAsEarlier : GoodIn wsX0_readTargets (wsV RX0 106 RX0 yX0_isNamedAsEarlier wsX0_isNamedAsEarlier) := goodIn_app (goodIn_of _ (by decide +kernel)) ggX0_readTargets_X0_isNamedAsEarlier
theorem dX0_readTargets_0 : decode cX0_readTargets 0 = .ok (.aload_n 0, 1) := by decide +kernel
theorem dX0_readTargets_1 : decode cX0_readTargets 1 = .ok (.aload_n 0, 1) := by decide +kernel
theorem dX0_readTargets_2 : decode cX0_readTargets 2 = .ok (.iconst 0, 1) := by decide +kernel
theorem dX0_readTargets_3 : decode cX0_readTargets 3 = .ok (.iconst 4, 1) := by decide +kernel
theorem dX0_readTargets_4 : decode cX0_readTargets 4 = .ok (.invokevirtual 77, 3) := by decide +kernel
theorem dX0_readTargets_7 : decode cX0_readTargets 7 = .ok (.putfield 99, 3) := by decide +kernel
theorem dX0_readTargets_10 : decode cX0_readTargets 10 = .ok (.iconst 0, 1) := by decide +kernel
theorem dX0_readTargets_11 : decode cX0_readTargets 11 = .ok (.istore_n 1, 1) := by decide +kernel
theorem dX0_readTargets_12 : decode cX0_readTargets 12 = .ok (.iload_n 1, 1) := by decide +kernel
theorem dX0_readTargets_13 : decode cX0_readTargets 13 = .ok (.aload_n 0, 1) := by decide +kernel
theorem dX0_readTargets_14 : decode cX0_readTargets 14 = .ok (.getfield 99, 3) := by decide +kernel
theorem dX0_readTargets_17 : decode cX0_readTargets 17 = .ok (.if_icmp .ge 54, 3) := by decide +kernel
theorem dX0_readTargets_20 : decode cX0_readTargets 20 = .ok (.aload_n 0, 1) := by decide +kernel
theorem dX0_readTargets_21 : decode cX0_readTargets 21 = .ok (.getfield 27, 3) := by decide +kernel
theorem dX0_readTargets_24 : decode cX0_readTargets 24 = .ok (.iload_n 1, 1) := by decide +kernel
theorem dX0_readTargets_25 : decode cX0_readTargets 25 = .ok (.aload_n 0, 1) := by decide +kernel
theorem dX0_readTargets_26 : decode cX0_readTargets 26 = .ok (.getfield 61, 3) := by decide +kernel
theorem dX0_readTargets_29 : decode cX0_readTargets 29 = .ok (.iastore, 1) := by decide +kernel
theorem dX0_readTargets_30 : decode cX0_readTargets 30 = .ok (.aload_n 0, 1) := by decide +kernel
theorem dX0_readTargets_31 : decode cX0_readTargets 31 = .ok (.iconst 1, 1) := by decide +kernel
theorem dX0_readTargets_32 : decode cX0_readTargets 32 = .ok (.iconst 4, 1) := by decide +kernel
theorem dX0_readTargets_33 : decode cX0_readTargets 33 = .ok (.invokevirtual 102, 3) := by decide +kernel
theorem dX0_readTargets_36 : decode cX0_readTargets 36 = .ok (.aload_n 0, 1) := by decide +kernel
theorem dX0_readTargets_37 : decode cX0_readTargets 37 = .ok (.iconst 5, 1) := by decide +kernel
theorem dX0_readTargets_38 : decode cX0_readTargets 38 = .ok (.invokevirtual 84, 3) := by decide +kernel
theorem dX0_readTargets_41 : decode cX0_readTargets 41 = .ok (.aload_n 0, 1) := by decide +kernel
theorem dX0_readTargets_42 : decode cX0_readTargets 42 = .ok (.aload_n 0, 1) := by decide +kernel
theorem dX0_readTargets_43 : decode cX0_readTargets 43 = .ok (.getfield 64, 3) := by decide +kernel
theorem dX0_readTargets_46 : decode cX0_readTargets 46 = .ok (.ifCond .eq 15, 3) := by decide +kernel
theorem dX0_readTargets_49 : decode cX0_readTargets 49 = .ok (.aload_n 0, 1) := by decide +kernel
theorem dX0_readTargets_50 : decode cX0_readTargets 50 = .ok (.iload_n 1, 1) := by decide +kernel
theorem dX0_readTargets_51 : decode cX0_readTargets 51 = .ok (.invokevirtual 106, 3) := by decide +kernel
theorem dX0_readTargets_54 : decode cX0_readTargets 54 = .ok (.ifCond .ne 7, 3) := by decide +kernel
theorem dX0_readTargets_57 : decode cX0_readTargets 57 = .ok (.iconst 1, 1) := by decide +kernel
theorem dX0_readTargets_58 : decode cX0_readTargets 58 = .ok (.goto 4, 3) := by decide +kernel
theorem dX0_readTargets_61 : decode cX0_readTargets 61 = .ok (.iconst 0, 1) := by decide +kernel
theorem dX0_readTargets_62 : decode cX0_readTargets 62 = .ok (.putfield 64, 3) := by decide +kernel
theorem dX0_readTargets_65 : decode cX0_readTargets 65 = .ok (.iinc 1 1, 3) := by decide +kernel
theorem dX0_readTargets_68 : decode cX0_readTargets 68 = .ok (.goto (-56), 3) := by decide +kernel
theorem dX0_readTargets_71 : decode cX0_readTargets 71 = .ok (.return_, 1) := by decide +kernel
set_option maxRecDepth 20000 in
theorem ggX0_readLetters_X0_next : GoodIn wsX0_readLetters wsX0_next := goodIn_r _ [5, 6, 7, 8, 9, 10, 11, 12, 13, 14, 15, 16, 17, 18, 19, 20, 21, 22, 23, 24, 25, 26, 27, 28, 29, 30, 31, 32] (by decide +kernel) (by decide +kernel)
set_option maxRecDepth 20000 in
theorem gX0_readLetters_X0_next : GoodIn wsX0_readLetters (wsV RX0 77 RX0 yX0_next wsX0_next) := goodIn_app (goodIn_of _ (by decide +kernel)) ggX0_readLetters_X0_next
theorem dX0_readLetters_0 : decode cX0_readLetters 0 = .ok (.aload_n 0, 1) := by decide +kernel
theorem dX0_readLetters_1 : decode cX0_readLetters 1 = .ok (.iload_n 1, 1) := by decide +kernel
theorem dX0_readLetters_2 : decode cX0_readLetters 2 = .ok (.iload_n 2, 1) := by decide +kernel
theorem dX0_readLetters_3 : decode cX0_readLetters 3 = .ok (.invokevirtual 77, 3) := by decide +kernel
theorem dX0_readLetters_6 : decode cX0_readLetters 6 = .ok (.istore_n 3, 1) := by decide +kernel
theorem dX0_readLetters_7 : decode cX0_readLetters 7 = .ok (.iconst 0, 1) := by decide +kernel
theorem dX0_readLetters_8 : decode cX0_readLetters 8 = .ok (.istore 4, 2) := by decide +kernel
theorem dX0_readLetters_10 : decode cX0_readLetters 10 = .ok (.iload 4, 2) := by decide +kernel
theorem dX0_readLetters_12 : decode cX0_readLetters 12 = .ok (.iload_n 3, 1) := by decide +kernel
theorem dX0_readLetters_13 : decode cX0_readLetters 13 = .ok (.if_icmp .ge 18, 3) := by decide +kernel
theorem dX0_readLetters_16 : decode cX0_readLetters 16 = .ok (.aload_n 0, 1) := by decide +kernel
theorem dX0_readLetters_17 : decode cX0_readLetters 17 = .ok (.bipush 97, 2) := by decide +kernel
theorem dX0_readLetters_19 : decode cX0_readLetters 19 = .ok (.bipush 122, 2) := by decide +kernel
theorem dX0_readLetters_21 : decode cX0_readLetters 21 = .ok (.invokevirtual 77, 3) := by decide +kernel
theorem dX0_readLetters_24 : decode cX0_readLetters 24 = .ok (.pop, 1) := by decide +kernel
theorem dX0_readLetters_25 : decode cX0_readLetters 25 = .ok (.iinc 4 1, 3) := by decide +kernel
theorem dX0_readLetters_28 : decode cX0_readLetters 28 = .ok (.goto (-18), 3) := by decide +kernel
theorem dX0_readLetters_31 : decode cX0_readLetters 31 = .ok (.return_, 1) := by decide +kernel
set_option maxRecDepth 20000 in
theorem ggX0_isNamedAsEarlier_X1_byteAt : GoodIn wsX0_isNamedAsEarlier wsX1_byteAt := goodIn_r _ [7, 8, 9, 30, 31] (by decide +kernel) (by decide +kernel)
set_option maxRecDepth 20000 in
theorem gX0_isNamedAsEarlier_X1_byteAt : GoodIn wsX0_isNamedAsEarlier (wsV RX0 53 RX1 yX1_byteAt wsX1_byteAt) := goodIn_app (goodIn_of _ (by decide +kernel)) ggX0_isNamedAsEarlier_X1_byteAt
set_option maxRecDepth 20000 in
theorem ggX0_isNamedAsEarlier_X1_agrees : GoodIn wsX0_isNamedAsEarlier wsX1_agrees := goodIn_r _ [13, 14, 4, 5, 6, 7, 8, 9, 30, 31] (by decide +kernel) (by decide +kernel)
set_option maxRecDepth 20000 in
theorem gX0_isNamedAsEarlier_X1_agrees : GoodIn wsX0_isNamedAsEarlier (wsV RX0 110 RX1 yX1_agrees wsX1_agrees) := goodIn_app (goodIn_of _ (by decide +kernel)) ggX0_isNamedAsEarlier_X1_agrees
theorem dX0_isNamedAsEarlier_0 : decode cX0_isNamedAsEarlier 0 = .ok (.iconst 0, 1) := by decide +kernel
theorem dX0_isNamedAsEarlier_1 : decode cX0_isNamedAsEarlier 1 = .ok (.istore_n 2, 1) := by decide +kernel
theorem dX0_isNamedAsEarlier_2 : decode cX0_isNamedAsEarlier 2 = .ok (.iload_n 2, 1) := by decide +kernel
theorem dX0_isNamedAsEarlier_3 : decode cX0_isNamedAsEarlier 3 = .ok (.iload_n 1, 1) := by decide +kernel
theorem dX0_isNamedAsEarlier_4 : decode cX0_isNamedAsEarlier 4 = .ok (.if_icmp .ge 52, 3) := by decide +kernel
theorem dX0_isNamedAsEarlier_7 : decode cX0_isNamedAsEarlier 7 = .ok (.aload_n 0, 1) := by decide +kernel
theorem dX0_isNamedAsEarlier_8 : decode cX0_isNamedAsEarlier 8 = .ok (.getfield 14, 3) := by decide +kernel
theorem dX0_isNamedAsEarlier_11 : decode cX0_isNamedAsEarlier 11 = .ok (.aload_n 0, 1) := by decide +kernel
theorem dX0_isNamedAsEarlier_12 : decode cX0_isNamedAsEarlier 12 = .ok (.getfield 27, 3) := by decide +kernel
theorem dX0_isNamedAsEarlier_15 : decode cX0_isNamedAsEarlier 15 = .ok (.iload_n 2, 1) := by decide +kernel
theorem dX0_isNamedAsEarlier_16 : decode cX0_isNamedAsEarlier 16 = .ok (.iaload, 1) := by decide +kernel
theorem dX0_isNamedAsEarlier_17 : decode cX0_isNamedAsEarlier 17 = .ok (.aload_n 0, 1) := by decide +kernel
theorem dX0_isNamedAsEarlier_18 : decode cX0_isNamedAsEarlier 18 = .ok (.getfield 14, 3) := by decide +kernel
theorem dX0_isNamedAsEarlier_21 : decode cX0_isNamedAsEarlier 21 = .ok (.aload_n 0, 1) := by decide +kernel
theorem dX0_isNamedAsEarlier_22 : decode cX0_isNamedAsEarlier 22 = .ok (.getfield 27, 3) := by decide +kernel
theorem dX0_isNamedAsEarlier_25 : decode cX0_isNamedAsEarlier 25 = .ok (.iload_n 1, 1) := by decide +kernel
theorem dX0_isNamedAsEarlier_26 : decode cX0_isNamedAsEarlier 26 = .ok (.iaload, 1) := by decide +kernel
theorem dX0_isNamedAsEarlier_27 : decode cX0_isNamedAsEarlier 27 = .ok (.iconst 1, 1) := by decide +kernel
theorem dX0_isNamedAsEarlier_28 : decode cX0_isNamedAsEarlier 28 = .ok (.aload_n 0, 1) := by decide +kernel
theorem dX0_isNamedAsEarlier_29 : decode cX0_isNamedAsEarlier 29 = .ok (.getfield 14, 3) := by decide +kernel
theorem dX0_isNamedAsEarlier_32 : decode cX0_isNamedAsEarlier 32 = .ok (.aload_n 0, 1) := by decide +kernel
theorem dX0_isNamedAsEarlier_33 : decode cX0_isNamedAsEarlier 33 = .ok (.getfield 27, 3) := by decide +kernel
theorem dX0_isNamedAsEarlier_36 : decode cX0_isNamedAsEarlier 36 = .ok (.iload_n 2, 1) := by decide +kernel
theorem dX0_isNamedAsEarlier_37 : decode cX0_isNamedAsEarlier 37 = .ok (.iaload, 1) := by decide +kernel
theorem dX0_isNamedAsEarlier_38 : decode cX0_isNamedAsEarlier 38 = .ok (.invokevirtual 53, 3) := by decide +kernel
theorem dX0_isNamedAsEarlier_41 : decode cX0_isNamedAsEarlier 41 = .ok (.iadd, 1) := by decide +kernel
theorem dX0_isNamedAsEarlier_42 : decode cX0_isNamedAsEarlier 42 = .ok (.invokevirtual 110, 3) := by decide +kernel
theorem dX0_isNamedAsEarlier_45 : decode cX0_isNamedAsEarlier 45 = .ok (.ifCond .eq 5, 3) := by decide +kernel
theorem dX0_isNamedAsEarlier_48 : decode cX0_isNamedAsEarlier 48 = .ok (.iconst 1, 1) := by decide +kernel
theorem dX0_isNamedAsEarlier_49 : decode cX0_isNamedAsEarlier 49 = .ok (.ireturn, 1) := by decide +kernel
theorem dX0_isNamedAsEarlier_50 : decode cX0_isNamedAsEarlier 50 = .ok (.iinc 2 1, 3) := by decide +kernel
theorem dX0_isNamedAsEarlier_53 : decode cX0_isNamedAsEarlier 53 = .ok (.goto (-51), 3) := by decide +kernel
theorem dX0_isNamedAsEarlier_56 : decode cX0_isNamedAsEarlier 56 = .ok (.iconst 0, 1) := by decide +kernel
theorem dX0_isNamedAsEarlier_57 : decode cX0_isNamedAsEarlier 57 = .ok (.ireturn, 1) := by decide +kernel
set_option maxRecDepth 20000 in
theorem ggX0_readDelegations_X0_next : GoodIn wsX0_readDelegations wsX0_next := goodIn_r _ [9, 10, 3, 4, 11, 12, 13, 14, 15, 16, 17, 26, 27, 28, 29, 30, 31, 32, 33, 34, 35, 36, 37, 38, 39, 40, 41, 42] (by decide +kernel) (by decide +kernel)
set_option maxRecDepth 20000 in
theorem gX0_readDelegations_X0_next : GoodIn wsX0_readDelegations (wsV RX0 77 RX0 yX0_next wsX0_next) := goodIn_app (goodIn_of _ (by decide +kernel)) ggX0_readDelegations_X0_next
set_option maxRecDepth 20000 in
theorem ggX0_readDelegations_X0_readKeySet : GoodIn wsX0_readDelegations wsX0_readKeySet := goodIn_r _ [21, 5, 6, 7, 8, 9, 10, 3, 4, 11, 12, 13, 14, 15, 16, 17, 26, 27, 28, 29, 30, 31, 32, 33, 34, 35, 36, 37, 38, 39, 40, 41, 42] (by decide +kernel) (by decide +kernel)
set_option maxRecDepth 20000 in
theorem gX0_readDelegations_X0_readKeySet : GoodIn wsX0_readDelegations (wsV RX0 96 RX0 yX0_readKeySet wsX0_readKeySet) := goodIn_app (goodIn_of _ (by decide +kernel)) ggX0_readDelegations_X0_readKeySet
set_option maxRecDepth 20000 in
theorem ggX0_readDelegations_X0_readLetters : GoodIn wsX0_readDelegations wsX0_readLetters := goodIn_r _ [25, 5, 6, 7, 8, 9, 10, 3, 4, 11, 12, 13, 14, 15, 16, 17, 26, 27, 28, 29, 30, 31, 32, 33, 34, 35, 36, 37, 38, 39, 40, 41, 42] (by decide +kernel) (by decide +kernel)
set_option maxRecDepth 20000 in
theorem gX0_readDelegations_X0_readLetters : GoodIn wsX0_readDelegations (wsV RX0 102 RX0 yX0_readLetters wsX0_readLetters) := goodIn_app (goodIn_of _ (by decide +kernel)) ggX0_readDelegations_X0_readLetters
theorem dX0_readDelegations_0 : decode cX0_readDelegations 0 = .ok (.aload_n 0, 1) := by decide +kernel
theorem dX0_readDelegations_1 : decode cX0_readDelegations 1 = .ok (.aload_n 0, 1) := by decide +kernel
theorem dX0_readDelegations_2 : decode cX0_readDelegations 2 = .ok (.iconst 0, 1) := by decide +kernel
theorem dX0_readDelegations_3 : decode cX0_readDelegations 3 = .ok (.iconst 3, 1) := by decide +kernel
theorem dX0_readDelegations_4 : decode cX0_readDelegations 4 = .ok (.invokevirtual 77, 3) := by decide +kernel
theorem dX0_readDelegations_7 : decode cX0_readDelegations 7 = .ok (.putfield 114, 3) := by decide +kernel
theorem dX0_readDelegations_10 : decode cX0_readDelegations 10 = .ok (.iconst 0, 1) := by decide +kernel
theorem dX0_readDelegations_11 : decode cX0_readDelegations 11 = .ok (.istore_n 1, 1) := by decide +kernel
theorem dX0_readDelegations_12 : decode cX0_readDelegations 12 = .ok (.iconst 0, 1) := by decide +kernel
theorem dX0_readDelegations_13 : decode cX0_readDelegations 13 = .ok (.istore_n 2, 1) := by decide +kernel
theorem dX0_readDelegations_14 : decode cX0_readDelegations 14 = .ok (.iload_n 2, 1) := by decide +kernel
theorem dX0_readDelegations_15 : decode cX0_readDelegations 15 = .ok (.aload_n 0, 1) := by decide +kernel
theorem dX0_readDelegations_16 : decode cX0_readDelegations 16 = .ok (.getfield 114, 3) := by decide +kernel
theorem dX0_readDelegations_19 : decode cX0_readDelegations 19 = .ok (.if_icmp .ge 74, 3) := by decide +kernel
theorem dX0_readDelegations_22 : decode cX0_readDelegations 22 = .ok (.aload_n 0, 1) := by decide +kernel
theorem dX0_readDelegations_23 : decode cX0_readDelegations 23 = .ok (.getfield 30, 3) := by decide +kernel
theorem dX0_readDelegations_26 : decode cX0_readDelegations 26 = .ok (.iload_n 2, 1) := by decide +kernel
theorem dX0_readDelegations_27 : decode cX0_readDelegations 27 = .ok (.aload_n 0, 1) := by decide +kernel
theorem dX0_readDelegations_28 : decode cX0_readDelegations 28 = .ok (.getfield 61, 3) := by decide +kernel
theorem dX0_readDelegations_31 : decode cX0_readDelegations 31 = .ok (.iastore, 1) := by decide +kernel
theorem dX0_readDelegations_32 : decode cX0_readDelegations 32 = .ok (.aload_n 0, 1) := by decide +kernel
theorem dX0_readDelegations_33 : decode cX0_readDelegations 33 = .ok (.iconst 4, 1) := by decide +kernel
theorem dX0_readDelegations_34 : decode cX0_readDelegations 34 = .ok (.bipush 6, 2) := by decide +kernel
theorem dX0_readDelegations_36 : decode cX0_readDelegations 36 = .ok (.invokevirtual 77, 3) := by decide +kernel
theorem dX0_readDelegations_39 : decode cX0_readDelegations 39 = .ok (.istore_n 3, 1) := by decide +kernel
theorem dX0_readDelegations_40 : decode cX0_readDelegations 40 = .ok (.aload_n 0, 1) := by decide +kernel
theorem dX0_readDelegations_41 : decode cX0_readDelegations 41 = .ok (.aload_n 0, 1) := by decide +kernel
theorem dX0_readDelegations_42 : decode cX0_readDelegations 42 = .ok (.getfield 64, 3) := by decide +kernel
theorem dX0_readDelegations_45 : decode cX0_readDelegations 45 = .ok (.ifCond .eq 15, 3) := by decide +kernel
theorem dX0_readDelegations_48 : decode cX0_readDelegations 48 = .ok (.iload_n 1, 1) := by decide +kernel
theorem dX0_readDelegations_49 : decode cX0_readDelegations 49 = .ok (.iload_n 3, 1) := by decide +kernel
theorem dX0_readDelegations_50 : decode cX0_readDelegations 50 = .ok (.ishr, 1) := by decide +kernel
theorem dX0_readDelegations_51 : decode cX0_readDelegations 51 = .ok (.iconst 1, 1) := by decide +kernel
theorem dX0_readDelegations_52 : decode cX0_readDelegations 52 = .ok (.iand, 1) := by decide +kernel
theorem dX0_readDelegations_53 : decode cX0_readDelegations 53 = .ok (.ifCond .ne 7, 3) := by decide +kernel
theorem dX0_readDelegations_56 : decode cX0_readDelegations 56 = .ok (.iconst 1, 1) := by decide +kernel
theorem dX0_readDelegations_57 : decode cX0_readDelegations 57 = .ok (.goto 4, 3) := by decide +kernel
theorem dX0_readDelegations_60 : decode cX0_readDelegations 60 = .ok (.iconst 0, 1) := by decide +kernel
theorem dX0_readDelegations_61 : decode cX0_readDelegations 61 = .ok (.putfield 64, 3) := by decide +kernel
theorem dX0_readDelegations_64 : decode cX0_readDelegations 64 = .ok (.iload_n 1, 1) := by decide +kernel
theorem dX0_readDelegations_65 : decode cX0_readDelegations 65 = .ok (.iconst 1, 1) := by decide +kernel
theorem dX0_readDelegations_66 : decode cX0_readDelegations 66 = .ok (.iload_n 3, 1) := by decide +kernel
theorem dX0_readDelegations_67 : decode cX0_readDelegations 67 = .ok (.ishl, 1) := by decide +kernel
theorem dX0_readDelegations_68 : decode cX0_readDelegations 68 = .ok (.ior, 1) := by decide +kernel
theorem dX0_readDelegations_69 : decode cX0_readDelegations 69 = .ok (.istore_n 1, 1) := by decide +kernel
theorem dX0_readDelegations_70 : decode cX0_readDelegations 70 = .ok (.aload_n 0, 1) := by decide +kernel
theorem dX0_readDelegations_71 : decode cX0_readDelegations 71 = .ok (.iconst 0, 1) := by decide +kernel
theorem dX0_readDelegations_72 : decode cX0_readDelegations 72 = .ok (.iconst 1, 1) := by decide +kernel
theorem dX0_readDelegations_73 : decode cX0_readDelegations 73 = .ok (.invokevirtual 77, 3) := by decide +kernel
theorem dX0_readDelegations_76 : decode cX0_readDelegations 76 = .ok (.pop, 1) := by decide +kernel
theorem dX0_readDelegations_77 : decode cX0_readDelegations 77 = .ok (.aload_n 0, 1) := by decide +kernel
theorem dX0_readDelegations_78 : decode cX0_readDelegations 78 = .ok (.invokevirtual 96, 3) := by decide +kernel
theorem dX0_readDelegations_81 : decode cX0_readDelegations 81 = .ok (.aload_n 0, 1) := by decide +kernel
theorem dX0_readDelegations_82 : decode cX0_readDelegations 82 = .ok (.iconst 0, 1) := by decide +kernel
theorem dX0_readDelegations_83 : decode cX0_readDelegations 83 = .ok (.iconst 3, 1) := by decide +kernel
theorem dX0_readDelegations_84 : decode cX0_readDelegations 84 = .ok (.invokevirtual 102, 3) := by decide +kernel
theorem dX0_readDelegations_87 : decode cX0_readDelegations 87 = .ok (.iinc 2 1, 3) := by decide +kernel
theorem dX0_readDelegations_90 : decode cX0_readDelegations 90 = .ok (.goto (-76), 3) := by decide +kernel
theorem dX0_readDelegations_93 : decode cX0_readDelegations 93 = .ok (.return_, 1) := by decide +kernel
set_option maxRecDepth 20000 in
theorem ggX0_readSignatures_X0_next : GoodIn wsX0_readSignatures wsX0_next := goodIn_r _ [5, 6, 7, 8, 9, 10, 11, 12, 13, 14, 15, 20, 21, 22, 23, 24, 25, 26, 27, 28, 29, 30, 31, 32, 33, 34, 35, 36] (by decide +kernel) (by decide +kernel)
set_option maxRecDepth 20000 in
theorem gX0_readSignatures_X0_next : GoodIn wsX0_readSignatures (wsV RX0 77 RX0 yX0_next wsX0_next) := goodIn_app (goodIn_of _ (by decide +kernel)) ggX0_readSignatures_X0_next
set_option maxRecDepth 20000 in
theorem ggX0_readSignatures_X0_skip : GoodIn wsX0_readSignatures wsX0_skip := goodIn_r _ [19, 1, 2, 3, 4, 5, 6, 7, 8, 9, 10, 11, 12, 13, 14, 15, 20, 21, 22, 23, 24, 25, 26, 27, 28, 29, 30, 31, 32, 33, 34, 35, 36] (by decide +kernel) (by decide +kernel)
set_option maxRecDepth 20000 in
theorem gX0_readSignatures_X0_skip : GoodIn wsX0_readSignatures (wsV RX0 84 RX0 yX0_skip wsX0_skip) := goodIn_app (goodIn_of _ (by decide +kernel)) ggX0_readSignatures_X0_skip
theorem dX0_readSignatures_0 : decode cX0_readSignatures 0 = .ok (.aload_n 0, 1) := by decide +kernel
theorem dX0_readSignatures_1 : decode cX0_readSignatures 1 = .ok (.iconst 0, 1) := by decide +kernel
theorem dX0_readSignatures_2 : decode cX0_readSignatures 2 = .ok (.bipush 6, 2) := by decide +kernel
theorem dX0_readSignatures_4 : decode cX0_readSignatures 4 = .ok (.invokevirtual 77, 3) := by decide +kernel
theorem dX0_readSignatures_7 : decode cX0_readSignatures 7 = .ok (.istore_n 1, 1) := by decide +kernel
theorem dX0_readSignatures_8 : decode cX0_readSignatures 8 = .ok (.iconst 0, 1) := by decide +kernel
theorem dX0_readSignatures_9 : decode cX0_readSignatures 9 = .ok (.istore_n 2, 1) := by decide +kernel
theorem dX0_readSignatures_10 : decode cX0_readSignatures 10 = .ok (.iload_n 2, 1) := by decide +kernel
theorem dX0_readSignatures_11 : decode cX0_readSignatures 11 = .ok (.iload_n 1, 1) := by decide +kernel
theorem dX0_readSignatures_12 : decode cX0_readSignatures 12 = .ok (.if_icmp .ge 22, 3) := by decide +kernel
theorem dX0_readSignatures_15 : decode cX0_readSignatures 15 = .ok (.aload_n 0, 1) := by decide +kernel
theorem dX0_readSignatures_16 : decode cX0_readSignatures 16 = .ok (.iconst 0, 1) := by decide +kernel
theorem dX0_readSignatures_17 : decode cX0_readSignatures 17 = .ok (.bipush 9, 2) := by decide +kernel
theorem dX0_readSignatures_19 : decode cX0_readSignatures 19 = .ok (.invokevirtual 77, 3) := by decide +kernel
theorem dX0_readSignatures_22 : decode cX0_readSignatures 22 = .ok (.pop, 1) := by decide +kernel
theorem dX0_readSignatures_23 : decode cX0_readSignatures 23 = .ok (.aload_n 0, 1) := by decide +kernel
theorem dX0_readSignatures_24 : decode cX0_readSignatures 24 = .ok (.iconst 4, 1) := by decide +kernel
theorem dX0_readSignatures_25 : decode cX0_readSignatures 25 = .ok (.invokevirtual 84, 3) := by decide +kernel
theorem dX0_readSignatures_28 : decode cX0_readSignatures 28 = .ok (.iinc 2 1, 3) := by decide +kernel
theorem dX0_readSignatures_31 : decode cX0_readSignatures 31 = .ok (.goto (-21), 3) := by decide +kernel
theorem dX0_readSignatures_34 : decode cX0_readSignatures 34 = .ok (.return_, 1) := by decide +kernel
set_option maxRecDepth 20000 in
theorem ggX0_signatureOf_X1_mixOfFirst : GoodIn wsX0_signatureOf wsX1_mixOfFirst := goodIn_r _ [7, 8, 9, 10, 11, 27, 28] (by decide +kernel) (by decide +kernel)
set_option maxRecDepth 20000 in
theorem gX0_signatureOf_X1_mixOfFirst : GoodIn wsX0_signatureOf (wsV RX0 117 RX1 yX1_mixOfFirst wsX1_mixOfFirst) := goodIn_app (goodIn_of _ (by decide +kernel)) ggX0_signatureOf_X1_mixOfFirst
theorem dX0_signatureOf_0 : decode cX0_signatureOf 0 = .ok (.aload_n 0, 1) := by decide +kernel
theorem dX0_signatureOf_1 : decode cX0_signatureOf 1 = .ok (.getfield 14, 3) := by decide +kernel
theorem dX0_signatureOf_4 : decode cX0_signatureOf 4 = .ok (.aload_n 0, 1) := by decide +kernel
theorem dX0_signatureOf_5 : decode cX0_signatureOf 5 = .ok (.getfield 50, 3) := by decide +kernel
theorem dX0_signatureOf_8 : decode cX0_signatureOf 8 = .ok (.iload_n 1, 1) := by decide +kernel
theorem dX0_signatureOf_9 : decode cX0_signatureOf 9 = .ok (.iconst 1, 1) := by decide +kernel
theorem dX0_signatureOf_10 : decode cX0_signatureOf 10 = .ok (.iadd, 1) := by decide +kernel
theorem dX0_signatureOf_11 : decode cX0_signatureOf 11 = .ok (.invokevirtual 117, 3) := by decide +kernel
theorem dX0_signatureOf_14 : decode cX0_signatureOf 14 = .ok (.ireturn, 1) := by decide +kernel
set_option maxRecDepth 20000 in
theorem ggX0_hasSignatureOf_X0_signatureOf : GoodIn wsX0_hasSignatureOf wsX0_signatureOf := goodIn_r _ [7, 2, 1, 8, 9, 10, 11, 12, 13, 14, 15, 16, 29, 30, 31, 32, 33, 34, 35, 36, 37, 38, 39, 40, 41, 42, 43, 44, 45] (by decide +kernel) (by decide +kernel)
set_option maxRecDepth 20000 in
theorem gX0_hasSignatureOf_X0_signatureOf : GoodIn wsX0_hasSignatureOf (wsV RX0 120 RX0 yX0_signatureOf wsX0_signatureOf) := goodIn_app (goodIn_of _ (by decide +kernel)) ggX0_hasSignatureOf_X0_signatureOf
set_option maxRecDepth 20000 in
theorem ggX0_hasSignatureOf_X0_signatureCount : GoodIn wsX0_hasSignatureOf wsX0_signatureCount := goodIn_r _ [20, 2, 1, 21, 22, 23, 11, 24, 14, 15, 29, 30, 31, 32, 33, 34, 35, 36, 37, 38, 39, 40, 41, 42, 43, 44, 45] (by decide +kernel) (by decide +kernel)
set_option maxRecDepth 20000 in
theorem gX0_hasSignatureOf_X0_signatureCount : GoodIn wsX0_hasSignatureOf (wsV RX0 123 RX0 yX0_signatureCount wsX0_signatureCount) := goodIn_app (goodIn_of _ (by decide +kernel)) ggX0_hasSignatureOf_X0_signatureCount
set_option maxRecDepth 20000 in
theorem ggX0_hasSignatureOf_X1_byteAt : GoodIn wsX0_hasSignatureOf wsX1_byteAt := goodIn_r _ [24, 14, 15, 44, 45] (by decide +kernel) (by decide +kernel)
set_option maxRecDepth 20000 in
theorem gX0_hasSignatureOf_X1_byteAt : GoodIn wsX0_hasSignatureOf (wsV RX0 53 RX1 yX1_byteAt wsX1_byteAt) := goodIn_app (goodIn_of _ (by decide +kernel)) ggX0_hasSignatureOf_X1_byteAt
set_option maxRecDepth 20000 in
theorem ggX0_hasSignatureOf_X1_wordAt : GoodIn wsX0_hasSignatureOf wsX1_wordAt := goodIn_r _ [28, 14, 15, 44, 45] (by decide +kernel) (by decide +kernel)
set_option maxRecDepth 20000 in
theorem gX0_hasSignatureOf_X1_wordAt : GoodIn wsX0_hasSignatureOf (wsV RX0 126 RX1 yX1_wordAt wsX1_wordAt) := goodIn_app (goodIn_of _ (by decide +kernel)) ggX0_hasSignatureOf_X1_wordAt
theorem dX0_hasSignatureOf_0 : decode cX0_hasSignatureOf 0 = .ok (.aload_n 0, 1) := by decide +kernel
theorem dX0_hasSignatureOf_1 : decode cX0_hasSignatureOf 1 = .ok (.iload_n 1, 1) := by decide +kernel
theorem dX0_hasSignatureOf_2 : decode cX0_hasSignatureOf 2 = .ok (.invokevirtual 120, 3) := by decide +kernel
theorem dX0_hasSignatureOf_5 : decode cX0_hasSignatureOf 5 = .ok (.istore_n 2, 1) := by decide +kernel
theorem dX0_hasSignatureOf_6 : decode cX0_hasSignatureOf 6 = .ok (.aload_n 0, 1) := by decide +kernel
theorem dX0_hasSignatureOf_7 : decode cX0_hasSignatureOf 7 = .ok (.invokevirtual 123, 3) := by decide +kernel
theorem dX0_hasSignatureOf_10 : decode cX0_hasSignatureOf 10 = .ok (.istore_n 3, 1) := by decide +kernel
theorem dX0_hasSignatureOf_11 : decode cX0_hasSignatureOf 11 = .ok (.iconst 0, 1) := by decide +kernel
theorem dX0_hasSignatureOf_12 : decode cX0_hasSignatureOf 12 = .ok (.istore 4, 2) := by decide +kernel
theorem dX0_hasSignatureOf_14 : decode cX0_hasSignatureOf 14 = .ok (.iload 4, 2) := by decide +kernel
theorem dX0_hasSignatureOf_16 : decode cX0_hasSignatureOf 16 = .ok (.iload_n 3, 1) := by decide +kernel
theorem dX0_hasSignatureOf_17 : decode cX0_hasSignatureOf 17 = .ok (.if_icmp .ge 52, 3) := by decide +kernel
theorem dX0_hasSignatureOf_20 : decode cX0_hasSignatureOf 20 = .ok (.aload_n 0, 1) := by decide +kernel
theorem dX0_hasSignatureOf_21 : decode cX0_hasSignatureOf 21 = .ok (.getfield 50, 3) := by decide +kernel
theorem dX0_hasSignatureOf_24 : decode cX0_hasSignatureOf 24 = .ok (.iconst 1, 1) := by decide +kernel
theorem dX0_hasSignatureOf_25 : decode cX0_hasSignatureOf 25 = .ok (.iadd, 1) := by decide +kernel
theorem dX0_hasSignatureOf_26 : decode cX0_hasSignatureOf 26 = .ok (.iconst 5, 1) := by decide +kernel
theorem dX0_hasSignatureOf_27 : decode cX0_hasSignatureOf 27 = .ok (.iload 4, 2) := by decide +kernel
theorem dX0_hasSignatureOf_29 : decode cX0_hasSignatureOf 29 = .ok (.imul, 1) := by decide +kernel
theorem dX0_hasSignatureOf_30 : decode cX0_hasSignatureOf 30 = .ok (.iadd, 1) := by decide +kernel
theorem dX0_hasSignatureOf_31 : decode cX0_hasSignatureOf 31 = .ok (.istore 5, 2) := by decide +kernel
theorem dX0_hasSignatureOf_33 : decode cX0_hasSignatureOf 33 = .ok (.aload_n 0, 1) := by decide +kernel
theorem dX0_hasSignatureOf_34 : decode cX0_hasSignatureOf 34 = .ok (.getfield 14, 3) := by decide +kernel
theorem dX0_hasSignatureOf_37 : decode cX0_hasSignatureOf 37 = .ok (.iload 5, 2) := by decide +kernel
theorem dX0_hasSignatureOf_39 : decode cX0_hasSignatureOf 39 = .ok (.invokevirtual 53, 3) := by decide +kernel
theorem dX0_hasSignatureOf_42 : decode cX0_hasSignatureOf 42 = .ok (.iload_n 1, 1) := by decide +kernel
theorem dX0_hasSignatureOf_43 : decode cX0_hasSignatureOf 43 = .ok (.if_icmp .ne 20, 3) := by decide +kernel
theorem dX0_hasSignatureOf_46 : decode cX0_hasSignatureOf 46 = .ok (.aload_n 0, 1) := by decide +kernel
theorem dX0_hasSignatureOf_47 : decode cX0_hasSignatureOf 47 = .ok (.getfield 14, 3) := by decide +kernel
theorem dX0_hasSignatureOf_50 : decode cX0_hasSignatureOf 50 = .ok (.iload 5, 2) := by decide +kernel
theorem dX0_hasSignatureOf_52 : decode cX0_hasSignatureOf 52 = .ok (.iconst 1, 1) := by decide +kernel
theorem dX0_hasSignatureOf_53 : decode cX0_hasSignatureOf 53 = .ok (.iadd, 1) := by decide +kernel
theorem dX0_hasSignatureOf_54 : decode cX0_hasSignatureOf 54 = .ok (.invokevirtual 126, 3) := by decide +kernel
theorem dX0_hasSignatureOf_57 : decode cX0_hasSignatureOf 57 = .ok (.iload_n 2, 1) := by decide +kernel
theorem dX0_hasSignatureOf_58 : decode cX0_hasSignatureOf 58 = .ok (.if_icmp .ne 5, 3) := by decide +kernel
theorem dX0_hasSignatureOf_61 : decode cX0_hasSignatureOf 61 = .ok (.iconst 1, 1) := by decide +kernel
theorem dX0_hasSignatureOf_62 : decode cX0_hasSignatureOf 62 = .ok (.ireturn, 1) := by decide +kernel
theorem dX0_hasSignatureOf_63 : decode cX0_hasSignatureOf 63 = .ok (.iinc 4 1, 3) := by decide +kernel
theorem dX0_hasSignatureOf_66 : decode cX0_hasSignatureOf 66 = .ok (.goto (-52), 3) := by decide +kernel
theorem dX0_hasSignatureOf_69 : decode cX0_hasSignatureOf 69 = .ok (.iconst 0, 1) := by decide +kernel
theorem dX0_hasSignatureOf_70 : decode cX0_hasSignatureOf 70 = .ok (.ireturn, 1) := by decide +kernel
set_option maxRecDepth 20000 in
theorem ggX0_isSignedAsAsked_X1_byteAt : GoodIn wsX0_isSignedAsAsked wsX1_byteAt := goodIn_r _ [5, 6, 7, 33, 34] (by decide +kernel) (by decide +kernel)
set_option maxRecDepth 20000 in
theorem gX0_isSignedAsAsked_X1_byteAt : GoodIn wsX0_isSignedAsAsked (wsV RX0 53 RX1 yX1_byteAt wsX1_byteAt) := goodIn_app (goodIn_of _ (by decide +kernel)) ggX0_isSignedAsAsked_X1_byteAt
set_option maxRecDepth 20000 in
theorem ggX0_isSignedAsAsked_X0_hasSignatureOf : GoodIn wsX0_isSignedAsAsked wsX0_hasSignatureOf := goodIn_r _ [12, 13, 14, 15, 16, 17, 11, 18, 19, 20, 21, 4, 22, 23, 6, 7, 24, 25, 26, 27, 28, 1, 2, 3, 5, 29, 30, 31, 32, 35, 36, 37, 38, 39, 40, 41, 42, 43, 44, 45, 46, 47, 48, 49, 33, 34] (by decide +kernel) (by decide +kernel)
set_option maxRecDepth 20000 in
theorem gX0_isSignedAsAsked_X0_hasSignatureOf : GoodIn wsX0_isSignedAsAsked (wsV RX0 129 RX0 yX0_hasSignatureOf wsX0_hasSignatureOf) := goodIn_app (goodIn_of _ (by decide +kernel)) ggX0_isSignedAsAsked_X0_hasSignatureOf
theorem dX0_isSignedAsAsked_0 : decode cX0_isSignedAsAsked 0 = .ok (.aload_n 1, 1) := by decide +kernel
theorem dX0_isSignedAsAsked_1 : decode cX0_isSignedAsAsked 1 = .ok (.iload_n 2, 1) := by decide +kernel
theorem dX0_isSignedAsAsked_2 : decode cX0_isSignedAsAsked 2 = .ok (.invokevirtual 53, 3) := by decide +kernel
theorem dX0_isSignedAsAsked_5 : decode cX0_isSignedAsAsked 5 = .ok (.istore_n 3, 1) := by decide +kernel
theorem dX0_isSignedAsAsked_6 : decode cX0_isSignedAsAsked 6 = .ok (.aload_n 1, 1) := by decide +kernel
theorem dX0_isSignedAsAsked_7 : decode cX0_isSignedAsAsked 7 = .ok (.iload_n 2, 1) := by decide +kernel
theorem dX0_isSignedAsAsked_8 : decode cX0_isSignedAsAsked 8 = .ok (.iconst 1, 1) := by decide +kernel
theorem dX0_isSignedAsAsked_9 : decode cX0_isSignedAsAsked 9 = .ok (.iadd, 1) := by decide +kernel
theorem dX0_isSignedAsAsked_10 : decode cX0_isSignedAsAsked 10 = .ok (.invokevirtual 53, 3) := by decide +kernel
theorem dX0_isSignedAsAsked_13 : decode cX0_isSignedAsAsked 13 = .ok (.istore 4, 2) := by decide +kernel
theorem dX0_isSignedAsAsked_15 : decode cX0_isSignedAsAsked 15 = .ok (.iconst 0, 1) := by decide +kernel
theorem dX0_isSignedAsAsked_16 : decode cX0_isSignedAsAsked 16 = .ok (.istore 5, 2) := by decide +kernel
theorem dX0_isSignedAsAsked_18 : decode cX0_isSignedAsAsked 18 = .ok (.iconst 0, 1) := by decide +kernel
theorem dX0_isSignedAsAsked_19 : decode cX0_isSignedAsAsked 19 = .ok (.istore 6, 2) := by decide +kernel
theorem dX0_isSignedAsAsked_21 : decode cX0_isSignedAsAsked 21 = .ok (.iload 6, 2) := by decide +kernel
theorem dX0_isSignedAsAsked_23 : decode cX0_isSignedAsAsked 23 = .ok (.iload 4, 2) := by decide +kernel
theorem dX0_isSignedAsAsked_25 : decode cX0_isSignedAsAsked 25 = .ok (.if_icmp .ge 29, 3) := by decide +kernel
theorem dX0_isSignedAsAsked_28 : decode cX0_isSignedAsAsked 28 = .ok (.aload_n 0, 1) := by decide +kernel
theorem dX0_isSignedAsAsked_29 : decode cX0_isSignedAsAsked 29 = .ok (.aload_n 1, 1) := by decide +kernel
theorem dX0_isSignedAsAsked_30 : decode cX0_isSignedAsAsked 30 = .ok (.iload_n 2, 1) := by decide +kernel
theorem dX0_isSignedAsAsked_31 : decode cX0_isSignedAsAsked 31 = .ok (.iconst 2, 1) := by decide +kernel
theorem dX0_isSignedAsAsked_32 : decode cX0_isSignedAsAsked 32 = .ok (.iadd, 1) := by decide +kernel
theorem dX0_isSignedAsAsked_33 : decode cX0_isSignedAsAsked 33 = .ok (.iload 6, 2) := by decide +kernel
theorem dX0_isSignedAsAsked_35 : decode cX0_isSignedAsAsked 35 = .ok (.iadd, 1) := by decide +kernel
theorem dX0_isSignedAsAsked_36 : decode cX0_isSignedAsAsked 36 = .ok (.invokevirtual 53, 3) := by decide +kernel
theorem dX0_isSignedAsAsked_39 : decode cX0_isSignedAsAsked 39 = .ok (.invokevirtual 129, 3) := by decide +kernel
theorem dX0_isSignedAsAsked_42 : decode cX0_isSignedAsAsked 42 = .ok (.ifCond .eq 6, 3) := by decide +kernel
theorem dX0_isSignedAsAsked_45 : decode cX0_isSignedAsAsked 45 = .ok (.iinc 5 1, 3) := by decide +kernel
theorem dX0_isSignedAsAsked_48 : decode cX0_isSignedAsAsked 48 = .ok (.iinc 6 1, 3) := by decide +kernel
theorem dX0_isSignedAsAsked_51 : decode cX0_isSignedAsAsked 51 = .ok (.goto (-30), 3) := by decide +kernel
theorem dX0_isSignedAsAsked_54 : decode cX0_isSignedAsAsked 54 = .ok (.iload 5, 2) := by decide +kernel
theorem dX0_isSignedAsAsked_56 : decode cX0_isSignedAsAsked 56 = .ok (.iload_n 3, 1) := by decide +kernel
theorem dX0_isSignedAsAsked_57 : decode cX0_isSignedAsAsked 57 = .ok (.if_icmp .lt 7, 3) := by decide +kernel
theorem dX0_isSignedAsAsked_60 : decode cX0_isSignedAsAsked 60 = .ok (.iconst 1, 1) := by decide +kernel
theorem dX0_isSignedAsAsked_61 : decode cX0_isSignedAsAsked 61 = .ok (.goto 4, 3) := by decide +kernel
theorem dX0_isSignedAsAsked_64 : decode cX0_isSignedAsAsked 64 = .ok (.iconst 0, 1) := by decide +kernel
theorem dX0_isSignedAsAsked_65 : decode cX0_isSignedAsAsked 65 = .ok (.ireturn, 1) := by decide +kernel
set_option maxRecDepth 20000 in
theorem ggX0_rootVouchesFor_X0_isSignedAsAsked : GoodIn wsX0_rootVouchesFor wsX0_isSignedAsAsked := goodIn_r _ [7, 8, 9, 10, 11, 12, 13, 14, 15, 16, 17, 6, 18, 19, 1, 20, 21, 22, 23, 24, 25, 26, 27, 28, 29, 30, 31, 32, 33, 34, 35, 36, 37, 53, 54, 38, 39, 40, 41, 42, 43, 44, 45, 46, 47, 48, 49, 50, 51, 52] (by decide +kernel) (by decide +kernel)
set_option maxRecDepth 20000 in
theorem gX0_rootVouchesFor_X0_isSignedAsAsked : GoodIn wsX0_rootVouchesFor (wsV RX0 132 RX0 yX0_isSignedAsAsked wsX0_isSignedAsAsked) := goodIn_app (goodIn_of _ (by decide +kernel)) ggX0_rootVouchesFor_X0_isSignedAsAsked
theorem dX0_rootVouchesFor_0 : decode cX0_rootVouchesFor 0 = .ok (.iload_n 2, 1) := by decide +kernel
theorem dX0_rootVouchesFor_1 : decode cX0_rootVouchesFor 1 = .ok (.ifCond .lt 29, 3) := by decide +kernel
theorem dX0_rootVouchesFor_4 : decode cX0_rootVouchesFor 4 = .ok (.iload_n 2, 1) := by decide +kernel
theorem dX0_rootVouchesFor_5 : decode cX0_rootVouchesFor 5 = .ok (.iconst 4, 1) := by decide +kernel
theorem dX0_rootVouchesFor_6 : decode cX0_rootVouchesFor 6 = .ok (.if_icmp .ge 24, 3) := by decide +kernel
theorem dX0_rootVouchesFor_9 : decode cX0_rootVouchesFor 9 = .ok (.aload_n 1, 1) := by decide +kernel
theorem dX0_rootVouchesFor_10 : decode cX0_rootVouchesFor 10 = .ok (.aload_n 0, 1) := by decide +kernel
theorem dX0_rootVouchesFor_11 : decode cX0_rootVouchesFor 11 = .ok (.getfield 14, 3) := by decide +kernel
theorem dX0_rootVouchesFor_14 : decode cX0_rootVouchesFor 14 = .ok (.aload_n 0, 1) := by decide +kernel
theorem dX0_rootVouchesFor_15 : decode cX0_rootVouchesFor 15 = .ok (.getfield 20, 3) := by decide +kernel
theorem dX0_rootVouchesFor_18 : decode cX0_rootVouchesFor 18 = .ok (.iload_n 2, 1) := by decide +kernel
theorem dX0_rootVouchesFor_19 : decode cX0_rootVouchesFor 19 = .ok (.iaload, 1) := by decide +kernel
theorem dX0_rootVouchesFor_20 : decode cX0_rootVouchesFor 20 = .ok (.invokevirtual 132, 3) := by decide +kernel
theorem dX0_rootVouchesFor_23 : decode cX0_rootVouchesFor 23 = .ok (.ifCond .eq 7, 3) := by decide +kernel
theorem dX0_rootVouchesFor_26 : decode cX0_rootVouchesFor 26 = .ok (.iconst 1, 1) := by decide +kernel
theorem dX0_rootVouchesFor_27 : decode cX0_rootVouchesFor 27 = .ok (.goto 4, 3) := by decide +kernel
theorem dX0_rootVouchesFor_30 : decode cX0_rootVouchesFor 30 = .ok (.iconst 0, 1) := by decide +kernel
theorem dX0_rootVouchesFor_31 : decode cX0_rootVouchesFor 31 = .ok (.ireturn, 1) := by decide +kernel
set_option maxRecDepth 20000 in
theorem ggX0_hasKeySetOf_X1_byteAt : GoodIn wsX0_hasKeySetOf wsX1_byteAt := goodIn_r _ [7, 8, 9, 30, 31] (by decide +kernel) (by decide +kernel)
set_option maxRecDepth 20000 in
theorem gX0_hasKeySetOf_X1_byteAt : GoodIn wsX0_hasKeySetOf (wsV RX0 53 RX1 yX1_byteAt wsX1_byteAt) := goodIn_app (goodIn_of _ (by decide +kernel)) ggX0_hasKeySetOf_X1_byteAt
set_option maxRecDepth 20000 in
theorem ggX0_hasKeySetOf_X1_agrees : GoodIn wsX0_hasKeySetOf wsX1_agrees := goodIn_r _ [13, 14, 4, 5, 6, 7, 8, 9, 30, 31] (by decide +kernel) (by decide +kernel)
set_option maxRecDepth 20000 in
theorem gX0_hasKeySetOf_X1_agrees : GoodIn wsX0_hasKeySetOf (wsV RX0 110 RX1 yX1_agrees wsX1_agrees) := goodIn_app (goodIn_of _ (by decide +kernel)) ggX0_hasKeySetOf_X1_agrees
theorem dX0_hasKeySetOf_0 : decode cX0_hasKeySetOf 0 = .ok (.iload_n 2, 1) := by decide +kernel
theorem dX0_hasKeySetOf_1 : decode cX0_hasKeySetOf 1 = .ok (.ifCond .lt 8, 3) := by decide +kernel
theorem dX0_hasKeySetOf_4 : decode cX0_hasKeySetOf 4 = .ok (.iload_n 2, 1) := by decide +kernel
theorem dX0_hasKeySetOf_5 : decode cX0_hasKeySetOf 5 = .ok (.iconst 4, 1) := by decide +kernel
theorem dX0_hasKeySetOf_6 : decode cX0_hasKeySetOf 6 = .ok (.if_icmp .lt 5, 3) := by decide +kernel
theorem dX0_hasKeySetOf_9 : decode cX0_hasKeySetOf 9 = .ok (.iconst 0, 1) := by decide +kernel
theorem dX0_hasKeySetOf_10 : decode cX0_hasKeySetOf 10 = .ok (.ireturn, 1) := by decide +kernel
theorem dX0_hasKeySetOf_11 : decode cX0_hasKeySetOf 11 = .ok (.aload_n 0, 1) := by decide +kernel
theorem dX0_hasKeySetOf_12 : decode cX0_hasKeySetOf 12 = .ok (.getfield 20, 3) := by decide +kernel
theorem dX0_hasKeySetOf_15 : decode cX0_hasKeySetOf 15 = .ok (.iload_n 2, 1) := by decide +kernel
theorem dX0_hasKeySetOf_16 : decode cX0_hasKeySetOf 16 = .ok (.iaload, 1) := by decide +kernel
theorem dX0_hasKeySetOf_17 : decode cX0_hasKeySetOf 17 = .ok (.istore_n 3, 1) := by decide +kernel
theorem dX0_hasKeySetOf_18 : decode cX0_hasKeySetOf 18 = .ok (.aload_n 0, 1) := by decide +kernel
theorem dX0_hasKeySetOf_19 : decode cX0_hasKeySetOf 19 = .ok (.getfield 14, 3) := by decide +kernel
theorem dX0_hasKeySetOf_22 : decode cX0_hasKeySetOf 22 = .ok (.iload_n 3, 1) := by decide +kernel
theorem dX0_hasKeySetOf_23 : decode cX0_hasKeySetOf 23 = .ok (.aload_n 1, 1) := by decide +kernel
theorem dX0_hasKeySetOf_24 : decode cX0_hasKeySetOf 24 = .ok (.getfield 14, 3) := by decide +kernel
theorem dX0_hasKeySetOf_27 : decode cX0_hasKeySetOf 27 = .ok (.aload_n 1, 1) := by decide +kernel
theorem dX0_hasKeySetOf_28 : decode cX0_hasKeySetOf 28 = .ok (.getfield 20, 3) := by decide +kernel
theorem dX0_hasKeySetOf_31 : decode cX0_hasKeySetOf 31 = .ok (.iload_n 2, 1) := by decide +kernel
theorem dX0_hasKeySetOf_32 : decode cX0_hasKeySetOf 32 = .ok (.iaload, 1) := by decide +kernel
theorem dX0_hasKeySetOf_33 : decode cX0_hasKeySetOf 33 = .ok (.iconst 2, 1) := by decide +kernel
theorem dX0_hasKeySetOf_34 : decode cX0_hasKeySetOf 34 = .ok (.aload_n 0, 1) := by decide +kernel
theorem dX0_hasKeySetOf_35 : decode cX0_hasKeySetOf 35 = .ok (.getfield 14, 3) := by decide +kernel
theorem dX0_hasKeySetOf_38 : decode cX0_hasKeySetOf 38 = .ok (.iload_n 3, 1) := by decide +kernel
theorem dX0_hasKeySetOf_39 : decode cX0_hasKeySetOf 39 = .ok (.iconst 1, 1) := by decide +kernel
theorem dX0_hasKeySetOf_40 : decode cX0_hasKeySetOf 40 = .ok (.iadd, 1) := by decide +kernel
theorem dX0_hasKeySetOf_41 : decode cX0_hasKeySetOf 41 = .ok (.invokevirtual 53, 3) := by decide +kernel
theorem dX0_hasKeySetOf_44 : decode cX0_hasKeySetOf 44 = .ok (.iadd, 1) := by decide +kernel
theorem dX0_hasKeySetOf_45 : decode cX0_hasKeySetOf 45 = .ok (.invokevirtual 110, 3) := by decide +kernel
theorem dX0_hasKeySetOf_48 : decode cX0_hasKeySetOf 48 = .ok (.ireturn, 1) := by decide +kernel
set_option maxRecDepth 20000 in
theorem ggX0_stampedVersion_X1_byteAt : GoodIn wsX0_stampedVersion wsX1_byteAt := goodIn_r _ [6, 7, 8, 24, 25] (by decide +kernel) (by decide +kernel)
set_option maxRecDepth 20000 in
theorem gX0_stampedVersion_X1_byteAt : GoodIn wsX0_stampedVersion (wsV RX0 53 RX1 yX1_byteAt wsX1_byteAt) := goodIn_app (goodIn_of _ (by decide +kernel)) ggX0_stampedVersion_X1_byteAt
theorem dX0_stampedVersion_0 : decode cX0_stampedVersion 0 = .ok (.aload_n 0, 1) := by decide +kernel
theorem dX0_stampedVersion_1 : decode cX0_stampedVersion 1 = .ok (.getfield 14, 3) := by decide +kernel
theorem dX0_stampedVersion_4 : decode cX0_stampedVersion 4 = .ok (.iconst 4, 1) := by decide +kernel
theorem dX0_stampedVersion_5 : decode cX0_stampedVersion 5 = .ok (.invokevirtual 53, 3) := by decide +kernel
theorem dX0_stampedVersion_8 : decode cX0_stampedVersion 8 = .ok (.ireturn, 1) := by decide +kernel
set_option maxRecDepth 20000 in
theorem ggX0_stampedDigest_X1_wordAt : GoodIn wsX0_stampedDigest wsX1_wordAt := goodIn_r _ [6, 7, 8, 24, 25] (by decide +kernel) (by decide +kernel)
set_option maxRecDepth 20000 in
theorem gX0_stampedDigest_X1_wordAt : GoodIn wsX0_stampedDigest (wsV RX0 126 RX1 yX1_wordAt wsX1_wordAt) := goodIn_app (goodIn_of _ (by decide +kernel)) ggX0_stampedDigest_X1_wordAt
theorem dX0_stampedDigest_0 : decode cX0_stampedDigest 0 = .ok (.aload_n 0, 1) := by decide +kernel
theorem dX0_stampedDigest_1 : decode cX0_stampedDigest 1 = .ok (.getfield 14, 3) := by decide +kernel
theorem dX0_stampedDigest_4 : decode cX0_stampedDigest 4 = .ok (.iconst 5, 1) := by decide +kernel
theorem dX0_stampedDigest_5 : decode cX0_stampedDigest 5 = .ok (.invokevirtual 126, 3) := by decide +kernel
theorem dX0_stampedDigest_8 : decode cX0_stampedDigest 8 = .ok (.ireturn, 1) := by decide +kernel
theorem dX0_versionFor_0 : decode cX0_versionFor 0 = .ok (.iload_n 1, 1) := by decide +kernel
theorem dX0_versionFor_1 : decode cX0_versionFor 1 = .ok (.ifCond .lt 18, 3) := by decide +kernel
theorem dX0_versionFor_4 : decode cX0_versionFor 4 = .ok (.iload_n 1, 1) := by decide +kernel
theorem dX0_versionFor_5 : decode cX0_versionFor 5 = .ok (.bipush 6, 2) := by decide +kernel
theorem dX0_versionFor_7 : decode cX0_versionFor 7 = .ok (.if_icmp .gt 12, 3) := by decide +kernel
theorem dX0_versionFor_10 : decode cX0_versionFor 10 = .ok (.aload_n 0, 1) := by decide +kernel
theorem dX0_versionFor_11 : decode cX0_versionFor 11 = .ok (.getfield 24, 3) := by decide +kernel
theorem dX0_versionFor_14 : decode cX0_versionFor 14 = .ok (.iload_n 1, 1) := by decide +kernel
theorem dX0_versionFor_15 : decode cX0_versionFor 15 = .ok (.iaload, 1) := by decide +kernel
theorem dX0_versionFor_16 : decode cX0_versionFor 16 = .ok (.goto 4, 3) := by decide +kernel
theorem dX0_versionFor_19 : decode cX0_versionFor 19 = .ok (.iconst (-1), 1) := by decide +kernel
theorem dX0_versionFor_20 : decode cX0_versionFor 20 = .ok (.ireturn, 1) := by decide +kernel
set_option maxRecDepth 20000 in
theorem ggX0_targetNamed_X1_byteAt : GoodIn wsX0_targetNamed wsX1_byteAt := goodIn_r _ [8, 9, 10, 35, 36] (by decide +kernel) (by decide +kernel)
set_option maxRecDepth 20000 in
theorem gX0_targetNamed_X1_byteAt : GoodIn wsX0_targetNamed (wsV RX0 53 RX1 yX1_byteAt wsX1_byteAt) := goodIn_app (goodIn_of _ (by decide +kernel)) ggX0_targetNamed_X1_byteAt
set_option maxRecDepth 20000 in
theorem ggX0_targetNamed_X1_size : GoodIn wsX0_targetNamed wsX1_size := goodIn_r _ [14, 9, 35, 36] (by decide +kernel) (by decide +kernel)
set_option maxRecDepth 20000 in
theorem gX0_targetNamed_X1_size : GoodIn wsX0_targetNamed (wsV RX0 70 RX1 yX1_size wsX1_size) := goodIn_app (goodIn_of _ (by decide +kernel)) ggX0_targetNamed_X1_size
set_option maxRecDepth 20000 in
theorem ggX0_targetNamed_X1_agrees : GoodIn wsX0_targetNamed wsX1_agrees := goodIn_r _ [18, 19, 5, 6, 7, 8, 9, 10, 35, 36] (by decide +kernel) (by decide +kernel)
set_option maxRecDepth 20000 in
theorem gX0_targetNamed_X1_agrees : GoodIn wsX0_targetNamed (wsV RX0 110 RX1 yX1_agrees wsX1_agrees) := goodIn_app (goodIn_of _ (by decide +kernel)) ggX0_targetNamed_X1_agrees
theorem dX0_targetNamed_0 : decode cX0_targetNamed 0 = .ok (.iconst 0, 1) := by decide +kernel
theorem dX0_targetNamed_1 : decode cX0_targetNamed 1 = .ok (.istore_n 2, 1) := by decide +kernel
theorem dX0_targetNamed_2 : decode cX0_targetNamed 2 = .ok (.iload_n 2, 1) := by decide +kernel
theorem dX0_targetNamed_3 : decode cX0_targetNamed 3 = .ok (.aload_n 0, 1) := by decide +kernel
theorem dX0_targetNamed_4 : decode cX0_targetNamed 4 = .ok (.getfield 99, 3) := by decide +kernel
theorem dX0_targetNamed_7 : decode cX0_targetNamed 7 = .ok (.if_icmp .ge 59, 3) := by decide +kernel
theorem dX0_targetNamed_10 : decode cX0_targetNamed 10 = .ok (.aload_n 0, 1) := by decide +kernel
theorem dX0_targetNamed_11 : decode cX0_targetNamed 11 = .ok (.getfield 27, 3) := by decide +kernel
theorem dX0_targetNamed_14 : decode cX0_targetNamed 14 = .ok (.iload_n 2, 1) := by decide +kernel
theorem dX0_targetNamed_15 : decode cX0_targetNamed 15 = .ok (.iaload, 1) := by decide +kernel
theorem dX0_targetNamed_16 : decode cX0_targetNamed 16 = .ok (.istore_n 3, 1) := by decide +kernel
theorem dX0_targetNamed_17 : decode cX0_targetNamed 17 = .ok (.aload_n 0, 1) := by decide +kernel
theorem dX0_targetNamed_18 : decode cX0_targetNamed 18 = .ok (.getfield 14, 3) := by decide +kernel
theorem dX0_targetNamed_21 : decode cX0_targetNamed 21 = .ok (.iload_n 3, 1) := by decide +kernel
theorem dX0_targetNamed_22 : decode cX0_targetNamed 22 = .ok (.invokevirtual 53, 3) := by decide +kernel
theorem dX0_targetNamed_25 : decode cX0_targetNamed 25 = .ok (.aload_n 1, 1) := by decide +kernel
theorem dX0_targetNamed_26 : decode cX0_targetNamed 26 = .ok (.invokevirtual 70, 3) := by decide +kernel
theorem dX0_targetNamed_29 : decode cX0_targetNamed 29 = .ok (.if_icmp .ne 31, 3) := by decide +kernel
theorem dX0_targetNamed_32 : decode cX0_targetNamed 32 = .ok (.aload_n 1, 1) := by decide +kernel
theorem dX0_targetNamed_33 : decode cX0_targetNamed 33 = .ok (.iconst 0, 1) := by decide +kernel
theorem dX0_targetNamed_34 : decode cX0_targetNamed 34 = .ok (.aload_n 0, 1) := by decide +kernel
theorem dX0_targetNamed_35 : decode cX0_targetNamed 35 = .ok (.getfield 14, 3) := by decide +kernel
theorem dX0_targetNamed_38 : decode cX0_targetNamed 38 = .ok (.iload_n 3, 1) := by decide +kernel
theorem dX0_targetNamed_39 : decode cX0_targetNamed 39 = .ok (.iconst 1, 1) := by decide +kernel
theorem dX0_targetNamed_40 : decode cX0_targetNamed 40 = .ok (.iadd, 1) := by decide +kernel
theorem dX0_targetNamed_41 : decode cX0_targetNamed 41 = .ok (.aload_n 1, 1) := by decide +kernel
theorem dX0_targetNamed_42 : decode cX0_targetNamed 42 = .ok (.invokevirtual 70, 3) := by decide +kernel
theorem dX0_targetNamed_45 : decode cX0_targetNamed 45 = .ok (.invokevirtual 110, 3) := by decide +kernel
theorem dX0_targetNamed_48 : decode cX0_targetNamed 48 = .ok (.ifCond .eq 12, 3) := by decide +kernel
theorem dX0_targetNamed_51 : decode cX0_targetNamed 51 = .ok (.iload_n 3, 1) := by decide +kernel
theorem dX0_targetNamed_52 : decode cX0_targetNamed 52 = .ok (.iconst 1, 1) := by decide +kernel
theorem dX0_targetNamed_53 : decode cX0_targetNamed 53 = .ok (.iadd, 1) := by decide +kernel
theorem dX0_targetNamed_54 : decode cX0_targetNamed 54 = .ok (.aload_n 1, 1) := by decide +kernel
theorem dX0_targetNamed_55 : decode cX0_targetNamed 55 = .ok (.invokevirtual 70, 3) := by decide +kernel
theorem dX0_targetNamed_58 : decode cX0_targetNamed 58 = .ok (.iadd, 1) := by decide +kernel
theorem dX0_targetNamed_59 : decode cX0_targetNamed 59 = .ok (.ireturn, 1) := by decide +kernel
theorem dX0_targetNamed_60 : decode cX0_targetNamed 60 = .ok (.iinc 2 1, 3) := by decide +kernel
theorem dX0_targetNamed_63 : decode cX0_targetNamed 63 = .ok (.goto (-61), 3) := by decide +kernel
theorem dX0_targetNamed_66 : decode cX0_targetNamed 66 = .ok (.iconst (-1), 1) := by decide +kernel
theorem dX0_targetNamed_67 : decode cX0_targetNamed 67 = .ok (.ireturn, 1) := by decide +kernel
theorem dX0_delegationCount_0 : decode cX0_delegationCount 0 = .ok (.aload_n 0, 1) := by decide +kernel
theorem dX0_delegationCount_1 : decode cX0_delegationCount 1 = .ok (.getfield 114, 3) := by decide +kernel
theorem dX0_delegationCount_4 : decode cX0_delegationCount 4 = .ok (.ireturn, 1) := by decide +kernel
theorem dX0_delegationPlace_0 : decode cX0_delegationPlace 0 = .ok (.iload_n 1, 1) := by decide +kernel
theorem dX0_delegationPlace_1 : decode cX0_delegationPlace 1 = .ok (.ifCond .lt 20, 3) := by decide +kernel
theorem dX0_delegationPlace_4 : decode cX0_delegationPlace 4 = .ok (.iload_n 1, 1) := by decide +kernel
theorem dX0_delegationPlace_5 : decode cX0_delegationPlace 5 = .ok (.aload_n 0, 1) := by decide +kernel
theorem dX0_delegationPlace_6 : decode cX0_delegationPlace 6 = .ok (.getfield 114, 3) := by decide +kernel
theorem dX0_delegationPlace_9 : decode cX0_delegationPlace 9 = .ok (.if_icmp .ge 12, 3) := by decide +kernel
theorem dX0_delegationPlace_12 : decode cX0_delegationPlace 12 = .ok (.aload_n 0, 1) := by decide +kernel
theorem dX0_delegationPlace_13 : decode cX0_delegationPlace 13 = .ok (.getfield 30, 3) := by decide +kernel
theorem dX0_delegationPlace_16 : decode cX0_delegationPlace 16 = .ok (.iload_n 1, 1) := by decide +kernel
theorem dX0_delegationPlace_17 : decode cX0_delegationPlace 17 = .ok (.iaload, 1) := by decide +kernel
theorem dX0_delegationPlace_18 : decode cX0_delegationPlace 18 = .ok (.goto 4, 3) := by decide +kernel
theorem dX0_delegationPlace_21 : decode cX0_delegationPlace 21 = .ok (.iconst (-1), 1) := by decide +kernel
theorem dX0_delegationPlace_22 : decode cX0_delegationPlace 22 = .ok (.ireturn, 1) := by decide +kernel
set_option maxRecDepth 20000 in
theorem ggX0_delegateOf_X0_delegationPlace : GoodIn wsX0_delegateOf wsX0_delegationPlace := goodIn_r _ [6, 7, 8, 16, 17, 18, 19, 20, 21, 22, 23, 24, 25, 26, 27, 28, 29, 30] (by decide +kernel) (by decide +kernel)
set_option maxRecDepth 20000 in
theorem gX0_delegateOf_X0_delegationPlace : GoodIn wsX0_delegateOf (wsV RX0 136 RX0 yX0_delegationPlace wsX0_delegationPlace) := goodIn_app (goodIn_of _ (by decide +kernel)) ggX0_delegateOf_X0_delegationPlace
set_option maxRecDepth 20000 in
theorem ggX0_delegateOf_X1_byteAt : GoodIn wsX0_delegateOf wsX1_byteAt := goodIn_r _ [13, 14, 15, 31, 32] (by decide +kernel) (by decide +kernel)
set_option maxRecDepth 20000 in
theorem gX0_delegateOf_X1_byteAt : GoodIn wsX0_delegateOf (wsV RX0 53 RX1 yX1_byteAt wsX1_byteAt) := goodIn_app (goodIn_of _ (by decide +kernel)) ggX0_delegateOf_X1_byteAt
theorem dX0_delegateOf_0 : decode cX0_delegateOf 0 = .ok (.aload_n 0, 1) := by decide +kernel
theorem dX0_delegateOf_1 : decode cX0_delegateOf 1 = .ok (.getfield 14, 3) := by decide +kernel
theorem dX0_delegateOf_4 : decode cX0_delegateOf 4 = .ok (.aload_n 0, 1) := by decide +kernel
theorem dX0_delegateOf_5 : decode cX0_delegateOf 5 = .ok (.iload_n 1, 1) := by decide +kernel
theorem dX0_delegateOf_6 : decode cX0_delegateOf 6 = .ok (.invokevirtual 136, 3) := by decide +kernel
theorem dX0_delegateOf_9 : decode cX0_delegateOf 9 = .ok (.invokevirtual 53, 3) := by decide +kernel
theorem dX0_delegateOf_12 : decode cX0_delegateOf 12 = .ok (.ireturn, 1) := by decide +kernel
set_option maxRecDepth 20000 in
theorem ggX0_isFinal_X0_delegationPlace : GoodIn wsX0_isFinal wsX0_delegationPlace := goodIn_r _ [6, 7, 8, 16, 17, 18, 19, 20, 21, 22, 23, 24, 25, 26, 27, 28, 29, 30] (by decide +kernel) (by decide +kernel)
set_option maxRecDepth 20000 in
theorem gX0_isFinal_X0_delegationPlace : GoodIn wsX0_isFinal (wsV RX0 136 RX0 yX0_delegationPlace wsX0_delegationPlace) := goodIn_app (goodIn_of _ (by decide +kernel)) ggX0_isFinal_X0_delegationPlace
set_option maxRecDepth 20000 in
theorem ggX0_isFinal_X1_byteAt : GoodIn wsX0_isFinal wsX1_byteAt := goodIn_r _ [13, 14, 15, 31, 32] (by decide +kernel) (by decide +kernel)
set_option maxRecDepth 20000 in
theorem gX0_isFinal_X1_byteAt : GoodIn wsX0_isFinal (wsV RX0 53 RX1 yX1_byteAt wsX1_byteAt) := goodIn_app (goodIn_of _ (by decide +kernel)) ggX0_isFinal_X1_byteAt
theorem dX0_isFinal_0 : decode cX0_isFinal 0 = .ok (.aload_n 0, 1) := by decide +kernel
theorem dX0_isFinal_1 : decode cX0_isFinal 1 = .ok (.getfield 14, 3) := by decide +kernel
theorem dX0_isFinal_4 : decode cX0_isFinal 4 = .ok (.aload_n 0, 1) := by decide +kernel
theorem dX0_isFinal_5 : decode cX0_isFinal 5 = .ok (.iload_n 1, 1) := by decide +kernel
theorem dX0_isFinal_6 : decode cX0_isFinal 6 = .ok (.invokevirtual 136, 3) := by decide +kernel
theorem dX0_isFinal_9 : decode cX0_isFinal 9 = .ok (.iconst 1, 1) := by decide +kernel
theorem dX0_isFinal_10 : decode cX0_isFinal 10 = .ok (.iadd, 1) := by decide +kernel
theorem dX0_isFinal_11 : decode cX0_isFinal 11 = .ok (.invokevirtual 53, 3) := by decide +kernel
theorem dX0_isFinal_14 : decode cX0_isFinal 14 = .ok (.iconst 1, 1) := by decide +kernel
theorem dX0_isFinal_15 : decode cX0_isFinal 15 = .ok (.if_icmp .ne 7, 3) := by decide +kernel
theorem dX0_isFinal_18 : decode cX0_isFinal 18 = .ok (.iconst 1, 1) := by decide +kernel
theorem dX0_isFinal_19 : decode cX0_isFinal 19 = .ok (.goto 4, 3) := by decide +kernel
theorem dX0_isFinal_22 : decode cX0_isFinal 22 = .ok (.iconst 0, 1) := by decide +kernel
theorem dX0_isFinal_23 : decode cX0_isFinal 23 = .ok (.ireturn, 1) := by decide +kernel
set_option maxRecDepth 20000 in
theorem ggX0_delegatedKeySet_X0_delegationPlace : GoodIn wsX0_delegatedKeySet wsX0_delegationPlace := goodIn_r _ [5, 6, 7, 8, 9, 10, 11, 12, 13, 14, 15, 16, 17, 18, 19, 20, 21, 22] (by decide +kernel) (by decide +kernel)
set_option maxRecDepth 20000 in
theorem gX0_delegatedKeySet_X0_delegationPlace : GoodIn wsX0_delegatedKeySet (wsV RX0 136 RX0 yX0_delegationPlace wsX0_delegationPlace) := goodIn_app (goodIn_of _ (by decide +kernel)) ggX0_delegatedKeySet_X0_delegationPlace
theorem dX0_delegatedKeySet_0 : decode cX0_delegatedKeySet 0 = .ok (.aload_n 0, 1) := by decide +kernel
theorem dX0_delegatedKeySet_1 : decode cX0_delegatedKeySet 1 = .ok (.iload_n 1, 1) := by decide +kernel
theorem dX0_delegatedKeySet_2 : decode cX0_delegatedKeySet 2 = .ok (.invokevirtual 136, 3) := by decide +kernel
theorem dX0_delegatedKeySet_5 : decode cX0_delegatedKeySet 5 = .ok (.iconst 2, 1) := by decide +kernel
theorem dX0_delegatedKeySet_6 : decode cX0_delegatedKeySet 6 = .ok (.iadd, 1) := by decide +kernel
theorem dX0_delegatedKeySet_7 : decode cX0_delegatedKeySet 7 = .ok (.ireturn, 1) := by decide +kernel
set_option maxRecDepth 20000 in
theorem ggX0_delegates_X0_delegatedKeySet : GoodIn wsX0_delegates wsX0_delegatedKeySet := goodIn_r _ [6, 7, 8, 9, 5, 10, 11, 12, 25, 26, 27, 28, 29, 30, 31, 32, 33, 34, 35, 36, 37, 38, 39] (by decide +kernel) (by decide +kernel)
set_option maxRecDepth 20000 in
theorem gX0_delegates_X0_delegatedKeySet : GoodIn wsX0_delegates (wsV RX0 139 RX0 yX0_delegatedKeySet wsX0_delegatedKeySet) := goodIn_app (goodIn_of _ (by decide +kernel)) ggX0_delegates_X0_delegatedKeySet
set_option maxRecDepth 20000 in
theorem ggX0_delegates_X1_byteAt : GoodIn wsX0_delegates wsX1_byteAt := goodIn_r _ [17, 18, 19, 40, 41] (by decide +kernel) (by decide +kernel)
set_option maxRecDepth 20000 in
theorem gX0_delegates_X1_byteAt : GoodIn wsX0_delegates (wsV RX0 53 RX1 yX1_byteAt wsX1_byteAt) := goodIn_app (goodIn_of _ (by decide +kernel)) ggX0_delegates_X1_byteAt
set_option maxRecDepth 20000 in
theorem ggX0_delegates_X1_agrees : GoodIn wsX0_delegates wsX1_agrees := goodIn_r _ [23, 24, 14, 15, 16, 17, 18, 19, 40, 41] (by decide +kernel) (by decide +kernel)
set_option maxRecDepth 20000 in
theorem gX0_delegates_X1_agrees : GoodIn wsX0_delegates (wsV RX0 110 RX1 yX1_agrees wsX1_agrees) := goodIn_app (goodIn_of _ (by decide +kernel)) ggX0_delegates_X1_agrees
theorem dX0_delegates_0 : decode cX0_delegates 0 = .ok (.aload_n 0, 1) := by decide +kernel
theorem dX0_delegates_1 : decode cX0_delegates 1 = .ok (.iload_n 1, 1) := by decide +kernel
theorem dX0_delegates_2 : decode cX0_delegates 2 = .ok (.invokevirtual 139, 3) := by decide +kernel
theorem dX0_delegates_5 : decode cX0_delegates 5 = .ok (.istore_n 3, 1) := by decide +kernel
theorem dX0_delegates_6 : decode cX0_delegates 6 = .ok (.iload_n 3, 1) := by decide +kernel
theorem dX0_delegates_7 : decode cX0_delegates 7 = .ok (.iconst 2, 1) := by decide +kernel
theorem dX0_delegates_8 : decode cX0_delegates 8 = .ok (.iadd, 1) := by decide +kernel
theorem dX0_delegates_9 : decode cX0_delegates 9 = .ok (.aload_n 0, 1) := by decide +kernel
theorem dX0_delegates_10 : decode cX0_delegates 10 = .ok (.getfield 14, 3) := by decide +kernel
theorem dX0_delegates_13 : decode cX0_delegates 13 = .ok (.iload_n 3, 1) := by decide +kernel
theorem dX0_delegates_14 : decode cX0_delegates 14 = .ok (.iconst 1, 1) := by decide +kernel
theorem dX0_delegates_15 : decode cX0_delegates 15 = .ok (.iadd, 1) := by decide +kernel
end
section
theorem dX0_delegates_16 : decode cX0_delegates 16 = .ok (.invokevirtual 53, 3) := by decide +kernel
theorem dX0_delegates_19 : decode cX0_delegates 19 = .ok (.iadd, 1) := by decide +kernel
theorem dX0_delegates_20 : decode cX0_delegates 20 = .ok (.istore 4, 2) := by decide +kernel
theorem dX0_delegates_22 : decode cX0_delegates 22 = .ok (.aload_n 2, 1) := by decide +kernel
theorem dX0_delegates_23 : decode cX0_delegates 23 = .ok (.iconst 0, 1) := by decide +kernel
theorem dX0_delegates_24 : decode cX0_delegates 24 = .ok (.aload_n 0, 1) := by decide +kernel
theorem dX0_delegates_25 : decode cX0_delegates 25 = .ok (.getfield 14, 3) := by decide +kernel
theorem dX0_delegates_28 : decode cX0_delegates 28 = .ok (.iload 4, 2) := by decide +kernel
theorem dX0_delegates_30 : decode cX0_delegates 30 = .ok (.iconst 1, 1) := by decide +kernel
theorem dX0_delegates_31 : decode cX0_delegates 31 = .ok (.iadd, 1) := by decide +kernel
theorem dX0_delegates_32 : decode cX0_delegates 32 = .ok (.aload_n 0, 1) := by decide +kernel
theorem dX0_delegates_33 : decode cX0_delegates 33 = .ok (.getfield 14, 3) := by decide +kernel
theorem dX0_delegates_36 : decode cX0_delegates 36 = .ok (.iload 4, 2) := by decide +kernel
theorem dX0_delegates_38 : decode cX0_delegates 38 = .ok (.invokevirtual 53, 3) := by decide +kernel
theorem dX0_delegates_41 : decode cX0_delegates 41 = .ok (.invokevirtual 110, 3) := by decide +kernel
theorem dX0_delegates_44 : decode cX0_delegates 44 = .ok (.ireturn, 1) := by decide +kernel
theorem dX1_init_0 : decode cX1_init 0 = .ok (.aload_n 0, 1) := by decide +kernel
theorem dX1_init_1 : decode cX1_init 1 = .ok (.invokespecial 3, 3) := by decide +kernel
theorem dX1_init_4 : decode cX1_init 4 = .ok (.aload_n 0, 1) := by decide +kernel
theorem dX1_init_5 : decode cX1_init 5 = .ok (.iload_n 1, 1) := by decide +kernel
theorem dX1_init_6 : decode cX1_init 6 = .ok (.newarray .int, 2) := by decide +kernel
theorem dX1_init_8 : decode cX1_init 8 = .ok (.putfield 9, 3) := by decide +kernel
theorem dX1_init_11 : decode cX1_init 11 = .ok (.return_, 1) := by decide +kernel
theorem dX1_size_0 : decode cX1_size 0 = .ok (.aload_n 0, 1) := by decide +kernel
theorem dX1_size_1 : decode cX1_size 1 = .ok (.getfield 15, 3) := by decide +kernel
theorem dX1_size_4 : decode cX1_size 4 = .ok (.ireturn, 1) := by decide +kernel
theorem dX1_has_0 : decode cX1_has 0 = .ok (.iload_n 1, 1) := by decide +kernel
theorem dX1_has_1 : decode cX1_has 1 = .ok (.ifCond .lt 15, 3) := by decide +kernel
theorem dX1_has_4 : decode cX1_has 4 = .ok (.iload_n 1, 1) := by decide +kernel
theorem dX1_has_5 : decode cX1_has 5 = .ok (.aload_n 0, 1) := by decide +kernel
theorem dX1_has_6 : decode cX1_has 6 = .ok (.getfield 15, 3) := by decide +kernel
theorem dX1_has_9 : decode cX1_has 9 = .ok (.if_icmp .ge 7, 3) := by decide +kernel
theorem dX1_has_12 : decode cX1_has 12 = .ok (.iconst 1, 1) := by decide +kernel
theorem dX1_has_13 : decode cX1_has 13 = .ok (.goto 4, 3) := by decide +kernel
theorem dX1_has_16 : decode cX1_has 16 = .ok (.iconst 0, 1) := by decide +kernel
theorem dX1_has_17 : decode cX1_has 17 = .ok (.ireturn, 1) := by decide +kernel
theorem dX1_hasRoomFor_0 : decode cX1_hasRoomFor 0 = .ok (.iload_n 1, 1) := by decide +kernel
theorem dX1_hasRoomFor_1 : decode cX1_hasRoomFor 1 = .ok (.aload_n 0, 1) := by decide +kernel
theorem dX1_hasRoomFor_2 : decode cX1_hasRoomFor 2 = .ok (.getfield 9, 3) := by decide +kernel
theorem dX1_hasRoomFor_5 : decode cX1_hasRoomFor 5 = .ok (.arraylength, 1) := by decide +kernel
theorem dX1_hasRoomFor_6 : decode cX1_hasRoomFor 6 = .ok (.aload_n 0, 1) := by decide +kernel
theorem dX1_hasRoomFor_7 : decode cX1_hasRoomFor 7 = .ok (.getfield 15, 3) := by decide +kernel
theorem dX1_hasRoomFor_10 : decode cX1_hasRoomFor 10 = .ok (.isub, 1) := by decide +kernel
theorem dX1_hasRoomFor_11 : decode cX1_hasRoomFor 11 = .ok (.if_icmp .gt 7, 3) := by decide +kernel
theorem dX1_hasRoomFor_14 : decode cX1_hasRoomFor 14 = .ok (.iconst 1, 1) := by decide +kernel
theorem dX1_hasRoomFor_15 : decode cX1_hasRoomFor 15 = .ok (.goto 4, 3) := by decide +kernel
theorem dX1_hasRoomFor_18 : decode cX1_hasRoomFor 18 = .ok (.iconst 0, 1) := by decide +kernel
theorem dX1_hasRoomFor_19 : decode cX1_hasRoomFor 19 = .ok (.ireturn, 1) := by decide +kernel
theorem dX1_byteAt_0 : decode cX1_byteAt 0 = .ok (.iload_n 1, 1) := by decide +kernel
theorem dX1_byteAt_1 : decode cX1_byteAt 1 = .ok (.ifCond .lt 20, 3) := by decide +kernel
theorem dX1_byteAt_4 : decode cX1_byteAt 4 = .ok (.iload_n 1, 1) := by decide +kernel
theorem dX1_byteAt_5 : decode cX1_byteAt 5 = .ok (.aload_n 0, 1) := by decide +kernel
theorem dX1_byteAt_6 : decode cX1_byteAt 6 = .ok (.getfield 15, 3) := by decide +kernel
theorem dX1_byteAt_9 : decode cX1_byteAt 9 = .ok (.if_icmp .ge 12, 3) := by decide +kernel
theorem dX1_byteAt_12 : decode cX1_byteAt 12 = .ok (.aload_n 0, 1) := by decide +kernel
theorem dX1_byteAt_13 : decode cX1_byteAt 13 = .ok (.getfield 9, 3) := by decide +kernel
theorem dX1_byteAt_16 : decode cX1_byteAt 16 = .ok (.iload_n 1, 1) := by decide +kernel
theorem dX1_byteAt_17 : decode cX1_byteAt 17 = .ok (.iaload, 1) := by decide +kernel
theorem dX1_byteAt_18 : decode cX1_byteAt 18 = .ok (.goto 4, 3) := by decide +kernel
theorem dX1_byteAt_21 : decode cX1_byteAt 21 = .ok (.iconst (-1), 1) := by decide +kernel
theorem dX1_byteAt_22 : decode cX1_byteAt 22 = .ok (.ireturn, 1) := by decide +kernel
theorem dX1_wordAt_0 : decode cX1_wordAt 0 = .ok (.iload_n 1, 1) := by decide +kernel
theorem dX1_wordAt_1 : decode cX1_wordAt 1 = .ok (.ifCond .lt 13, 3) := by decide +kernel
theorem dX1_wordAt_4 : decode cX1_wordAt 4 = .ok (.iload_n 1, 1) := by decide +kernel
theorem dX1_wordAt_5 : decode cX1_wordAt 5 = .ok (.aload_n 0, 1) := by decide +kernel
theorem dX1_wordAt_6 : decode cX1_wordAt 6 = .ok (.getfield 15, 3) := by decide +kernel
theorem dX1_wordAt_9 : decode cX1_wordAt 9 = .ok (.iconst 4, 1) := by decide +kernel
theorem dX1_wordAt_10 : decode cX1_wordAt 10 = .ok (.isub, 1) := by decide +kernel
theorem dX1_wordAt_11 : decode cX1_wordAt 11 = .ok (.if_icmp .le 5, 3) := by decide +kernel
theorem dX1_wordAt_14 : decode cX1_wordAt 14 = .ok (.iconst 0, 1) := by decide +kernel
theorem dX1_wordAt_15 : decode cX1_wordAt 15 = .ok (.ireturn, 1) := by decide +kernel
theorem dX1_wordAt_16 : decode cX1_wordAt 16 = .ok (.aload_n 0, 1) := by decide +kernel
theorem dX1_wordAt_17 : decode cX1_wordAt 17 = .ok (.getfield 9, 3) := by decide +kernel
theorem dX1_wordAt_20 : decode cX1_wordAt 20 = .ok (.iload_n 1, 1) := by decide +kernel
theorem dX1_wordAt_21 : decode cX1_wordAt 21 = .ok (.iaload, 1) := by decide +kernel
theorem dX1_wordAt_22 : decode cX1_wordAt 22 = .ok (.bipush 24, 2) := by decide +kernel
theorem dX1_wordAt_24 : decode cX1_wordAt 24 = .ok (.ishl, 1) := by decide +kernel
theorem dX1_wordAt_25 : decode cX1_wordAt 25 = .ok (.aload_n 0, 1) := by decide +kernel
theorem dX1_wordAt_26 : decode cX1_wordAt 26 = .ok (.getfield 9, 3) := by decide +kernel
theorem dX1_wordAt_29 : decode cX1_wordAt 29 = .ok (.iload_n 1, 1) := by decide +kernel
theorem dX1_wordAt_30 : decode cX1_wordAt 30 = .ok (.iconst 1, 1) := by decide +kernel
theorem dX1_wordAt_31 : decode cX1_wordAt 31 = .ok (.iadd, 1) := by decide +kernel
theorem dX1_wordAt_32 : decode cX1_wordAt 32 = .ok (.iaload, 1) := by decide +kernel
theorem dX1_wordAt_33 : decode cX1_wordAt 33 = .ok (.bipush 16, 2) := by decide +kernel
theorem dX1_wordAt_35 : decode cX1_wordAt 35 = .ok (.ishl, 1) := by decide +kernel
theorem dX1_wordAt_36 : decode cX1_wordAt 36 = .ok (.ior, 1) := by decide +kernel
theorem dX1_wordAt_37 : decode cX1_wordAt 37 = .ok (.aload_n 0, 1) := by decide +kernel
theorem dX1_wordAt_38 : decode cX1_wordAt 38 = .ok (.getfield 9, 3) := by decide +kernel
theorem dX1_wordAt_41 : decode cX1_wordAt 41 = .ok (.iload_n 1, 1) := by decide +kernel
theorem dX1_wordAt_42 : decode cX1_wordAt 42 = .ok (.iconst 2, 1) := by decide +kernel
theorem dX1_wordAt_43 : decode cX1_wordAt 43 = .ok (.iadd, 1) := by decide +kernel
theorem dX1_wordAt_44 : decode cX1_wordAt 44 = .ok (.iaload, 1) := by decide +kernel
theorem dX1_wordAt_45 : decode cX1_wordAt 45 = .ok (.bipush 8, 2) := by decide +kernel
theorem dX1_wordAt_47 : decode cX1_wordAt 47 = .ok (.ishl, 1) := by decide +kernel
theorem dX1_wordAt_48 : decode cX1_wordAt 48 = .ok (.ior, 1) := by decide +kernel
theorem dX1_wordAt_49 : decode cX1_wordAt 49 = .ok (.aload_n 0, 1) := by decide +kernel
theorem dX1_wordAt_50 : decode cX1_wordAt 50 = .ok (.getfield 9, 3) := by decide +kernel
theorem dX1_wordAt_53 : decode cX1_wordAt 53 = .ok (.iload_n 1, 1) := by decide +kernel
theorem dX1_wordAt_54 : decode cX1_wordAt 54 = .ok (.iconst 3, 1) := by decide +kernel
theorem dX1_wordAt_55 : decode cX1_wordAt 55 = .ok (.iadd, 1) := by decide +kernel
theorem dX1_wordAt_56 : decode cX1_wordAt 56 = .ok (.iaload, 1) := by decide +kernel
theorem dX1_wordAt_57 : decode cX1_wordAt 57 = .ok (.ior, 1) := by decide +kernel
theorem dX1_wordAt_58 : decode cX1_wordAt 58 = .ok (.ireturn, 1) := by decide +kernel
theorem dX1_replace_0 : decode cX1_replace 0 = .ok (.iload_n 1, 1) := by decide +kernel
theorem dX1_replace_1 : decode cX1_replace 1 = .ok (.ifCond .lt 22, 3) := by decide +kernel
theorem dX1_replace_4 : decode cX1_replace 4 = .ok (.iload_n 1, 1) := by decide +kernel
theorem dX1_replace_5 : decode cX1_replace 5 = .ok (.aload_n 0, 1) := by decide +kernel
theorem dX1_replace_6 : decode cX1_replace 6 = .ok (.getfield 15, 3) := by decide +kernel
theorem dX1_replace_9 : decode cX1_replace 9 = .ok (.if_icmp .ge 14, 3) := by decide +kernel
theorem dX1_replace_12 : decode cX1_replace 12 = .ok (.aload_n 0, 1) := by decide +kernel
theorem dX1_replace_13 : decode cX1_replace 13 = .ok (.getfield 9, 3) := by decide +kernel
theorem dX1_replace_16 : decode cX1_replace 16 = .ok (.iload_n 1, 1) := by decide +kernel
theorem dX1_replace_17 : decode cX1_replace 17 = .ok (.iload_n 2, 1) := by decide +kernel
theorem dX1_replace_18 : decode cX1_replace 18 = .ok (.sipush 255, 3) := by decide +kernel
theorem dX1_replace_21 : decode cX1_replace 21 = .ok (.iand, 1) := by decide +kernel
theorem dX1_replace_22 : decode cX1_replace 22 = .ok (.iastore, 1) := by decide +kernel
theorem dX1_replace_23 : decode cX1_replace 23 = .ok (.return_, 1) := by decide +kernel
theorem dX1_append_0 : decode cX1_append 0 = .ok (.aload_n 0, 1) := by decide +kernel
theorem dX1_append_1 : decode cX1_append 1 = .ok (.getfield 15, 3) := by decide +kernel
theorem dX1_append_4 : decode cX1_append 4 = .ok (.aload_n 0, 1) := by decide +kernel
theorem dX1_append_5 : decode cX1_append 5 = .ok (.getfield 9, 3) := by decide +kernel
theorem dX1_append_8 : decode cX1_append 8 = .ok (.arraylength, 1) := by decide +kernel
theorem dX1_append_9 : decode cX1_append 9 = .ok (.if_icmp .ge 27, 3) := by decide +kernel
theorem dX1_append_12 : decode cX1_append 12 = .ok (.aload_n 0, 1) := by decide +kernel
theorem dX1_append_13 : decode cX1_append 13 = .ok (.getfield 9, 3) := by decide +kernel
theorem dX1_append_16 : decode cX1_append 16 = .ok (.aload_n 0, 1) := by decide +kernel
theorem dX1_append_17 : decode cX1_append 17 = .ok (.getfield 15, 3) := by decide +kernel
theorem dX1_append_20 : decode cX1_append 20 = .ok (.iload_n 1, 1) := by decide +kernel
theorem dX1_append_21 : decode cX1_append 21 = .ok (.sipush 255, 3) := by decide +kernel
theorem dX1_append_24 : decode cX1_append 24 = .ok (.iand, 1) := by decide +kernel
theorem dX1_append_25 : decode cX1_append 25 = .ok (.iastore, 1) := by decide +kernel
theorem dX1_append_26 : decode cX1_append 26 = .ok (.aload_n 0, 1) := by decide +kernel
theorem dX1_append_27 : decode cX1_append 27 = .ok (.dup, 1) := by decide +kernel
theorem dX1_append_28 : decode cX1_append 28 = .ok (.getfield 15, 3) := by decide +kernel
theorem dX1_append_31 : decode cX1_append 31 = .ok (.iconst 1, 1) := by decide +kernel
theorem dX1_append_32 : decode cX1_append 32 = .ok (.iadd, 1) := by decide +kernel
theorem dX1_append_33 : decode cX1_append 33 = .ok (.putfield 15, 3) := by decide +kernel
theorem dX1_append_36 : decode cX1_append 36 = .ok (.return_, 1) := by decide +kernel
set_option maxRecDepth 20000 in
theorem ggX1_appendLowest_X1_append : GoodIn wsX1_appendLowest wsX1_append := goodIn_r _ [5, 6, 7, 8, 9] (by decide +kernel) (by decide +kernel)
set_option maxRecDepth 20000 in
theorem gX1_appendLowest_X1_append : GoodIn wsX1_appendLowest (wsV RX1 19 RX1 yX1_append wsX1_append) := goodIn_app (goodIn_of _ (by decide +kernel)) ggX1_appendLowest_X1_append
theorem dX1_appendLowest_0 : decode cX1_appendLowest 0 = .ok (.iconst 0, 1) := by decide +kernel
theorem dX1_appendLowest_1 : decode cX1_appendLowest 1 = .ok (.istore 4, 2) := by decide +kernel
theorem dX1_appendLowest_3 : decode cX1_appendLowest 3 = .ok (.iload 4, 2) := by decide +kernel
theorem dX1_appendLowest_5 : decode cX1_appendLowest 5 = .ok (.iload_n 3, 1) := by decide +kernel
theorem dX1_appendLowest_6 : decode cX1_appendLowest 6 = .ok (.if_icmp .ge 21, 3) := by decide +kernel
theorem dX1_appendLowest_9 : decode cX1_appendLowest 9 = .ok (.aload_n 0, 1) := by decide +kernel
theorem dX1_appendLowest_10 : decode cX1_appendLowest 10 = .ok (.lload_n 1, 1) := by decide +kernel
theorem dX1_appendLowest_11 : decode cX1_appendLowest 11 = .ok (.bipush 8, 2) := by decide +kernel
theorem dX1_appendLowest_13 : decode cX1_appendLowest 13 = .ok (.iload 4, 2) := by decide +kernel
theorem dX1_appendLowest_15 : decode cX1_appendLowest 15 = .ok (.imul, 1) := by decide +kernel
theorem dX1_appendLowest_16 : decode cX1_appendLowest 16 = .ok (.lushr, 1) := by decide +kernel
theorem dX1_appendLowest_17 : decode cX1_appendLowest 17 = .ok (.l2i, 1) := by decide +kernel
theorem dX1_appendLowest_18 : decode cX1_appendLowest 18 = .ok (.invokevirtual 19, 3) := by decide +kernel
theorem dX1_appendLowest_21 : decode cX1_appendLowest 21 = .ok (.iinc 4 1, 3) := by decide +kernel
theorem dX1_appendLowest_24 : decode cX1_appendLowest 24 = .ok (.goto (-21), 3) := by decide +kernel
theorem dX1_appendLowest_27 : decode cX1_appendLowest 27 = .ok (.return_, 1) := by decide +kernel
set_option maxRecDepth 20000 in
theorem ggX1_appendWord_X1_append : GoodIn wsX1_appendWord wsX1_append := goodIn_r _ [5, 6, 7, 8, 9] (by decide +kernel) (by decide +kernel)
set_option maxRecDepth 20000 in
theorem gX1_appendWord_X1_append : GoodIn wsX1_appendWord (wsV RX1 19 RX1 yX1_append wsX1_append) := goodIn_app (goodIn_of _ (by decide +kernel)) ggX1_appendWord_X1_append
theorem dX1_appendWord_0 : decode cX1_appendWord 0 = .ok (.aload_n 0, 1) := by decide +kernel
theorem dX1_appendWord_1 : decode cX1_appendWord 1 = .ok (.iload_n 1, 1) := by decide +kernel
theorem dX1_appendWord_2 : decode cX1_appendWord 2 = .ok (.bipush 24, 2) := by decide +kernel
theorem dX1_appendWord_4 : decode cX1_appendWord 4 = .ok (.iushr, 1) := by decide +kernel
theorem dX1_appendWord_5 : decode cX1_appendWord 5 = .ok (.invokevirtual 19, 3) := by decide +kernel
theorem dX1_appendWord_8 : decode cX1_appendWord 8 = .ok (.aload_n 0, 1) := by decide +kernel
theorem dX1_appendWord_9 : decode cX1_appendWord 9 = .ok (.iload_n 1, 1) := by decide +kernel
theorem dX1_appendWord_10 : decode cX1_appendWord 10 = .ok (.bipush 16, 2) := by decide +kernel
theorem dX1_appendWord_12 : decode cX1_appendWord 12 = .ok (.iushr, 1) := by decide +kernel
theorem dX1_appendWord_13 : decode cX1_appendWord 13 = .ok (.invokevirtual 19, 3) := by decide +kernel
theorem dX1_appendWord_16 : decode cX1_appendWord 16 = .ok (.aload_n 0, 1) := by decide +kernel
theorem dX1_appendWord_17 : decode cX1_appendWord 17 = .ok (.iload_n 1, 1) := by decide +kernel
theorem dX1_appendWord_18 : decode cX1_appendWord 18 = .ok (.bipush 8, 2) := by decide +kernel
theorem dX1_appendWord_20 : decode cX1_appendWord 20 = .ok (.iushr, 1) := by decide +kernel
theorem dX1_appendWord_21 : decode cX1_appendWord 21 = .ok (.invokevirtual 19, 3) := by decide +kernel
theorem dX1_appendWord_24 : decode cX1_appendWord 24 = .ok (.aload_n 0, 1) := by decide +kernel
theorem dX1_appendWord_25 : decode cX1_appendWord 25 = .ok (.iload_n 1, 1) := by decide +kernel
theorem dX1_appendWord_26 : decode cX1_appendWord 26 = .ok (.invokevirtual 19, 3) := by decide +kernel
theorem dX1_appendWord_29 : decode cX1_appendWord 29 = .ok (.return_, 1) := by decide +kernel
theorem dX1_keepFirst_0 : decode cX1_keepFirst 0 = .ok (.iload_n 1, 1) := by decide +kernel
theorem dX1_keepFirst_1 : decode cX1_keepFirst 1 = .ok (.ifCond .lt 16, 3) := by decide +kernel
theorem dX1_keepFirst_4 : decode cX1_keepFirst 4 = .ok (.iload_n 1, 1) := by decide +kernel
theorem dX1_keepFirst_5 : decode cX1_keepFirst 5 = .ok (.aload_n 0, 1) := by decide +kernel
theorem dX1_keepFirst_6 : decode cX1_keepFirst 6 = .ok (.getfield 15, 3) := by decide +kernel
theorem dX1_keepFirst_9 : decode cX1_keepFirst 9 = .ok (.if_icmp .ge 8, 3) := by decide +kernel
theorem dX1_keepFirst_12 : decode cX1_keepFirst 12 = .ok (.aload_n 0, 1) := by decide +kernel
theorem dX1_keepFirst_13 : decode cX1_keepFirst 13 = .ok (.iload_n 1, 1) := by decide +kernel
theorem dX1_keepFirst_14 : decode cX1_keepFirst 14 = .ok (.putfield 15, 3) := by decide +kernel
theorem dX1_keepFirst_17 : decode cX1_keepFirst 17 = .ok (.return_, 1) := by decide +kernel
theorem dX1_become_0 : decode cX1_become 0 = .ok (.aload_n 1, 1) := by decide +kernel
theorem dX1_become_1 : decode cX1_become 1 = .ok (.getfield 15, 3) := by decide +kernel
theorem dX1_become_4 : decode cX1_become 4 = .ok (.aload_n 0, 1) := by decide +kernel
theorem dX1_become_5 : decode cX1_become 5 = .ok (.getfield 9, 3) := by decide +kernel
theorem dX1_become_8 : decode cX1_become 8 = .ok (.arraylength, 1) := by decide +kernel
theorem dX1_become_9 : decode cX1_become 9 = .ok (.if_icmp .gt 28, 3) := by decide +kernel
theorem dX1_become_12 : decode cX1_become 12 = .ok (.aload_n 1, 1) := by decide +kernel
theorem dX1_become_13 : decode cX1_become 13 = .ok (.getfield 9, 3) := by decide +kernel
theorem dX1_become_16 : decode cX1_become 16 = .ok (.iconst 0, 1) := by decide +kernel
theorem dX1_become_17 : decode cX1_become 17 = .ok (.aload_n 0, 1) := by decide +kernel
theorem dX1_become_18 : decode cX1_become 18 = .ok (.getfield 9, 3) := by decide +kernel
theorem dX1_become_21 : decode cX1_become 21 = .ok (.iconst 0, 1) := by decide +kernel
theorem dX1_become_22 : decode cX1_become 22 = .ok (.aload_n 1, 1) := by decide +kernel
theorem dX1_become_23 : decode cX1_become 23 = .ok (.getfield 15, 3) := by decide +kernel
theorem dX1_become_26 : decode cX1_become 26 = .ok (.invokestatic 23, 3) := by decide +kernel
theorem dX1_become_29 : decode cX1_become 29 = .ok (.aload_n 0, 1) := by decide +kernel
theorem dX1_become_30 : decode cX1_become 30 = .ok (.aload_n 1, 1) := by decide +kernel
theorem dX1_become_31 : decode cX1_become 31 = .ok (.getfield 15, 3) := by decide +kernel
theorem dX1_become_34 : decode cX1_become 34 = .ok (.putfield 15, 3) := by decide +kernel
theorem dX1_become_37 : decode cX1_become 37 = .ok (.return_, 1) := by decide +kernel
theorem dX1_mixOfFirst_0 : decode cX1_mixOfFirst 0 = .ok (.iload_n 2, 1) := by decide +kernel
theorem dX1_mixOfFirst_1 : decode cX1_mixOfFirst 1 = .ok (.ldc 29, 2) := by decide +kernel
theorem dX1_mixOfFirst_3 : decode cX1_mixOfFirst 3 = .ok (.imul, 1) := by decide +kernel
theorem dX1_mixOfFirst_4 : decode cX1_mixOfFirst 4 = .ok (.istore_n 3, 1) := by decide +kernel
theorem dX1_mixOfFirst_5 : decode cX1_mixOfFirst 5 = .ok (.iconst 0, 1) := by decide +kernel
theorem dX1_mixOfFirst_6 : decode cX1_mixOfFirst 6 = .ok (.istore 4, 2) := by decide +kernel
theorem dX1_mixOfFirst_8 : decode cX1_mixOfFirst 8 = .ok (.iload 4, 2) := by decide +kernel
theorem dX1_mixOfFirst_10 : decode cX1_mixOfFirst 10 = .ok (.iload_n 1, 1) := by decide +kernel
theorem dX1_mixOfFirst_11 : decode cX1_mixOfFirst 11 = .ok (.if_icmp .ge 38, 3) := by decide +kernel
theorem dX1_mixOfFirst_14 : decode cX1_mixOfFirst 14 = .ok (.iload 4, 2) := by decide +kernel
theorem dX1_mixOfFirst_16 : decode cX1_mixOfFirst 16 = .ok (.aload_n 0, 1) := by decide +kernel
theorem dX1_mixOfFirst_17 : decode cX1_mixOfFirst 17 = .ok (.getfield 15, 3) := by decide +kernel
theorem dX1_mixOfFirst_20 : decode cX1_mixOfFirst 20 = .ok (.if_icmp .ge 29, 3) := by decide +kernel
theorem dX1_mixOfFirst_23 : decode cX1_mixOfFirst 23 = .ok (.iload_n 3, 1) := by decide +kernel
theorem dX1_mixOfFirst_24 : decode cX1_mixOfFirst 24 = .ok (.aload_n 0, 1) := by decide +kernel
theorem dX1_mixOfFirst_25 : decode cX1_mixOfFirst 25 = .ok (.getfield 9, 3) := by decide +kernel
theorem dX1_mixOfFirst_28 : decode cX1_mixOfFirst 28 = .ok (.iload 4, 2) := by decide +kernel
theorem dX1_mixOfFirst_30 : decode cX1_mixOfFirst 30 = .ok (.iaload, 1) := by decide +kernel
theorem dX1_mixOfFirst_31 : decode cX1_mixOfFirst 31 = .ok (.ixor, 1) := by decide +kernel
theorem dX1_mixOfFirst_32 : decode cX1_mixOfFirst 32 = .ok (.ldc 30, 2) := by decide +kernel
theorem dX1_mixOfFirst_34 : decode cX1_mixOfFirst 34 = .ok (.imul, 1) := by decide +kernel
theorem dX1_mixOfFirst_35 : decode cX1_mixOfFirst 35 = .ok (.istore_n 3, 1) := by decide +kernel
theorem dX1_mixOfFirst_36 : decode cX1_mixOfFirst 36 = .ok (.iload_n 3, 1) := by decide +kernel
theorem dX1_mixOfFirst_37 : decode cX1_mixOfFirst 37 = .ok (.iload_n 3, 1) := by decide +kernel
theorem dX1_mixOfFirst_38 : decode cX1_mixOfFirst 38 = .ok (.bipush 15, 2) := by decide +kernel
theorem dX1_mixOfFirst_40 : decode cX1_mixOfFirst 40 = .ok (.iushr, 1) := by decide +kernel
theorem dX1_mixOfFirst_41 : decode cX1_mixOfFirst 41 = .ok (.ixor, 1) := by decide +kernel
theorem dX1_mixOfFirst_42 : decode cX1_mixOfFirst 42 = .ok (.istore_n 3, 1) := by decide +kernel
theorem dX1_mixOfFirst_43 : decode cX1_mixOfFirst 43 = .ok (.iinc 4 1, 3) := by decide +kernel
theorem dX1_mixOfFirst_46 : decode cX1_mixOfFirst 46 = .ok (.goto (-38), 3) := by decide +kernel
theorem dX1_mixOfFirst_49 : decode cX1_mixOfFirst 49 = .ok (.iload_n 3, 1) := by decide +kernel
theorem dX1_mixOfFirst_50 : decode cX1_mixOfFirst 50 = .ok (.ireturn, 1) := by decide +kernel
set_option maxRecDepth 20000 in
theorem ggX1_wholeDigest_X1_mixOfFirst : GoodIn wsX1_wholeDigest wsX1_mixOfFirst := goodIn_r _ [6, 7, 1, 8, 9, 10, 11] (by decide +kernel) (by decide +kernel)
set_option maxRecDepth 20000 in
theorem gX1_wholeDigest_X1_mixOfFirst : GoodIn wsX1_wholeDigest (wsV RX1 31 RX1 yX1_mixOfFirst wsX1_mixOfFirst) := goodIn_app (goodIn_of _ (by decide +kernel)) ggX1_wholeDigest_X1_mixOfFirst
theorem dX1_wholeDigest_0 : decode cX1_wholeDigest 0 = .ok (.aload_n 0, 1) := by decide +kernel
theorem dX1_wholeDigest_1 : decode cX1_wholeDigest 1 = .ok (.aload_n 0, 1) := by decide +kernel
theorem dX1_wholeDigest_2 : decode cX1_wholeDigest 2 = .ok (.getfield 15, 3) := by decide +kernel
theorem dX1_wholeDigest_5 : decode cX1_wholeDigest 5 = .ok (.iconst 0, 1) := by decide +kernel
theorem dX1_wholeDigest_6 : decode cX1_wholeDigest 6 = .ok (.invokevirtual 31, 3) := by decide +kernel
theorem dX1_wholeDigest_9 : decode cX1_wholeDigest 9 = .ok (.ireturn, 1) := by decide +kernel
set_option maxRecDepth 20000 in
theorem ggX1_agrees_X1_byteAt : GoodIn wsX1_agrees wsX1_byteAt := goodIn_r _ [5, 6, 7, 8, 9] (by decide +kernel) (by decide +kernel)
set_option maxRecDepth 20000 in
theorem gX1_agrees_X1_byteAt : GoodIn wsX1_agrees (wsV RX1 35 RX1 yX1_byteAt wsX1_byteAt) := goodIn_app (goodIn_of _ (by decide +kernel)) ggX1_agrees_X1_byteAt
theorem dX1_agrees_0 : decode cX1_agrees 0 = .ok (.iconst 0, 1) := by decide +kernel
theorem dX1_agrees_1 : decode cX1_agrees 1 = .ok (.istore 5, 2) := by decide +kernel
theorem dX1_agrees_3 : decode cX1_agrees 3 = .ok (.iload 5, 2) := by decide +kernel
theorem dX1_agrees_5 : decode cX1_agrees 5 = .ok (.iload 4, 2) := by decide +kernel
theorem dX1_agrees_7 : decode cX1_agrees 7 = .ok (.if_icmp .ge 40, 3) := by decide +kernel
theorem dX1_agrees_10 : decode cX1_agrees 10 = .ok (.aload_n 0, 1) := by decide +kernel
theorem dX1_agrees_11 : decode cX1_agrees 11 = .ok (.iload_n 1, 1) := by decide +kernel
theorem dX1_agrees_12 : decode cX1_agrees 12 = .ok (.iload 5, 2) := by decide +kernel
theorem dX1_agrees_14 : decode cX1_agrees 14 = .ok (.iadd, 1) := by decide +kernel
theorem dX1_agrees_15 : decode cX1_agrees 15 = .ok (.invokevirtual 35, 3) := by decide +kernel
theorem dX1_agrees_18 : decode cX1_agrees 18 = .ok (.istore 6, 2) := by decide +kernel
theorem dX1_agrees_20 : decode cX1_agrees 20 = .ok (.iload 6, 2) := by decide +kernel
theorem dX1_agrees_22 : decode cX1_agrees 22 = .ok (.iconst (-1), 1) := by decide +kernel
theorem dX1_agrees_23 : decode cX1_agrees 23 = .ok (.if_icmp .eq 16, 3) := by decide +kernel
theorem dX1_agrees_26 : decode cX1_agrees 26 = .ok (.iload 6, 2) := by decide +kernel
theorem dX1_agrees_28 : decode cX1_agrees 28 = .ok (.aload_n 2, 1) := by decide +kernel
theorem dX1_agrees_29 : decode cX1_agrees 29 = .ok (.iload_n 3, 1) := by decide +kernel
theorem dX1_agrees_30 : decode cX1_agrees 30 = .ok (.iload 5, 2) := by decide +kernel
theorem dX1_agrees_32 : decode cX1_agrees 32 = .ok (.iadd, 1) := by decide +kernel
theorem dX1_agrees_33 : decode cX1_agrees 33 = .ok (.invokevirtual 35, 3) := by decide +kernel
theorem dX1_agrees_36 : decode cX1_agrees 36 = .ok (.if_icmp .eq 5, 3) := by decide +kernel
theorem dX1_agrees_39 : decode cX1_agrees 39 = .ok (.iconst 0, 1) := by decide +kernel
theorem dX1_agrees_40 : decode cX1_agrees 40 = .ok (.ireturn, 1) := by decide +kernel
theorem dX1_agrees_41 : decode cX1_agrees 41 = .ok (.iinc 5 1, 3) := by decide +kernel
theorem dX1_agrees_44 : decode cX1_agrees 44 = .ok (.goto (-41), 3) := by decide +kernel
theorem dX1_agrees_47 : decode cX1_agrees 47 = .ok (.iconst 1, 1) := by decide +kernel
theorem dX1_agrees_48 : decode cX1_agrees 48 = .ok (.ireturn, 1) := by decide +kernel
set_option maxRecDepth 20000 in
theorem ggX2_init_X1_init : GoodIn wsX2_init wsX1_init := goodIn_r _ [11, 12, 2, 3, 13, 14, 22, 23] (by decide +kernel) (by decide +kernel)
set_option maxRecDepth 20000 in
theorem gX2_init_X1_init : GoodIn wsX2_init (wsX1_init) := ggX2_init_X1_init
theorem dX2_init_0 : decode cX2_init 0 = .ok (.aload_n 0, 1) := by decide +kernel
theorem dX2_init_1 : decode cX2_init 1 = .ok (.invokespecial 3, 3) := by decide +kernel
theorem dX2_init_4 : decode cX2_init 4 = .ok (.aload_n 0, 1) := by decide +kernel
theorem dX2_init_5 : decode cX2_init 5 = .ok (.aload_n 1, 1) := by decide +kernel
theorem dX2_init_6 : decode cX2_init 6 = .ok (.putfield 9, 3) := by decide +kernel
theorem dX2_init_9 : decode cX2_init 9 = .ok (.aload_n 0, 1) := by decide +kernel
theorem dX2_init_10 : decode cX2_init 10 = .ok (.new 15, 3) := by decide +kernel
theorem dX2_init_13 : decode cX2_init 13 = .ok (.dup, 1) := by decide +kernel
theorem dX2_init_14 : decode cX2_init 14 = .ok (.iconst 4, 1) := by decide +kernel
theorem dX2_init_15 : decode cX2_init 15 = .ok (.invokespecial 17, 3) := by decide +kernel
theorem dX2_init_18 : decode cX2_init 18 = .ok (.putfield 20, 3) := by decide +kernel
theorem dX2_init_21 : decode cX2_init 21 = .ok (.return_, 1) := by decide +kernel
theorem dX2_visitCount_0 : decode cX2_visitCount 0 = .ok (.aload_n 0, 1) := by decide +kernel
theorem dX2_visitCount_1 : decode cX2_visitCount 1 = .ok (.getfield 24, 3) := by decide +kernel
theorem dX2_visitCount_4 : decode cX2_visitCount 4 = .ok (.ireturn, 1) := by decide +kernel
theorem dX2_foundRole_0 : decode cX2_foundRole 0 = .ok (.aload_n 0, 1) := by decide +kernel
theorem dX2_foundRole_1 : decode cX2_foundRole 1 = .ok (.getfield 28, 3) := by decide +kernel
theorem dX2_foundRole_4 : decode cX2_foundRole 4 = .ok (.ireturn, 1) := by decide +kernel
set_option maxRecDepth 20000 in
theorem ggX2_foundTargetIs_X3_documentOf : GoodIn wsX2_foundTargetIs wsX3_documentOf := goodIn_r _ [8, 9, 10, 49, 50, 51] (by decide +kernel) (by decide +kernel)
set_option maxRecDepth 20000 in
theorem gX2_foundTargetIs_X3_documentOf : GoodIn wsX2_foundTargetIs (wsV RX2 31 RX3 yX3_documentOf wsX3_documentOf) := goodIn_app (goodIn_of _ (by decide +kernel)) ggX2_foundTargetIs_X3_documentOf
set_option maxRecDepth 20000 in
theorem ggX2_foundTargetIs_X0_row : GoodIn wsX2_foundTargetIs wsX0_row := goodIn_r _ [15, 16, 52, 53, 54, 55, 56, 57, 58, 59, 60, 61, 62, 63, 64, 65, 66] (by decide +kernel) (by decide +kernel)
set_option maxRecDepth 20000 in
theorem gX2_foundTargetIs_X0_row : GoodIn wsX2_foundTargetIs (wsV RX2 37 RX0 yX0_row wsX0_row) := goodIn_app (goodIn_of _ (by decide +kernel)) ggX2_foundTargetIs_X0_row
set_option maxRecDepth 20000 in
theorem ggX2_foundTargetIs_X1_byteAt : GoodIn wsX2_foundTargetIs wsX1_byteAt := goodIn_r _ [21, 22, 23, 67, 68] (by decide +kernel) (by decide +kernel)
set_option maxRecDepth 20000 in
theorem gX2_foundTargetIs_X1_byteAt : GoodIn wsX2_foundTargetIs (wsV RX2 46 RX1 yX1_byteAt wsX1_byteAt) := goodIn_app (goodIn_of _ (by decide +kernel)) ggX2_foundTargetIs_X1_byteAt
set_option maxRecDepth 20000 in
theorem ggX2_foundTargetIs_X1_size : GoodIn wsX2_foundTargetIs wsX1_size := goodIn_r _ [27, 22, 67, 68] (by decide +kernel) (by decide +kernel)
set_option maxRecDepth 20000 in
theorem gX2_foundTargetIs_X1_size : GoodIn wsX2_foundTargetIs (wsV RX2 50 RX1 yX1_size wsX1_size) := goodIn_app (goodIn_of _ (by decide +kernel)) ggX2_foundTargetIs_X1_size
set_option maxRecDepth 20000 in
theorem ggX2_foundTargetIs_X1_wordAt : GoodIn wsX2_foundTargetIs wsX1_wordAt := goodIn_r _ [31, 22, 23, 67, 68] (by decide +kernel) (by decide +kernel)
set_option maxRecDepth 20000 in
theorem gX2_foundTargetIs_X1_wordAt : GoodIn wsX2_foundTargetIs (wsV RX2 54 RX1 yX1_wordAt wsX1_wordAt) := goodIn_app (goodIn_of _ (by decide +kernel)) ggX2_foundTargetIs_X1_wordAt
set_option maxRecDepth 20000 in
theorem ggX2_foundTargetIs_X1_wholeDigest : GoodIn wsX2_foundTargetIs wsX1_wholeDigest := goodIn_r _ [35, 22, 36, 37, 38, 20, 39, 40, 23, 41, 67, 68] (by decide +kernel) (by decide +kernel)
set_option maxRecDepth 20000 in
theorem gX2_foundTargetIs_X1_wholeDigest : GoodIn wsX2_foundTargetIs (wsV RX2 57 RX1 yX1_wholeDigest wsX1_wholeDigest) := goodIn_app (goodIn_of _ (by decide +kernel)) ggX2_foundTargetIs_X1_wholeDigest
theorem dX2_foundTargetIs_0 : decode cX2_foundTargetIs 0 = .ok (.aload_n 0, 1) := by decide +kernel
theorem dX2_foundTargetIs_1 : decode cX2_foundTargetIs 1 = .ok (.getfield 9, 3) := by decide +kernel
theorem dX2_foundTargetIs_4 : decode cX2_foundTargetIs 4 = .ok (.aload_n 0, 1) := by decide +kernel
theorem dX2_foundTargetIs_5 : decode cX2_foundTargetIs 5 = .ok (.getfield 28, 3) := by decide +kernel
theorem dX2_foundTargetIs_8 : decode cX2_foundTargetIs 8 = .ok (.invokevirtual 31, 3) := by decide +kernel
theorem dX2_foundTargetIs_11 : decode cX2_foundTargetIs 11 = .ok (.invokevirtual 37, 3) := by decide +kernel
theorem dX2_foundTargetIs_14 : decode cX2_foundTargetIs 14 = .ok (.astore_n 2, 1) := by decide +kernel
theorem dX2_foundTargetIs_15 : decode cX2_foundTargetIs 15 = .ok (.aload_n 2, 1) := by decide +kernel
theorem dX2_foundTargetIs_16 : decode cX2_foundTargetIs 16 = .ok (.aload_n 0, 1) := by decide +kernel
theorem dX2_foundTargetIs_17 : decode cX2_foundTargetIs 17 = .ok (.getfield 43, 3) := by decide +kernel
theorem dX2_foundTargetIs_20 : decode cX2_foundTargetIs 20 = .ok (.invokevirtual 46, 3) := by decide +kernel
theorem dX2_foundTargetIs_23 : decode cX2_foundTargetIs 23 = .ok (.aload_n 1, 1) := by decide +kernel
theorem dX2_foundTargetIs_24 : decode cX2_foundTargetIs 24 = .ok (.invokevirtual 50, 3) := by decide +kernel
theorem dX2_foundTargetIs_27 : decode cX2_foundTargetIs 27 = .ok (.if_icmp .ne 24, 3) := by decide +kernel
theorem dX2_foundTargetIs_30 : decode cX2_foundTargetIs 30 = .ok (.aload_n 2, 1) := by decide +kernel
theorem dX2_foundTargetIs_31 : decode cX2_foundTargetIs 31 = .ok (.aload_n 0, 1) := by decide +kernel
theorem dX2_foundTargetIs_32 : decode cX2_foundTargetIs 32 = .ok (.getfield 43, 3) := by decide +kernel
theorem dX2_foundTargetIs_35 : decode cX2_foundTargetIs 35 = .ok (.iconst 1, 1) := by decide +kernel
theorem dX2_foundTargetIs_36 : decode cX2_foundTargetIs 36 = .ok (.iadd, 1) := by decide +kernel
theorem dX2_foundTargetIs_37 : decode cX2_foundTargetIs 37 = .ok (.invokevirtual 54, 3) := by decide +kernel
theorem dX2_foundTargetIs_40 : decode cX2_foundTargetIs 40 = .ok (.aload_n 1, 1) := by decide +kernel
theorem dX2_foundTargetIs_41 : decode cX2_foundTargetIs 41 = .ok (.invokevirtual 57, 3) := by decide +kernel
theorem dX2_foundTargetIs_44 : decode cX2_foundTargetIs 44 = .ok (.if_icmp .ne 7, 3) := by decide +kernel
theorem dX2_foundTargetIs_47 : decode cX2_foundTargetIs 47 = .ok (.iconst 1, 1) := by decide +kernel
theorem dX2_foundTargetIs_48 : decode cX2_foundTargetIs 48 = .ok (.goto 4, 3) := by decide +kernel
theorem dX2_foundTargetIs_51 : decode cX2_foundTargetIs 51 = .ok (.iconst 0, 1) := by decide +kernel
theorem dX2_foundTargetIs_52 : decode cX2_foundTargetIs 52 = .ok (.ireturn, 1) := by decide +kernel
set_option maxRecDepth 20000 in
theorem ggX2_run_X1_keepFirst : GoodIn wsX2_run wsX1_keepFirst := goodIn_r _ [10, 11, 159, 160] (by decide +kernel) (by decide +kernel)
set_option maxRecDepth 20000 in
theorem gX2_run_X1_keepFirst : GoodIn wsX2_run (wsV RX2 60 RX1 yX1_keepFirst wsX1_keepFirst) := goodIn_app (goodIn_of _ (by decide +kernel)) ggX2_run_X1_keepFirst
set_option maxRecDepth 20000 in
theorem ggX2_run_X1_appendLowest : GoodIn wsX2_run wsX1_appendLowest := goodIn_r _ [15, 16, 17, 18, 9, 19, 11, 20, 159, 160] (by decide +kernel) (by decide +kernel)
set_option maxRecDepth 20000 in
theorem gX2_run_X1_appendLowest : GoodIn wsX2_run (wsV RX2 63 RX1 yX1_appendLowest wsX1_appendLowest) := goodIn_app (goodIn_of _ (by decide +kernel)) ggX2_run_X1_appendLowest
set_option maxRecDepth 20000 in
theorem ggX2_run_X2_visit : GoodIn wsX2_run wsX2_visit := goodIn_r _ [25, 2, 3, 26, 1, 27, 4, 5, 28, 29, 30, 31, 32, 33, 34, 35, 36, 37, 38, 39, 40, 41, 42, 43, 44, 45, 9, 46, 11, 20, 47, 48, 49, 50, 51, 52, 53, 54, 55, 56, 57, 58, 59, 60, 61, 62, 63, 24, 64, 65, 66, 67, 68, 69, 70, 71, 72, 73, 74, 75, 76, 77, 78, 79, 80, 81, 82, 83, 84, 85, 86, 87, 88, 89, 90, 91, 92, 93, 94, 95, 96, 97, 98, 99, 100, 101, 102, 103, 104, 105, 106, 107, 108, 109, 110, 111, 112, 113, 114, 115, 116, 117, 118, 119, 120, 121, 122, 123, 124, 125, 126, 127, 128, 129, 130, 131, 132, 133, 134, 135, 136, 137, 138, 139, 140, 141, 142, 143, 144, 145, 146, 147, 21, 22, 23, 148, 149, 150, 151, 152, 153, 154, 155, 156, 157, 158, 161, 162, 163, 164, 165, 166, 167, 168, 169, 170, 171, 172, 173, 174, 175, 176, 177, 178, 159, 160] (by decide +kernel) (by decide +kernel)
set_option maxRecDepth 20000 in
theorem gX2_run_X2_visit : GoodIn wsX2_run (wsV RX2 74 RX2 yX2_visit wsX2_visit) := goodIn_app (goodIn_of _ (by decide +kernel)) ggX2_run_X2_visit
theorem dX2_run_0 : decode cX2_run 0 = .ok (.aload_n 0, 1) := by decide +kernel
theorem dX2_run_1 : decode cX2_run 1 = .ok (.getfield 20, 3) := by decide +kernel
theorem dX2_run_4 : decode cX2_run 4 = .ok (.iconst 0, 1) := by decide +kernel
theorem dX2_run_5 : decode cX2_run 5 = .ok (.invokevirtual 60, 3) := by decide +kernel
theorem dX2_run_8 : decode cX2_run 8 = .ok (.aload_n 0, 1) := by decide +kernel
theorem dX2_run_9 : decode cX2_run 9 = .ok (.getfield 20, 3) := by decide +kernel
theorem dX2_run_12 : decode cX2_run 12 = .ok (.lload_n 1, 1) := by decide +kernel
theorem dX2_run_13 : decode cX2_run 13 = .ok (.iload_n 3, 1) := by decide +kernel
theorem dX2_run_14 : decode cX2_run 14 = .ok (.invokevirtual 63, 3) := by decide +kernel
theorem dX2_run_17 : decode cX2_run 17 = .ok (.aload_n 0, 1) := by decide +kernel
theorem dX2_run_18 : decode cX2_run 18 = .ok (.iconst 0, 1) := by decide +kernel
theorem dX2_run_19 : decode cX2_run 19 = .ok (.putfield 67, 3) := by decide +kernel
theorem dX2_run_22 : decode cX2_run 22 = .ok (.aload_n 0, 1) := by decide +kernel
theorem dX2_run_23 : decode cX2_run 23 = .ok (.iconst 0, 1) := by decide +kernel
theorem dX2_run_24 : decode cX2_run 24 = .ok (.putfield 24, 3) := by decide +kernel
theorem dX2_run_27 : decode cX2_run 27 = .ok (.aload_n 0, 1) := by decide +kernel
theorem dX2_run_28 : decode cX2_run 28 = .ok (.iconst (-1), 1) := by decide +kernel
theorem dX2_run_29 : decode cX2_run 29 = .ok (.putfield 28, 3) := by decide +kernel
theorem dX2_run_32 : decode cX2_run 32 = .ok (.aload_n 0, 1) := by decide +kernel
theorem dX2_run_33 : decode cX2_run 33 = .ok (.iconst 0, 1) := by decide +kernel
theorem dX2_run_34 : decode cX2_run 34 = .ok (.putfield 70, 3) := by decide +kernel
theorem dX2_run_37 : decode cX2_run 37 = .ok (.aload_n 0, 1) := by decide +kernel
theorem dX2_run_38 : decode cX2_run 38 = .ok (.iconst 3, 1) := by decide +kernel
theorem dX2_run_39 : decode cX2_run 39 = .ok (.iconst 0, 1) := by decide +kernel
theorem dX2_run_40 : decode cX2_run 40 = .ok (.invokevirtual 74, 3) := by decide +kernel
theorem dX2_run_43 : decode cX2_run 43 = .ok (.return_, 1) := by decide +kernel
set_option maxRecDepth 20000 in
theorem ggX2_visit_X3_documentOf : GoodIn wsX2_visit wsX3_documentOf := goodIn_r _ [12, 13, 14, 146, 147, 148] (by decide +kernel) (by decide +kernel)
set_option maxRecDepth 20000 in
theorem gX2_visit_X3_documentOf : GoodIn wsX2_visit (wsV RX2 31 RX3 yX3_documentOf wsX3_documentOf) := goodIn_app (goodIn_of _ (by decide +kernel)) ggX2_visit_X3_documentOf
set_option maxRecDepth 20000 in
theorem ggX2_visit_X0_targetNamed : GoodIn wsX2_visit wsX0_targetNamed := goodIn_r _ [19, 20, 21, 22, 23, 24, 25, 26, 27, 28, 29, 30, 31, 32, 33, 34, 35, 36, 37, 38, 149, 150, 151, 152, 153, 154, 155, 156, 157, 158, 159, 160, 161, 162, 163, 164, 165] (by decide +kernel) (by decide +kernel)
set_option maxRecDepth 20000 in
theorem gX2_visit_X0_targetNamed : GoodIn wsX2_visit (wsV RX2 78 RX0 yX0_targetNamed wsX0_targetNamed) := goodIn_app (goodIn_of _ (by decide +kernel)) ggX2_visit_X0_targetNamed
set_option maxRecDepth 20000 in
theorem ggX2_visit_X0_delegationCount : GoodIn wsX2_visit wsX0_delegationCount := goodIn_r _ [42, 43, 149, 150, 151, 152, 153, 154, 155, 156, 157, 158, 159, 160, 161, 162, 163] (by decide +kernel) (by decide +kernel)
set_option maxRecDepth 20000 in
theorem gX2_visit_X0_delegationCount : GoodIn wsX2_visit (wsV RX2 82 RX0 yX0_delegationCount wsX0_delegationCount) := goodIn_app (goodIn_of _ (by decide +kernel)) ggX2_visit_X0_delegationCount
set_option maxRecDepth 20000 in
theorem ggX2_visit_X2_mayFollow : GoodIn wsX2_visit wsX2_mayFollow := goodIn_r _ [48, 4, 1, 3, 49, 50, 51, 18, 52, 22, 53, 54, 55, 56, 43, 57, 23, 24, 25, 26, 27, 28, 29, 58, 59, 60, 61, 62, 63, 64, 65, 34, 35, 36, 37, 38, 66, 67, 68, 11, 69, 70, 71, 72, 73, 74, 9, 10, 12, 13, 14, 75, 76, 77, 78, 79, 80, 81, 82, 83, 84, 85, 86, 87, 88, 89, 90, 91, 92, 93, 94, 95, 96, 97, 98, 99, 8, 100, 101, 102, 103, 104, 105, 106, 107, 108, 109, 110, 111, 112, 113, 114, 115, 116, 117, 118, 119, 120, 121, 122, 123, 124, 125, 126, 127, 128, 129, 130, 131, 139, 140, 141, 142, 143, 144, 145, 149, 150, 151, 152, 153, 154, 155, 156, 157, 158, 159, 160, 161, 162, 163, 164, 165, 146, 147, 148] (by decide +kernel) (by decide +kernel)
set_option maxRecDepth 20000 in
theorem gX2_visit_X2_mayFollow : GoodIn wsX2_visit (wsV RX2 85 RX2 yX2_mayFollow wsX2_mayFollow) := goodIn_app (goodIn_of _ (by decide +kernel)) ggX2_visit_X2_mayFollow
set_option maxRecDepth 20000 in
theorem ggX2_visit_X0_delegateOf : GoodIn wsX2_visit wsX0_delegateOf := goodIn_r _ [52, 22, 53, 54, 55, 18, 56, 43, 57, 23, 24, 25, 26, 27, 28, 29, 149, 150, 151, 152, 153, 154, 155, 156, 157, 158, 159, 160, 161, 162, 163, 164, 165] (by decide +kernel) (by decide +kernel)
set_option maxRecDepth 20000 in
theorem gX2_visit_X0_delegateOf : GoodIn wsX2_visit (wsV RX2 89 RX0 yX0_delegateOf wsX0_delegateOf) := goodIn_app (goodIn_of _ (by decide +kernel)) ggX2_visit_X0_delegateOf
set_option maxRecDepth 20000 in
theorem ggX2_visit_X2_visit : GoodIn wsX2_visit wsX2_visit := goodIn_r _ [0, 1, 2, 3, 4, 5, 6, 7, 8, 9, 10, 11, 12, 13, 14, 15, 16, 17, 18, 19, 20, 21, 22, 23, 24, 25, 26, 27, 28, 29, 30, 31, 32, 33, 34, 35, 36, 37, 38, 39, 40, 41, 42, 43, 44, 45, 46, 47, 48, 49, 50, 51, 52, 53, 54, 55, 56, 57, 58, 59, 60, 61, 62, 63, 64, 65, 66, 67, 68, 69, 70, 71, 72, 73, 74, 75, 76, 77, 78, 79, 80, 81, 82, 83, 84, 85, 86, 87, 88, 89, 90, 91, 92, 93, 94, 95, 96, 97, 98, 99, 100, 101, 102, 103, 104, 105, 106, 107, 108, 109, 110, 111, 112, 113, 114, 115, 116, 117, 118, 119, 120, 121, 122, 123, 124, 125, 126, 127, 128, 129, 130, 131, 132, 133, 134, 135, 136, 137, 138, 139, 140, 141, 142, 143, 144, 145, 146, 147, 148, 149, 150, 151, 152, 153, 154, 155, 156, 157, 158, 159, 160, 161, 162, 163, 164, 165] (by decide +kernel) (by decide +kernel)
set_option maxRecDepth 20000 in
theorem gX2_visit_X2_visit : GoodIn wsX2_visit (wsV RX2 74 RX2 yX2_visit wsX2_visit) := goodIn_app (goodIn_of _ (by decide +kernel)) ggX2_visit_X2_visit
set_option maxRecDepth 20000 in
theorem ggX2_visit_X0_isFinal : GoodIn wsX2_visit wsX0_isFinal := goodIn_r _ [138, 22, 53, 54, 55, 18, 56, 43, 57, 23, 24, 25, 26, 27, 28, 29, 149, 150, 151, 152, 153, 154, 155, 156, 157, 158, 159, 160, 161, 162, 163, 164, 165] (by decide +kernel) (by decide +kernel)
set_option maxRecDepth 20000 in
theorem gX2_visit_X0_isFinal : GoodIn wsX2_visit (wsV RX2 92 RX0 yX0_isFinal wsX0_isFinal) := goodIn_app (goodIn_of _ (by decide +kernel)) ggX2_visit_X0_isFinal
theorem dX2_visit_0 : decode cX2_visit 0 = .ok (.iload_n 2, 1) := by decide +kernel
theorem dX2_visit_1 : decode cX2_visit 1 = .ok (.iconst 3, 1) := by decide +kernel
theorem dX2_visit_2 : decode cX2_visit 2 = .ok (.if_icmp .le 4, 3) := by decide +kernel
theorem dX2_visit_5 : decode cX2_visit 5 = .ok (.return_, 1) := by decide +kernel
theorem dX2_visit_6 : decode cX2_visit 6 = .ok (.aload_n 0, 1) := by decide +kernel
theorem dX2_visit_7 : decode cX2_visit 7 = .ok (.dup, 1) := by decide +kernel
theorem dX2_visit_8 : decode cX2_visit 8 = .ok (.getfield 67, 3) := by decide +kernel
theorem dX2_visit_11 : decode cX2_visit 11 = .ok (.iconst 1, 1) := by decide +kernel
theorem dX2_visit_12 : decode cX2_visit 12 = .ok (.iload_n 1, 1) := by decide +kernel
theorem dX2_visit_13 : decode cX2_visit 13 = .ok (.ishl, 1) := by decide +kernel
theorem dX2_visit_14 : decode cX2_visit 14 = .ok (.ior, 1) := by decide +kernel
theorem dX2_visit_15 : decode cX2_visit 15 = .ok (.putfield 67, 3) := by decide +kernel
theorem dX2_visit_18 : decode cX2_visit 18 = .ok (.aload_n 0, 1) := by decide +kernel
theorem dX2_visit_19 : decode cX2_visit 19 = .ok (.dup, 1) := by decide +kernel
theorem dX2_visit_20 : decode cX2_visit 20 = .ok (.getfield 24, 3) := by decide +kernel
theorem dX2_visit_23 : decode cX2_visit 23 = .ok (.iconst 1, 1) := by decide +kernel
theorem dX2_visit_24 : decode cX2_visit 24 = .ok (.iadd, 1) := by decide +kernel
theorem dX2_visit_25 : decode cX2_visit 25 = .ok (.putfield 24, 3) := by decide +kernel
theorem dX2_visit_28 : decode cX2_visit 28 = .ok (.aload_n 0, 1) := by decide +kernel
theorem dX2_visit_29 : decode cX2_visit 29 = .ok (.getfield 9, 3) := by decide +kernel
theorem dX2_visit_32 : decode cX2_visit 32 = .ok (.iload_n 1, 1) := by decide +kernel
theorem dX2_visit_33 : decode cX2_visit 33 = .ok (.invokevirtual 31, 3) := by decide +kernel
theorem dX2_visit_36 : decode cX2_visit 36 = .ok (.astore_n 3, 1) := by decide +kernel
theorem dX2_visit_37 : decode cX2_visit 37 = .ok (.aload_n 0, 1) := by decide +kernel
theorem dX2_visit_38 : decode cX2_visit 38 = .ok (.aload_n 3, 1) := by decide +kernel
theorem dX2_visit_39 : decode cX2_visit 39 = .ok (.aload_n 0, 1) := by decide +kernel
theorem dX2_visit_40 : decode cX2_visit 40 = .ok (.getfield 20, 3) := by decide +kernel
theorem dX2_visit_43 : decode cX2_visit 43 = .ok (.invokevirtual 78, 3) := by decide +kernel
theorem dX2_visit_46 : decode cX2_visit 46 = .ok (.putfield 43, 3) := by decide +kernel
theorem dX2_visit_49 : decode cX2_visit 49 = .ok (.aload_n 0, 1) := by decide +kernel
theorem dX2_visit_50 : decode cX2_visit 50 = .ok (.getfield 43, 3) := by decide +kernel
theorem dX2_visit_53 : decode cX2_visit 53 = .ok (.iconst (-1), 1) := by decide +kernel
theorem dX2_visit_54 : decode cX2_visit 54 = .ok (.if_icmp .eq 14, 3) := by decide +kernel
theorem dX2_visit_57 : decode cX2_visit 57 = .ok (.aload_n 0, 1) := by decide +kernel
theorem dX2_visit_58 : decode cX2_visit 58 = .ok (.iload_n 1, 1) := by decide +kernel
theorem dX2_visit_59 : decode cX2_visit 59 = .ok (.putfield 28, 3) := by decide +kernel
theorem dX2_visit_62 : decode cX2_visit 62 = .ok (.aload_n 0, 1) := by decide +kernel
theorem dX2_visit_63 : decode cX2_visit 63 = .ok (.iconst 1, 1) := by decide +kernel
theorem dX2_visit_64 : decode cX2_visit 64 = .ok (.putfield 70, 3) := by decide +kernel
theorem dX2_visit_67 : decode cX2_visit 67 = .ok (.return_, 1) := by decide +kernel
theorem dX2_visit_68 : decode cX2_visit 68 = .ok (.iconst 0, 1) := by decide +kernel
theorem dX2_visit_69 : decode cX2_visit 69 = .ok (.istore 4, 2) := by decide +kernel
theorem dX2_visit_71 : decode cX2_visit 71 = .ok (.iload 4, 2) := by decide +kernel
theorem dX2_visit_73 : decode cX2_visit 73 = .ok (.aload_n 3, 1) := by decide +kernel
theorem dX2_visit_74 : decode cX2_visit 74 = .ok (.invokevirtual 82, 3) := by decide +kernel
theorem dX2_visit_77 : decode cX2_visit 77 = .ok (.if_icmp .ge 64, 3) := by decide +kernel
theorem dX2_visit_80 : decode cX2_visit 80 = .ok (.aload_n 0, 1) := by decide +kernel
theorem dX2_visit_81 : decode cX2_visit 81 = .ok (.getfield 70, 3) := by decide +kernel
theorem dX2_visit_84 : decode cX2_visit 84 = .ok (.ifCond .ne 57, 3) := by decide +kernel
theorem dX2_visit_87 : decode cX2_visit 87 = .ok (.aload_n 0, 1) := by decide +kernel
theorem dX2_visit_88 : decode cX2_visit 88 = .ok (.aload_n 3, 1) := by decide +kernel
theorem dX2_visit_89 : decode cX2_visit 89 = .ok (.iload 4, 2) := by decide +kernel
theorem dX2_visit_91 : decode cX2_visit 91 = .ok (.invokevirtual 85, 3) := by decide +kernel
theorem dX2_visit_94 : decode cX2_visit 94 = .ok (.ifCond .eq 41, 3) := by decide +kernel
theorem dX2_visit_97 : decode cX2_visit 97 = .ok (.aload_n 0, 1) := by decide +kernel
theorem dX2_visit_98 : decode cX2_visit 98 = .ok (.aload_n 3, 1) := by decide +kernel
theorem dX2_visit_99 : decode cX2_visit 99 = .ok (.iload 4, 2) := by decide +kernel
theorem dX2_visit_101 : decode cX2_visit 101 = .ok (.invokevirtual 89, 3) := by decide +kernel
theorem dX2_visit_104 : decode cX2_visit 104 = .ok (.iload_n 2, 1) := by decide +kernel
theorem dX2_visit_105 : decode cX2_visit 105 = .ok (.iconst 1, 1) := by decide +kernel
theorem dX2_visit_106 : decode cX2_visit 106 = .ok (.iadd, 1) := by decide +kernel
theorem dX2_visit_107 : decode cX2_visit 107 = .ok (.invokevirtual 74, 3) := by decide +kernel
theorem dX2_visit_110 : decode cX2_visit 110 = .ok (.aload_n 0, 1) := by decide +kernel
theorem dX2_visit_111 : decode cX2_visit 111 = .ok (.aload_n 0, 1) := by decide +kernel
theorem dX2_visit_112 : decode cX2_visit 112 = .ok (.getfield 70, 3) := by decide +kernel
theorem dX2_visit_115 : decode cX2_visit 115 = .ok (.ifCond .ne 12, 3) := by decide +kernel
theorem dX2_visit_118 : decode cX2_visit 118 = .ok (.aload_n 3, 1) := by decide +kernel
theorem dX2_visit_119 : decode cX2_visit 119 = .ok (.iload 4, 2) := by decide +kernel
theorem dX2_visit_121 : decode cX2_visit 121 = .ok (.invokevirtual 92, 3) := by decide +kernel
theorem dX2_visit_124 : decode cX2_visit 124 = .ok (.ifCond .eq 7, 3) := by decide +kernel
theorem dX2_visit_127 : decode cX2_visit 127 = .ok (.iconst 1, 1) := by decide +kernel
theorem dX2_visit_128 : decode cX2_visit 128 = .ok (.goto 4, 3) := by decide +kernel
theorem dX2_visit_131 : decode cX2_visit 131 = .ok (.iconst 0, 1) := by decide +kernel
theorem dX2_visit_132 : decode cX2_visit 132 = .ok (.putfield 70, 3) := by decide +kernel
theorem dX2_visit_135 : decode cX2_visit 135 = .ok (.iinc 4 1, 3) := by decide +kernel
theorem dX2_visit_138 : decode cX2_visit 138 = .ok (.goto (-67), 3) := by decide +kernel
theorem dX2_visit_141 : decode cX2_visit 141 = .ok (.return_, 1) := by decide +kernel
set_option maxRecDepth 20000 in
theorem ggX2_mayFollow_X0_delegateOf : GoodIn wsX2_mayFollow wsX0_delegateOf := goodIn_r _ [8, 9, 10, 11, 12, 7, 13, 14, 15, 16, 17, 18, 19, 20, 21, 22, 116, 117, 118, 119, 120, 121, 122, 123, 124, 125, 126, 127, 128, 129, 130, 131, 132] (by decide +kernel) (by decide +kernel)
set_option maxRecDepth 20000 in
theorem gX2_mayFollow_X0_delegateOf : GoodIn wsX2_mayFollow (wsV RX2 89 RX0 yX0_delegateOf wsX0_delegateOf) := goodIn_app (goodIn_of _ (by decide +kernel)) ggX2_mayFollow_X0_delegateOf
set_option maxRecDepth 20000 in
theorem ggX2_mayFollow_X0_delegates : GoodIn wsX2_mayFollow wsX0_delegates := goodIn_r _ [26, 9, 27, 28, 29, 7, 30, 10, 11, 12, 13, 14, 15, 16, 17, 18, 19, 20, 21, 22, 31, 32, 33, 34, 35, 116, 117, 118, 119, 120, 121, 122, 123, 124, 125, 126, 127, 128, 129, 130, 131, 132] (by decide +kernel) (by decide +kernel)
set_option maxRecDepth 20000 in
theorem gX2_mayFollow_X0_delegates : GoodIn wsX2_mayFollow (wsV RX2 96 RX0 yX0_delegates wsX0_delegates) := goodIn_app (goodIn_of _ (by decide +kernel)) ggX2_mayFollow_X0_delegates
set_option maxRecDepth 20000 in
theorem ggX2_mayFollow_X3_isFresh : GoodIn wsX2_mayFollow wsX3_isFresh := goodIn_r _ [40, 41, 42, 43, 39, 44, 45, 46, 47, 48, 49, 50, 51, 52, 53, 7, 54, 55, 56, 57, 58, 59, 60, 61, 62, 63, 64, 65, 66, 67, 68, 69, 70, 71, 72, 73, 74, 75, 133, 134, 135, 116, 117, 118, 119, 120, 121, 122, 123, 124, 125, 126, 127, 128, 129, 130] (by decide +kernel) (by decide +kernel)
set_option maxRecDepth 20000 in
theorem gX2_mayFollow_X3_isFresh : GoodIn wsX2_mayFollow (wsV RX2 100 RX3 yX3_isFresh wsX3_isFresh) := goodIn_app (goodIn_of _ (by decide +kernel)) ggX2_mayFollow_X3_isFresh
set_option maxRecDepth 20000 in
theorem ggX2_mayFollow_X3_documentOf : GoodIn wsX2_mayFollow wsX3_documentOf := goodIn_r _ [48, 49, 50, 133, 134, 135] (by decide +kernel) (by decide +kernel)
set_option maxRecDepth 20000 in
theorem gX2_mayFollow_X3_documentOf : GoodIn wsX2_mayFollow (wsV RX2 31 RX3 yX3_documentOf wsX3_documentOf) := goodIn_app (goodIn_of _ (by decide +kernel)) ggX2_mayFollow_X3_documentOf
set_option maxRecDepth 20000 in
theorem ggX2_mayFollow_X0_row : GoodIn wsX2_mayFollow wsX0_row := goodIn_r _ [80, 9, 116, 117, 118, 119, 120, 121, 122, 123, 124, 125, 126, 127, 128, 129, 130] (by decide +kernel) (by decide +kernel)
set_option maxRecDepth 20000 in
theorem gX2_mayFollow_X0_row : GoodIn wsX2_mayFollow (wsV RX2 37 RX0 yX0_row wsX0_row) := goodIn_app (goodIn_of _ (by decide +kernel)) ggX2_mayFollow_X0_row
set_option maxRecDepth 20000 in
theorem ggX2_mayFollow_X0_delegatedKeySet : GoodIn wsX2_mayFollow wsX0_delegatedKeySet := goodIn_r _ [30, 10, 11, 12, 7, 13, 14, 15, 116, 117, 118, 119, 120, 121, 122, 123, 124, 125, 126, 127, 128, 129, 130] (by decide +kernel) (by decide +kernel)
set_option maxRecDepth 20000 in
theorem gX2_mayFollow_X0_delegatedKeySet : GoodIn wsX2_mayFollow (wsV RX2 103 RX0 yX0_delegatedKeySet wsX0_delegatedKeySet) := goodIn_app (goodIn_of _ (by decide +kernel)) ggX2_mayFollow_X0_delegatedKeySet
set_option maxRecDepth 20000 in
theorem ggX2_mayFollow_X0_isSignedAsAsked : GoodIn wsX2_mayFollow wsX0_isSignedAsAsked := goodIn_r _ [85, 16, 17, 18, 19, 20, 21, 22, 86, 87, 88, 7, 89, 90, 9, 91, 92, 93, 94, 95, 96, 97, 98, 99, 100, 101, 102, 103, 104, 105, 106, 107, 108, 131, 132, 116, 117, 118, 119, 120, 121, 122, 123, 124, 125, 126, 127, 128, 129, 130] (by decide +kernel) (by decide +kernel)
set_option maxRecDepth 20000 in
theorem gX2_mayFollow_X0_isSignedAsAsked : GoodIn wsX2_mayFollow (wsV RX2 106 RX0 yX0_isSignedAsAsked wsX0_isSignedAsAsked) := goodIn_app (goodIn_of _ (by decide +kernel)) ggX2_mayFollow_X0_isSignedAsAsked
theorem dX2_mayFollow_0 : decode cX2_mayFollow 0 = .ok (.aload_n 1, 1) := by decide +kernel
theorem dX2_mayFollow_1 : decode cX2_mayFollow 1 = .ok (.iload_n 2, 1) := by decide +kernel
theorem dX2_mayFollow_2 : decode cX2_mayFollow 2 = .ok (.invokevirtual 89, 3) := by decide +kernel
theorem dX2_mayFollow_5 : decode cX2_mayFollow 5 = .ok (.istore_n 3, 1) := by decide +kernel
theorem dX2_mayFollow_6 : decode cX2_mayFollow 6 = .ok (.aload_n 1, 1) := by decide +kernel
theorem dX2_mayFollow_7 : decode cX2_mayFollow 7 = .ok (.iload_n 2, 1) := by decide +kernel
theorem dX2_mayFollow_8 : decode cX2_mayFollow 8 = .ok (.aload_n 0, 1) := by decide +kernel
theorem dX2_mayFollow_9 : decode cX2_mayFollow 9 = .ok (.getfield 20, 3) := by decide +kernel
theorem dX2_mayFollow_12 : decode cX2_mayFollow 12 = .ok (.invokevirtual 96, 3) := by decide +kernel
theorem dX2_mayFollow_15 : decode cX2_mayFollow 15 = .ok (.ifCond .eq 52, 3) := by decide +kernel
theorem dX2_mayFollow_18 : decode cX2_mayFollow 18 = .ok (.aload_n 0, 1) := by decide +kernel
theorem dX2_mayFollow_19 : decode cX2_mayFollow 19 = .ok (.getfield 67, 3) := by decide +kernel
theorem dX2_mayFollow_22 : decode cX2_mayFollow 22 = .ok (.iload_n 3, 1) := by decide +kernel
theorem dX2_mayFollow_23 : decode cX2_mayFollow 23 = .ok (.ishr, 1) := by decide +kernel
theorem dX2_mayFollow_24 : decode cX2_mayFollow 24 = .ok (.iconst 1, 1) := by decide +kernel
theorem dX2_mayFollow_25 : decode cX2_mayFollow 25 = .ok (.iand, 1) := by decide +kernel
theorem dX2_mayFollow_26 : decode cX2_mayFollow 26 = .ok (.ifCond .ne 41, 3) := by decide +kernel
theorem dX2_mayFollow_29 : decode cX2_mayFollow 29 = .ok (.aload_n 0, 1) := by decide +kernel
theorem dX2_mayFollow_30 : decode cX2_mayFollow 30 = .ok (.getfield 9, 3) := by decide +kernel
theorem dX2_mayFollow_33 : decode cX2_mayFollow 33 = .ok (.iload_n 3, 1) := by decide +kernel
theorem dX2_mayFollow_34 : decode cX2_mayFollow 34 = .ok (.invokevirtual 100, 3) := by decide +kernel
theorem dX2_mayFollow_37 : decode cX2_mayFollow 37 = .ok (.ifCond .eq 30, 3) := by decide +kernel
theorem dX2_mayFollow_40 : decode cX2_mayFollow 40 = .ok (.aload_n 0, 1) := by decide +kernel
theorem dX2_mayFollow_41 : decode cX2_mayFollow 41 = .ok (.getfield 9, 3) := by decide +kernel
theorem dX2_mayFollow_44 : decode cX2_mayFollow 44 = .ok (.iload_n 3, 1) := by decide +kernel
theorem dX2_mayFollow_45 : decode cX2_mayFollow 45 = .ok (.invokevirtual 31, 3) := by decide +kernel
theorem dX2_mayFollow_48 : decode cX2_mayFollow 48 = .ok (.aload_n 1, 1) := by decide +kernel
theorem dX2_mayFollow_49 : decode cX2_mayFollow 49 = .ok (.invokevirtual 37, 3) := by decide +kernel
theorem dX2_mayFollow_52 : decode cX2_mayFollow 52 = .ok (.aload_n 1, 1) := by decide +kernel
theorem dX2_mayFollow_53 : decode cX2_mayFollow 53 = .ok (.iload_n 2, 1) := by decide +kernel
theorem dX2_mayFollow_54 : decode cX2_mayFollow 54 = .ok (.invokevirtual 103, 3) := by decide +kernel
theorem dX2_mayFollow_57 : decode cX2_mayFollow 57 = .ok (.invokevirtual 106, 3) := by decide +kernel
theorem dX2_mayFollow_60 : decode cX2_mayFollow 60 = .ok (.ifCond .eq 7, 3) := by decide +kernel
theorem dX2_mayFollow_63 : decode cX2_mayFollow 63 = .ok (.iconst 1, 1) := by decide +kernel
theorem dX2_mayFollow_64 : decode cX2_mayFollow 64 = .ok (.goto 4, 3) := by decide +kernel
theorem dX2_mayFollow_67 : decode cX2_mayFollow 67 = .ok (.iconst 0, 1) := by decide +kernel
theorem dX2_mayFollow_68 : decode cX2_mayFollow 68 = .ok (.ireturn, 1) := by decide +kernel
set_option maxRecDepth 20000 in
theorem ggX3_init_X0_init : GoodIn wsX3_init wsX0_init := goodIn_r _ [11, 12, 2, 3, 13, 14, 15, 16, 17, 18, 19, 20, 21, 22, 23, 24, 25, 26, 45, 46, 27, 28, 29, 30, 31, 32, 33, 34, 35, 36, 37, 38, 39, 40, 41] (by decide +kernel) (by decide +kernel)
set_option maxRecDepth 20000 in
theorem gX3_init_X0_init : GoodIn wsX3_init (wsX0_init) := ggX3_init_X0_init
theorem dX3_init_0 : decode cX3_init 0 = .ok (.aload_n 0, 1) := by decide +kernel
theorem dX3_init_1 : decode cX3_init 1 = .ok (.invokespecial 3, 3) := by decide +kernel
theorem dX3_init_4 : decode cX3_init 4 = .ok (.aload_n 0, 1) := by decide +kernel
theorem dX3_init_5 : decode cX3_init 5 = .ok (.new 9, 3) := by decide +kernel
theorem dX3_init_8 : decode cX3_init 8 = .ok (.dup, 1) := by decide +kernel
theorem dX3_init_9 : decode cX3_init 9 = .ok (.invokespecial 11, 3) := by decide +kernel
theorem dX3_init_12 : decode cX3_init 12 = .ok (.putfield 12, 3) := by decide +kernel
theorem dX3_init_15 : decode cX3_init 15 = .ok (.aload_n 0, 1) := by decide +kernel
theorem dX3_init_16 : decode cX3_init 16 = .ok (.bipush 7, 2) := by decide +kernel
theorem dX3_init_18 : decode cX3_init 18 = .ok (.anewarray 9, 3) := by decide +kernel
theorem dX3_init_21 : decode cX3_init 21 = .ok (.putfield 18, 3) := by decide +kernel
theorem dX3_init_24 : decode cX3_init 24 = .ok (.iconst 0, 1) := by decide +kernel
theorem dX3_init_25 : decode cX3_init 25 = .ok (.istore_n 1, 1) := by decide +kernel
theorem dX3_init_26 : decode cX3_init 26 = .ok (.iload_n 1, 1) := by decide +kernel
theorem dX3_init_27 : decode cX3_init 27 = .ok (.bipush 6, 2) := by decide +kernel
theorem dX3_init_29 : decode cX3_init 29 = .ok (.if_icmp .gt 22, 3) := by decide +kernel
theorem dX3_init_32 : decode cX3_init 32 = .ok (.aload_n 0, 1) := by decide +kernel
theorem dX3_init_33 : decode cX3_init 33 = .ok (.getfield 18, 3) := by decide +kernel
theorem dX3_init_36 : decode cX3_init 36 = .ok (.iload_n 1, 1) := by decide +kernel
theorem dX3_init_37 : decode cX3_init 37 = .ok (.new 9, 3) := by decide +kernel
theorem dX3_init_40 : decode cX3_init 40 = .ok (.dup, 1) := by decide +kernel
theorem dX3_init_41 : decode cX3_init 41 = .ok (.invokespecial 11, 3) := by decide +kernel
theorem dX3_init_44 : decode cX3_init 44 = .ok (.aastore, 1) := by decide +kernel
theorem dX3_init_45 : decode cX3_init 45 = .ok (.iinc 1 1, 3) := by decide +kernel
theorem dX3_init_48 : decode cX3_init 48 = .ok (.goto (-22), 3) := by decide +kernel
theorem dX3_init_51 : decode cX3_init 51 = .ok (.return_, 1) := by decide +kernel
theorem dX3_documentOf_0 : decode cX3_documentOf 0 = .ok (.iload_n 1, 1) := by decide +kernel
theorem dX3_documentOf_1 : decode cX3_documentOf 1 = .ok (.ifCond .lt 18, 3) := by decide +kernel
theorem dX3_documentOf_4 : decode cX3_documentOf 4 = .ok (.iload_n 1, 1) := by decide +kernel
theorem dX3_documentOf_5 : decode cX3_documentOf 5 = .ok (.bipush 6, 2) := by decide +kernel
theorem dX3_documentOf_7 : decode cX3_documentOf 7 = .ok (.if_icmp .gt 12, 3) := by decide +kernel
theorem dX3_documentOf_10 : decode cX3_documentOf 10 = .ok (.aload_n 0, 1) := by decide +kernel
theorem dX3_documentOf_11 : decode cX3_documentOf 11 = .ok (.getfield 18, 3) := by decide +kernel
theorem dX3_documentOf_14 : decode cX3_documentOf 14 = .ok (.iload_n 1, 1) := by decide +kernel
theorem dX3_documentOf_15 : decode cX3_documentOf 15 = .ok (.aaload, 1) := by decide +kernel
theorem dX3_documentOf_16 : decode cX3_documentOf 16 = .ok (.goto 7, 3) := by decide +kernel
theorem dX3_documentOf_19 : decode cX3_documentOf 19 = .ok (.aload_n 0, 1) := by decide +kernel
theorem dX3_documentOf_20 : decode cX3_documentOf 20 = .ok (.getfield 12, 3) := by decide +kernel
theorem dX3_documentOf_23 : decode cX3_documentOf 23 = .ok (.areturn, 1) := by decide +kernel
theorem dX3_advanceClock_0 : decode cX3_advanceClock 0 = .ok (.aload_n 0, 1) := by decide +kernel
theorem dX3_advanceClock_1 : decode cX3_advanceClock 1 = .ok (.dup, 1) := by decide +kernel
theorem dX3_advanceClock_2 : decode cX3_advanceClock 2 = .ok (.getfield 22, 3) := by decide +kernel
theorem dX3_advanceClock_5 : decode cX3_advanceClock 5 = .ok (.iload_n 1, 1) := by decide +kernel
theorem dX3_advanceClock_6 : decode cX3_advanceClock 6 = .ok (.iadd, 1) := by decide +kernel
theorem dX3_advanceClock_7 : decode cX3_advanceClock 7 = .ok (.putfield 22, 3) := by decide +kernel
theorem dX3_advanceClock_10 : decode cX3_advanceClock 10 = .ok (.aload_n 0, 1) := by decide +kernel
theorem dX3_advanceClock_11 : decode cX3_advanceClock 11 = .ok (.getfield 22, 3) := by decide +kernel
theorem dX3_advanceClock_14 : decode cX3_advanceClock 14 = .ok (.ireturn, 1) := by decide +kernel
set_option maxRecDepth 20000 in
theorem ggX3_findsEnded_X0_end : GoodIn wsX3_findsEnded wsX0_end := goodIn_r _ [6, 7, 11, 12, 13, 14, 15, 16, 17, 18, 19, 20, 21, 22, 23, 24, 25] (by decide +kernel) (by decide +kernel)
set_option maxRecDepth 20000 in
theorem gX3_findsEnded_X0_end : GoodIn wsX3_findsEnded (wsV RX3 26 RX0 yX0_end wsX0_end) := goodIn_app (goodIn_of _ (by decide +kernel)) ggX3_findsEnded_X0_end
theorem dX3_findsEnded_0 : decode cX3_findsEnded 0 = .ok (.aload_n 1, 1) := by decide +kernel
theorem dX3_findsEnded_1 : decode cX3_findsEnded 1 = .ok (.invokevirtual 26, 3) := by decide +kernel
theorem dX3_findsEnded_4 : decode cX3_findsEnded 4 = .ok (.aload_n 0, 1) := by decide +kernel
theorem dX3_findsEnded_5 : decode cX3_findsEnded 5 = .ok (.getfield 22, 3) := by decide +kernel
theorem dX3_findsEnded_8 : decode cX3_findsEnded 8 = .ok (.if_icmp .gt 7, 3) := by decide +kernel
theorem dX3_findsEnded_11 : decode cX3_findsEnded 11 = .ok (.iconst 1, 1) := by decide +kernel
theorem dX3_findsEnded_12 : decode cX3_findsEnded 12 = .ok (.goto 4, 3) := by decide +kernel
theorem dX3_findsEnded_15 : decode cX3_findsEnded 15 = .ok (.iconst 0, 1) := by decide +kernel
theorem dX3_findsEnded_16 : decode cX3_findsEnded 16 = .ok (.ireturn, 1) := by decide +kernel
set_option maxRecDepth 20000 in
theorem ggX3_isInForce_X3_documentOf : GoodIn wsX3_isInForce wsX3_documentOf := goodIn_r _ [5, 6, 7, 24, 25, 26] (by decide +kernel) (by decide +kernel)
set_option maxRecDepth 20000 in
theorem gX3_isInForce_X3_documentOf : GoodIn wsX3_isInForce (wsV RX3 30 RX3 yX3_documentOf wsX3_documentOf) := goodIn_app (goodIn_of _ (by decide +kernel)) ggX3_isInForce_X3_documentOf
set_option maxRecDepth 20000 in
theorem ggX3_isInForce_X0_isWhole : GoodIn wsX3_isInForce wsX0_isWhole := goodIn_r _ [12, 13, 27, 28, 29, 30, 31, 32, 33, 34, 35, 36, 37, 38, 39, 40, 41] (by decide +kernel) (by decide +kernel)
set_option maxRecDepth 20000 in
theorem gX3_isInForce_X0_isWhole : GoodIn wsX3_isInForce (wsV RX3 34 RX0 yX0_isWhole wsX0_isWhole) := goodIn_app (goodIn_of _ (by decide +kernel)) ggX3_isInForce_X0_isWhole
set_option maxRecDepth 20000 in
theorem ggX3_isInForce_X3_findsEnded : GoodIn wsX3_isInForce wsX3_findsEnded := goodIn_r _ [17, 18, 19, 20, 21, 11, 22, 23, 24, 25, 26, 27, 28, 29, 30, 31, 32, 33, 34, 35, 36, 37, 38, 39, 40, 41] (by decide +kernel) (by decide +kernel)
set_option maxRecDepth 20000 in
theorem gX3_isInForce_X3_findsEnded : GoodIn wsX3_isInForce (wsV RX3 38 RX3 yX3_findsEnded wsX3_findsEnded) := goodIn_app (goodIn_of _ (by decide +kernel)) ggX3_isInForce_X3_findsEnded
theorem dX3_isInForce_0 : decode cX3_isInForce 0 = .ok (.aload_n 0, 1) := by decide +kernel
theorem dX3_isInForce_1 : decode cX3_isInForce 1 = .ok (.iload_n 1, 1) := by decide +kernel
theorem dX3_isInForce_2 : decode cX3_isInForce 2 = .ok (.invokevirtual 30, 3) := by decide +kernel
theorem dX3_isInForce_5 : decode cX3_isInForce 5 = .ok (.astore_n 2, 1) := by decide +kernel
theorem dX3_isInForce_6 : decode cX3_isInForce 6 = .ok (.aload_n 2, 1) := by decide +kernel
theorem dX3_isInForce_7 : decode cX3_isInForce 7 = .ok (.invokevirtual 34, 3) := by decide +kernel
theorem dX3_isInForce_10 : decode cX3_isInForce 10 = .ok (.ifCond .eq 15, 3) := by decide +kernel
theorem dX3_isInForce_13 : decode cX3_isInForce 13 = .ok (.aload_n 0, 1) := by decide +kernel
theorem dX3_isInForce_14 : decode cX3_isInForce 14 = .ok (.aload_n 2, 1) := by decide +kernel
theorem dX3_isInForce_15 : decode cX3_isInForce 15 = .ok (.invokevirtual 38, 3) := by decide +kernel
theorem dX3_isInForce_18 : decode cX3_isInForce 18 = .ok (.ifCond .ne 7, 3) := by decide +kernel
theorem dX3_isInForce_21 : decode cX3_isInForce 21 = .ok (.iconst 1, 1) := by decide +kernel
theorem dX3_isInForce_22 : decode cX3_isInForce 22 = .ok (.goto 4, 3) := by decide +kernel
theorem dX3_isInForce_25 : decode cX3_isInForce 25 = .ok (.iconst 0, 1) := by decide +kernel
theorem dX3_isInForce_26 : decode cX3_isInForce 26 = .ok (.ireturn, 1) := by decide +kernel
set_option maxRecDepth 20000 in
theorem ggX3_isFresh_X3_isInForce : GoodIn wsX3_isFresh wsX3_isInForce := goodIn_r _ [5, 6, 7, 8, 4, 9, 10, 11, 12, 13, 14, 15, 16, 17, 18, 19, 20, 21, 22, 23, 24, 25, 26, 27, 38, 39, 40, 41, 42, 43, 44, 45, 46, 47, 48, 49, 50, 51, 52, 53, 54, 55] (by decide +kernel) (by decide +kernel)
set_option maxRecDepth 20000 in
theorem gX3_isFresh_X3_isInForce : GoodIn wsX3_isFresh (wsV RX3 42 RX3 yX3_isInForce wsX3_isInForce) := goodIn_app (goodIn_of _ (by decide +kernel)) ggX3_isFresh_X3_isInForce
set_option maxRecDepth 20000 in
theorem ggX3_isFresh_X3_documentOf : GoodIn wsX3_isFresh wsX3_documentOf := goodIn_r _ [9, 10, 11, 38, 39, 40] (by decide +kernel) (by decide +kernel)
set_option maxRecDepth 20000 in
theorem gX3_isFresh_X3_documentOf : GoodIn wsX3_isFresh (wsV RX3 30 RX3 yX3_documentOf wsX3_documentOf) := goodIn_app (goodIn_of _ (by decide +kernel)) ggX3_isFresh_X3_documentOf
set_option maxRecDepth 20000 in
theorem ggX3_isFresh_X0_version : GoodIn wsX3_isFresh wsX0_version := goodIn_r _ [31, 32, 41, 42, 43, 44, 45, 46, 47, 48, 49, 50, 51, 52, 53, 54, 55] (by decide +kernel) (by decide +kernel)
set_option maxRecDepth 20000 in
theorem gX3_isFresh_X0_version : GoodIn wsX3_isFresh (wsV RX3 46 RX0 yX0_version wsX0_version) := goodIn_app (goodIn_of _ (by decide +kernel)) ggX3_isFresh_X0_version
set_option maxRecDepth 20000 in
theorem ggX3_isFresh_X0_versionFor : GoodIn wsX3_isFresh wsX0_versionFor := goodIn_r _ [36, 37, 41, 42, 43, 44, 45, 46, 47, 48, 49, 50, 51, 52, 53, 54, 55] (by decide +kernel) (by decide +kernel)
set_option maxRecDepth 20000 in
theorem gX3_isFresh_X0_versionFor : GoodIn wsX3_isFresh (wsV RX3 49 RX0 yX0_versionFor wsX0_versionFor) := goodIn_app (goodIn_of _ (by decide +kernel)) ggX3_isFresh_X0_versionFor
theorem dX3_isFresh_0 : decode cX3_isFresh 0 = .ok (.aload_n 0, 1) := by decide +kernel
theorem dX3_isFresh_1 : decode cX3_isFresh 1 = .ok (.iload_n 1, 1) := by decide +kernel
theorem dX3_isFresh_2 : decode cX3_isFresh 2 = .ok (.invokevirtual 42, 3) := by decide +kernel
theorem dX3_isFresh_5 : decode cX3_isFresh 5 = .ok (.ifCond .eq 27, 3) := by decide +kernel
theorem dX3_isFresh_8 : decode cX3_isFresh 8 = .ok (.aload_n 0, 1) := by decide +kernel
theorem dX3_isFresh_9 : decode cX3_isFresh 9 = .ok (.iload_n 1, 1) := by decide +kernel
theorem dX3_isFresh_10 : decode cX3_isFresh 10 = .ok (.invokevirtual 30, 3) := by decide +kernel
theorem dX3_isFresh_13 : decode cX3_isFresh 13 = .ok (.invokevirtual 46, 3) := by decide +kernel
theorem dX3_isFresh_16 : decode cX3_isFresh 16 = .ok (.aload_n 0, 1) := by decide +kernel
theorem dX3_isFresh_17 : decode cX3_isFresh 17 = .ok (.iconst 2, 1) := by decide +kernel
theorem dX3_isFresh_18 : decode cX3_isFresh 18 = .ok (.invokevirtual 30, 3) := by decide +kernel
theorem dX3_isFresh_21 : decode cX3_isFresh 21 = .ok (.iload_n 1, 1) := by decide +kernel
theorem dX3_isFresh_22 : decode cX3_isFresh 22 = .ok (.invokevirtual 49, 3) := by decide +kernel
theorem dX3_isFresh_25 : decode cX3_isFresh 25 = .ok (.if_icmp .ne 7, 3) := by decide +kernel
theorem dX3_isFresh_28 : decode cX3_isFresh 28 = .ok (.iconst 1, 1) := by decide +kernel
theorem dX3_isFresh_29 : decode cX3_isFresh 29 = .ok (.goto 4, 3) := by decide +kernel
theorem dX3_isFresh_32 : decode cX3_isFresh 32 = .ok (.iconst 0, 1) := by decide +kernel
theorem dX3_isFresh_33 : decode cX3_isFresh 33 = .ok (.ireturn, 1) := by decide +kernel
set_option maxRecDepth 20000 in
theorem ggX3_allowsSeeking_X3_isInForce : GoodIn wsX3_allowsSeeking wsX3_isInForce := goodIn_r _ [5, 6, 7, 8, 4, 9, 10, 11, 12, 13, 14, 15, 16, 17, 18, 19, 20, 21, 22, 23, 24, 25, 26, 27, 42, 43, 44, 45, 46, 47, 48, 49, 50, 51, 52, 53, 54, 55, 56, 57, 58, 59] (by decide +kernel) (by decide +kernel)
set_option maxRecDepth 20000 in
theorem gX3_allowsSeeking_X3_isInForce : GoodIn wsX3_allowsSeeking (wsV RX3 42 RX3 yX3_isInForce wsX3_isInForce) := goodIn_app (goodIn_of _ (by decide +kernel)) ggX3_allowsSeeking_X3_isInForce
set_option maxRecDepth 20000 in
theorem ggX3_allowsSeeking_X3_isFresh : GoodIn wsX3_allowsSeeking wsX3_isFresh := goodIn_r _ [31, 1, 2, 3, 4, 5, 6, 7, 8, 9, 10, 11, 12, 13, 14, 15, 16, 17, 18, 19, 20, 21, 22, 23, 24, 25, 26, 27, 32, 33, 34, 35, 36, 37, 38, 39, 40, 41, 42, 43, 44, 45, 46, 47, 48, 49, 50, 51, 52, 53, 54, 55, 56, 57, 58, 59] (by decide +kernel) (by decide +kernel)
set_option maxRecDepth 20000 in
theorem gX3_allowsSeeking_X3_isFresh : GoodIn wsX3_allowsSeeking (wsV RX3 53 RX3 yX3_isFresh wsX3_isFresh) := goodIn_app (goodIn_of _ (by decide +kernel)) ggX3_allowsSeeking_X3_isFresh
theorem dX3_allowsSeeking_0 : decode cX3_allowsSeeking 0 = .ok (.aload_n 0, 1) := by decide +kernel
theorem dX3_allowsSeeking_1 : decode cX3_allowsSeeking 1 = .ok (.iconst 0, 1) := by decide +kernel
theorem dX3_allowsSeeking_2 : decode cX3_allowsSeeking 2 = .ok (.invokevirtual 42, 3) := by decide +kernel
theorem dX3_allowsSeeking_5 : decode cX3_allowsSeeking 5 = .ok (.ifCond .eq 31, 3) := by decide +kernel
theorem dX3_allowsSeeking_8 : decode cX3_allowsSeeking 8 = .ok (.aload_n 0, 1) := by decide +kernel
theorem dX3_allowsSeeking_9 : decode cX3_allowsSeeking 9 = .ok (.iconst 1, 1) := by decide +kernel
theorem dX3_allowsSeeking_10 : decode cX3_allowsSeeking 10 = .ok (.invokevirtual 42, 3) := by decide +kernel
theorem dX3_allowsSeeking_13 : decode cX3_allowsSeeking 13 = .ok (.ifCond .eq 23, 3) := by decide +kernel
theorem dX3_allowsSeeking_16 : decode cX3_allowsSeeking 16 = .ok (.aload_n 0, 1) := by decide +kernel
theorem dX3_allowsSeeking_17 : decode cX3_allowsSeeking 17 = .ok (.iconst 2, 1) := by decide +kernel
theorem dX3_allowsSeeking_18 : decode cX3_allowsSeeking 18 = .ok (.invokevirtual 42, 3) := by decide +kernel
theorem dX3_allowsSeeking_21 : decode cX3_allowsSeeking 21 = .ok (.ifCond .eq 15, 3) := by decide +kernel
theorem dX3_allowsSeeking_24 : decode cX3_allowsSeeking 24 = .ok (.aload_n 0, 1) := by decide +kernel
theorem dX3_allowsSeeking_25 : decode cX3_allowsSeeking 25 = .ok (.iconst 3, 1) := by decide +kernel
theorem dX3_allowsSeeking_26 : decode cX3_allowsSeeking 26 = .ok (.invokevirtual 53, 3) := by decide +kernel
theorem dX3_allowsSeeking_29 : decode cX3_allowsSeeking 29 = .ok (.ifCond .eq 7, 3) := by decide +kernel
theorem dX3_allowsSeeking_32 : decode cX3_allowsSeeking 32 = .ok (.iconst 1, 1) := by decide +kernel
theorem dX3_allowsSeeking_33 : decode cX3_allowsSeeking 33 = .ok (.goto 4, 3) := by decide +kernel
theorem dX3_allowsSeeking_36 : decode cX3_allowsSeeking 36 = .ok (.iconst 0, 1) := by decide +kernel
theorem dX3_allowsSeeking_37 : decode cX3_allowsSeeking 37 = .ok (.ireturn, 1) := by decide +kernel
set_option maxRecDepth 20000 in
theorem ggX3_startFrom_X3_documentOf : GoodIn wsX3_startFrom wsX3_documentOf := goodIn_r _ [5, 6, 7, 104, 105, 106] (by decide +kernel) (by decide +kernel)
set_option maxRecDepth 20000 in
theorem gX3_startFrom_X3_documentOf : GoodIn wsX3_startFrom (wsV RX3 30 RX3 yX3_documentOf wsX3_documentOf) := goodIn_app (goodIn_of _ (by decide +kernel)) ggX3_startFrom_X3_documentOf
set_option maxRecDepth 20000 in
theorem ggX3_startFrom_X0_clear : GoodIn wsX3_startFrom wsX0_clear := goodIn_r _ [12, 13, 107, 108, 109, 110, 111, 112, 113, 114, 115, 116, 117, 118, 119, 120, 121] (by decide +kernel) (by decide +kernel)
set_option maxRecDepth 20000 in
theorem gX3_startFrom_X0_clear : GoodIn wsX3_startFrom (wsV RX3 56 RX0 yX0_clear wsX0_clear) := goodIn_app (goodIn_of _ (by decide +kernel)) ggX3_startFrom_X0_clear
set_option maxRecDepth 20000 in
theorem ggX3_startFrom_X0_row : GoodIn wsX3_startFrom wsX0_row := goodIn_r _ [17, 18, 107, 108, 109, 110, 111, 112, 113, 114, 115, 116, 117, 118, 119, 120, 121] (by decide +kernel) (by decide +kernel)
set_option maxRecDepth 20000 in
theorem gX3_startFrom_X0_row : GoodIn wsX3_startFrom (wsV RX3 59 RX0 yX0_row wsX0_row) := goodIn_app (goodIn_of _ (by decide +kernel)) ggX3_startFrom_X0_row
set_option maxRecDepth 20000 in
theorem ggX3_startFrom_X0_read : GoodIn wsX3_startFrom wsX0_read := goodIn_r _ [22, 18, 23, 24, 25, 26, 13, 27, 28, 29, 30, 31, 32, 33, 34, 35, 36, 37, 38, 39, 40, 11, 41, 42, 43, 44, 45, 46, 47, 48, 49, 50, 51, 52, 53, 54, 55, 56, 57, 58, 59, 60, 61, 62, 63, 64, 65, 66, 67, 68, 69, 70, 71, 72, 73, 74, 75, 76, 77, 78, 79, 80, 81, 82, 83, 84, 85, 86, 87, 88, 89, 90, 91, 92, 93, 94, 95, 96, 97, 98, 99, 100, 101, 102, 103, 107, 108, 109, 110, 111, 112, 113, 114, 115, 116, 117, 118, 119, 120, 121, 122, 123] (by decide +kernel) (by decide +kernel)
set_option maxRecDepth 20000 in
theorem gX3_startFrom_X0_read : GoodIn wsX3_startFrom (wsV RX3 63 RX0 yX0_read wsX0_read) := goodIn_app (goodIn_of _ (by decide +kernel)) ggX3_startFrom_X0_read
theorem dX3_startFrom_0 : decode cX3_startFrom 0 = .ok (.iconst 0, 1) := by decide +kernel
theorem dX3_startFrom_1 : decode cX3_startFrom 1 = .ok (.istore_n 2, 1) := by decide +kernel
theorem dX3_startFrom_2 : decode cX3_startFrom 2 = .ok (.iload_n 2, 1) := by decide +kernel
theorem dX3_startFrom_3 : decode cX3_startFrom 3 = .ok (.bipush 6, 2) := by decide +kernel
theorem dX3_startFrom_5 : decode cX3_startFrom 5 = .ok (.if_icmp .gt 17, 3) := by decide +kernel
theorem dX3_startFrom_8 : decode cX3_startFrom 8 = .ok (.aload_n 0, 1) := by decide +kernel
theorem dX3_startFrom_9 : decode cX3_startFrom 9 = .ok (.iload_n 2, 1) := by decide +kernel
theorem dX3_startFrom_10 : decode cX3_startFrom 10 = .ok (.invokevirtual 30, 3) := by decide +kernel
theorem dX3_startFrom_13 : decode cX3_startFrom 13 = .ok (.invokevirtual 56, 3) := by decide +kernel
theorem dX3_startFrom_16 : decode cX3_startFrom 16 = .ok (.iinc 2 1, 3) := by decide +kernel
theorem dX3_startFrom_19 : decode cX3_startFrom 19 = .ok (.goto (-17), 3) := by decide +kernel
theorem dX3_startFrom_22 : decode cX3_startFrom 22 = .ok (.aload_n 0, 1) := by decide +kernel
theorem dX3_startFrom_23 : decode cX3_startFrom 23 = .ok (.iconst 0, 1) := by decide +kernel
theorem dX3_startFrom_24 : decode cX3_startFrom 24 = .ok (.invokevirtual 30, 3) := by decide +kernel
theorem dX3_startFrom_27 : decode cX3_startFrom 27 = .ok (.aload_n 1, 1) := by decide +kernel
theorem dX3_startFrom_28 : decode cX3_startFrom 28 = .ok (.invokevirtual 59, 3) := by decide +kernel
theorem dX3_startFrom_31 : decode cX3_startFrom 31 = .ok (.invokevirtual 63, 3) := by decide +kernel
theorem dX3_startFrom_34 : decode cX3_startFrom 34 = .ok (.return_, 1) := by decide +kernel
set_option maxRecDepth 20000 in
theorem ggX3_hasGroundFor_X3_documentOf : GoodIn wsX3_hasGroundFor wsX3_documentOf := goodIn_r _ [5, 6, 7, 33, 34, 35] (by decide +kernel) (by decide +kernel)
set_option maxRecDepth 20000 in
theorem gX3_hasGroundFor_X3_documentOf : GoodIn wsX3_hasGroundFor (wsV RX3 30 RX3 yX3_documentOf wsX3_documentOf) := goodIn_app (goodIn_of _ (by decide +kernel)) ggX3_hasGroundFor_X3_documentOf
set_option maxRecDepth 20000 in
theorem ggX3_hasGroundFor_X0_isWhole : GoodIn wsX3_hasGroundFor wsX0_isWhole := goodIn_r _ [12, 13, 36, 37, 38, 39, 40, 41, 42, 43, 44, 45, 46, 47, 48, 49, 50] (by decide +kernel) (by decide +kernel)
set_option maxRecDepth 20000 in
theorem gX3_hasGroundFor_X0_isWhole : GoodIn wsX3_hasGroundFor (wsV RX3 34 RX0 yX0_isWhole wsX0_isWhole) := goodIn_app (goodIn_of _ (by decide +kernel)) ggX3_hasGroundFor_X0_isWhole
set_option maxRecDepth 20000 in
theorem ggX3_hasGroundFor_X3_isInForce : GoodIn wsX3_hasGroundFor wsX3_isInForce := goodIn_r _ [17, 1, 2, 3, 4, 5, 6, 7, 8, 9, 10, 11, 12, 13, 18, 19, 20, 21, 22, 23, 24, 25, 26, 27, 33, 34, 35, 36, 37, 38, 39, 40, 41, 42, 43, 44, 45, 46, 47, 48, 49, 50] (by decide +kernel) (by decide +kernel)
set_option maxRecDepth 20000 in
theorem gX3_hasGroundFor_X3_isInForce : GoodIn wsX3_hasGroundFor (wsV RX3 42 RX3 yX3_isInForce wsX3_isInForce) := goodIn_app (goodIn_of _ (by decide +kernel)) ggX3_hasGroundFor_X3_isInForce
set_option maxRecDepth 20000 in
theorem ggX3_hasGroundFor_X0_versionFor : GoodIn wsX3_hasGroundFor wsX0_versionFor := goodIn_r _ [31, 32, 36, 37, 38, 39, 40, 41, 42, 43, 44, 45, 46, 47, 48, 49, 50] (by decide +kernel) (by decide +kernel)
set_option maxRecDepth 20000 in
theorem gX3_hasGroundFor_X0_versionFor : GoodIn wsX3_hasGroundFor (wsV RX3 49 RX0 yX0_versionFor wsX0_versionFor) := goodIn_app (goodIn_of _ (by decide +kernel)) ggX3_hasGroundFor_X0_versionFor
theorem dX3_hasGroundFor_0 : decode cX3_hasGroundFor 0 = .ok (.iload_n 1, 1) := by decide +kernel
theorem dX3_hasGroundFor_1 : decode cX3_hasGroundFor 1 = .ok (.tableswitch 64 0 2 #[27, 36, 42], 27) := by decide +kernel
theorem dX3_hasGroundFor_28 : decode cX3_hasGroundFor 28 = .ok (.aload_n 0, 1) := by decide +kernel
theorem dX3_hasGroundFor_29 : decode cX3_hasGroundFor 29 = .ok (.iconst 0, 1) := by decide +kernel
theorem dX3_hasGroundFor_30 : decode cX3_hasGroundFor 30 = .ok (.invokevirtual 30, 3) := by decide +kernel
theorem dX3_hasGroundFor_33 : decode cX3_hasGroundFor 33 = .ok (.invokevirtual 34, 3) := by decide +kernel
theorem dX3_hasGroundFor_36 : decode cX3_hasGroundFor 36 = .ok (.ireturn, 1) := by decide +kernel
theorem dX3_hasGroundFor_37 : decode cX3_hasGroundFor 37 = .ok (.aload_n 0, 1) := by decide +kernel
theorem dX3_hasGroundFor_38 : decode cX3_hasGroundFor 38 = .ok (.iconst 0, 1) := by decide +kernel
theorem dX3_hasGroundFor_39 : decode cX3_hasGroundFor 39 = .ok (.invokevirtual 42, 3) := by decide +kernel
theorem dX3_hasGroundFor_42 : decode cX3_hasGroundFor 42 = .ok (.ireturn, 1) := by decide +kernel
theorem dX3_hasGroundFor_43 : decode cX3_hasGroundFor 43 = .ok (.aload_n 0, 1) := by decide +kernel
theorem dX3_hasGroundFor_44 : decode cX3_hasGroundFor 44 = .ok (.iconst 0, 1) := by decide +kernel
theorem dX3_hasGroundFor_45 : decode cX3_hasGroundFor 45 = .ok (.invokevirtual 42, 3) := by decide +kernel
theorem dX3_hasGroundFor_48 : decode cX3_hasGroundFor 48 = .ok (.ifCond .eq 15, 3) := by decide +kernel
theorem dX3_hasGroundFor_51 : decode cX3_hasGroundFor 51 = .ok (.aload_n 0, 1) := by decide +kernel
theorem dX3_hasGroundFor_52 : decode cX3_hasGroundFor 52 = .ok (.iconst 1, 1) := by decide +kernel
theorem dX3_hasGroundFor_53 : decode cX3_hasGroundFor 53 = .ok (.invokevirtual 42, 3) := by decide +kernel
theorem dX3_hasGroundFor_56 : decode cX3_hasGroundFor 56 = .ok (.ifCond .eq 7, 3) := by decide +kernel
theorem dX3_hasGroundFor_59 : decode cX3_hasGroundFor 59 = .ok (.iconst 1, 1) := by decide +kernel
theorem dX3_hasGroundFor_60 : decode cX3_hasGroundFor 60 = .ok (.goto 4, 3) := by decide +kernel
theorem dX3_hasGroundFor_63 : decode cX3_hasGroundFor 63 = .ok (.iconst 0, 1) := by decide +kernel
theorem dX3_hasGroundFor_64 : decode cX3_hasGroundFor 64 = .ok (.ireturn, 1) := by decide +kernel
theorem dX3_hasGroundFor_65 : decode cX3_hasGroundFor 65 = .ok (.aload_n 0, 1) := by decide +kernel
theorem dX3_hasGroundFor_66 : decode cX3_hasGroundFor 66 = .ok (.iconst 0, 1) := by decide +kernel
theorem dX3_hasGroundFor_67 : decode cX3_hasGroundFor 67 = .ok (.invokevirtual 42, 3) := by decide +kernel
theorem dX3_hasGroundFor_70 : decode cX3_hasGroundFor 70 = .ok (.ifCond .eq 28, 3) := by decide +kernel
theorem dX3_hasGroundFor_73 : decode cX3_hasGroundFor 73 = .ok (.aload_n 0, 1) := by decide +kernel
theorem dX3_hasGroundFor_74 : decode cX3_hasGroundFor 74 = .ok (.iconst 2, 1) := by decide +kernel
theorem dX3_hasGroundFor_75 : decode cX3_hasGroundFor 75 = .ok (.invokevirtual 42, 3) := by decide +kernel
theorem dX3_hasGroundFor_78 : decode cX3_hasGroundFor 78 = .ok (.ifCond .eq 20, 3) := by decide +kernel
theorem dX3_hasGroundFor_81 : decode cX3_hasGroundFor 81 = .ok (.aload_n 0, 1) := by decide +kernel
theorem dX3_hasGroundFor_82 : decode cX3_hasGroundFor 82 = .ok (.iconst 2, 1) := by decide +kernel
theorem dX3_hasGroundFor_83 : decode cX3_hasGroundFor 83 = .ok (.invokevirtual 30, 3) := by decide +kernel
theorem dX3_hasGroundFor_86 : decode cX3_hasGroundFor 86 = .ok (.iload_n 1, 1) := by decide +kernel
theorem dX3_hasGroundFor_87 : decode cX3_hasGroundFor 87 = .ok (.invokevirtual 49, 3) := by decide +kernel
theorem dX3_hasGroundFor_90 : decode cX3_hasGroundFor 90 = .ok (.iconst (-1), 1) := by decide +kernel
theorem dX3_hasGroundFor_91 : decode cX3_hasGroundFor 91 = .ok (.if_icmp .eq 7, 3) := by decide +kernel
theorem dX3_hasGroundFor_94 : decode cX3_hasGroundFor 94 = .ok (.iconst 1, 1) := by decide +kernel
theorem dX3_hasGroundFor_95 : decode cX3_hasGroundFor 95 = .ok (.goto 4, 3) := by decide +kernel
theorem dX3_hasGroundFor_98 : decode cX3_hasGroundFor 98 = .ok (.iconst 0, 1) := by decide +kernel
theorem dX3_hasGroundFor_99 : decode cX3_hasGroundFor 99 = .ok (.ireturn, 1) := by decide +kernel
set_option maxRecDepth 20000 in
theorem ggX3_findsSigned_X0_role : GoodIn wsX3_findsSigned wsX0_role := goodIn_r _ [5, 6, 54, 55, 56, 57, 58, 59, 60, 61, 62, 63, 64, 65, 66, 67, 68] (by decide +kernel) (by decide +kernel)
set_option maxRecDepth 20000 in
theorem gX3_findsSigned_X0_role : GoodIn wsX3_findsSigned (wsV RX3 67 RX0 yX0_role wsX0_role) := goodIn_app (goodIn_of _ (by decide +kernel)) ggX3_findsSigned_X0_role
set_option maxRecDepth 20000 in
theorem ggX3_findsSigned_X3_documentOf : GoodIn wsX3_findsSigned wsX3_documentOf := goodIn_r _ [11, 12, 13, 69, 70, 71] (by decide +kernel) (by decide +kernel)
set_option maxRecDepth 20000 in
theorem gX3_findsSigned_X3_documentOf : GoodIn wsX3_findsSigned (wsV RX3 30 RX3 yX3_documentOf wsX3_documentOf) := goodIn_app (goodIn_of _ (by decide +kernel)) ggX3_findsSigned_X3_documentOf
set_option maxRecDepth 20000 in
theorem ggX3_findsSigned_X0_rootVouchesFor : GoodIn wsX3_findsSigned wsX0_rootVouchesFor := goodIn_r _ [17, 18, 19, 20, 21, 22, 4, 23, 24, 25, 26, 27, 28, 29, 30, 31, 32, 33, 34, 35, 36, 37, 38, 39, 40, 41, 42, 43, 44, 45, 46, 47, 48, 49, 50, 51, 52, 53, 54, 55, 56, 57, 58, 59, 60, 61, 62, 63, 64, 65, 66, 67, 68, 72, 73] (by decide +kernel) (by decide +kernel)
set_option maxRecDepth 20000 in
theorem gX3_findsSigned_X0_rootVouchesFor : GoodIn wsX3_findsSigned (wsV RX3 70 RX0 yX0_rootVouchesFor wsX0_rootVouchesFor) := goodIn_app (goodIn_of _ (by decide +kernel)) ggX3_findsSigned_X0_rootVouchesFor
theorem dX3_findsSigned_0 : decode cX3_findsSigned 0 = .ok (.aload_n 1, 1) := by decide +kernel
theorem dX3_findsSigned_1 : decode cX3_findsSigned 1 = .ok (.invokevirtual 67, 3) := by decide +kernel
theorem dX3_findsSigned_4 : decode cX3_findsSigned 4 = .ok (.istore_n 2, 1) := by decide +kernel
theorem dX3_findsSigned_5 : decode cX3_findsSigned 5 = .ok (.iload_n 2, 1) := by decide +kernel
theorem dX3_findsSigned_6 : decode cX3_findsSigned 6 = .ok (.iconst 4, 1) := by decide +kernel
theorem dX3_findsSigned_7 : decode cX3_findsSigned 7 = .ok (.if_icmp .lt 5, 3) := by decide +kernel
theorem dX3_findsSigned_10 : decode cX3_findsSigned 10 = .ok (.iconst 1, 1) := by decide +kernel
theorem dX3_findsSigned_11 : decode cX3_findsSigned 11 = .ok (.ireturn, 1) := by decide +kernel
theorem dX3_findsSigned_12 : decode cX3_findsSigned 12 = .ok (.aload_n 0, 1) := by decide +kernel
theorem dX3_findsSigned_13 : decode cX3_findsSigned 13 = .ok (.iconst 0, 1) := by decide +kernel
theorem dX3_findsSigned_14 : decode cX3_findsSigned 14 = .ok (.invokevirtual 30, 3) := by decide +kernel
theorem dX3_findsSigned_17 : decode cX3_findsSigned 17 = .ok (.aload_n 1, 1) := by decide +kernel
theorem dX3_findsSigned_18 : decode cX3_findsSigned 18 = .ok (.iload_n 2, 1) := by decide +kernel
theorem dX3_findsSigned_19 : decode cX3_findsSigned 19 = .ok (.invokevirtual 70, 3) := by decide +kernel
theorem dX3_findsSigned_22 : decode cX3_findsSigned 22 = .ok (.ifCond .eq 20, 3) := by decide +kernel
theorem dX3_findsSigned_25 : decode cX3_findsSigned 25 = .ok (.iload_n 2, 1) := by decide +kernel
theorem dX3_findsSigned_26 : decode cX3_findsSigned 26 = .ok (.ifCond .ne 12, 3) := by decide +kernel
theorem dX3_findsSigned_29 : decode cX3_findsSigned 29 = .ok (.aload_n 1, 1) := by decide +kernel
theorem dX3_findsSigned_30 : decode cX3_findsSigned 30 = .ok (.aload_n 1, 1) := by decide +kernel
theorem dX3_findsSigned_31 : decode cX3_findsSigned 31 = .ok (.iconst 0, 1) := by decide +kernel
theorem dX3_findsSigned_32 : decode cX3_findsSigned 32 = .ok (.invokevirtual 70, 3) := by decide +kernel
theorem dX3_findsSigned_35 : decode cX3_findsSigned 35 = .ok (.ifCond .eq 7, 3) := by decide +kernel
theorem dX3_findsSigned_38 : decode cX3_findsSigned 38 = .ok (.iconst 1, 1) := by decide +kernel
theorem dX3_findsSigned_39 : decode cX3_findsSigned 39 = .ok (.goto 4, 3) := by decide +kernel
theorem dX3_findsSigned_42 : decode cX3_findsSigned 42 = .ok (.iconst 0, 1) := by decide +kernel
theorem dX3_findsSigned_43 : decode cX3_findsSigned 43 = .ok (.ireturn, 1) := by decide +kernel
set_option maxRecDepth 20000 in
theorem ggX3_findsVersionsRight_X0_role : GoodIn wsX3_findsVersionsRight wsX0_role := goodIn_r _ [5, 6, 75, 76, 77, 78, 79, 80, 81, 82, 83, 84, 85, 86, 87, 88, 89] (by decide +kernel) (by decide +kernel)
set_option maxRecDepth 20000 in
theorem gX3_findsVersionsRight_X0_role : GoodIn wsX3_findsVersionsRight (wsV RX3 67 RX0 yX0_role wsX0_role) := goodIn_app (goodIn_of _ (by decide +kernel)) ggX3_findsVersionsRight_X0_role
set_option maxRecDepth 20000 in
theorem ggX3_findsVersionsRight_X0_version : GoodIn wsX3_findsVersionsRight wsX0_version := goodIn_r _ [10, 11, 75, 76, 77, 78, 79, 80, 81, 82, 83, 84, 85, 86, 87, 88, 89] (by decide +kernel) (by decide +kernel)
set_option maxRecDepth 20000 in
theorem gX3_findsVersionsRight_X0_version : GoodIn wsX3_findsVersionsRight (wsV RX3 46 RX0 yX0_version wsX0_version) := goodIn_app (goodIn_of _ (by decide +kernel)) ggX3_findsVersionsRight_X0_version
set_option maxRecDepth 20000 in
theorem ggX3_findsVersionsRight_X3_documentOf : GoodIn wsX3_findsVersionsRight wsX3_documentOf := goodIn_r _ [16, 17, 18, 90, 91, 92] (by decide +kernel) (by decide +kernel)
set_option maxRecDepth 20000 in
theorem gX3_findsVersionsRight_X3_documentOf : GoodIn wsX3_findsVersionsRight (wsV RX3 30 RX3 yX3_documentOf wsX3_documentOf) := goodIn_app (goodIn_of _ (by decide +kernel)) ggX3_findsVersionsRight_X3_documentOf
set_option maxRecDepth 20000 in
theorem ggX3_findsVersionsRight_X3_isNoOlderStamp : GoodIn wsX3_findsVersionsRight wsX3_isNoOlderStamp := goodIn_r _ [22, 12, 13, 14, 15, 16, 17, 18, 23, 24, 25, 4, 26, 27, 7, 8, 9, 10, 11, 28, 29, 30, 31, 32, 33, 34, 35, 36, 37, 38, 39, 90, 91, 92, 75, 76, 77, 78, 79, 80, 81, 82, 83, 84, 85, 86, 87, 88, 89, 93, 94] (by decide +kernel) (by decide +kernel)
set_option maxRecDepth 20000 in
theorem gX3_findsVersionsRight_X3_isNoOlderStamp : GoodIn wsX3_findsVersionsRight (wsV RX3 74 RX3 yX3_isNoOlderStamp wsX3_isNoOlderStamp) := goodIn_app (goodIn_of _ (by decide +kernel)) ggX3_findsVersionsRight_X3_isNoOlderStamp
set_option maxRecDepth 20000 in
theorem ggX3_findsVersionsRight_X3_isAsStamped : GoodIn wsX3_findsVersionsRight wsX3_isAsStamped := goodIn_r _ [43, 12, 13, 14, 15, 16, 17, 18, 7, 8, 9, 4, 10, 11, 28, 29, 30, 31, 32, 33, 34, 35, 36, 37, 38, 39, 44, 45, 46, 47, 48, 49, 50, 51, 52, 53, 54, 55, 56, 57, 58, 59, 60, 61, 62, 63, 64, 65, 90, 91, 92, 75, 76, 77, 78, 79, 80, 81, 82, 83, 84, 85, 86, 87, 88, 89, 93, 94] (by decide +kernel) (by decide +kernel)
set_option maxRecDepth 20000 in
theorem gX3_findsVersionsRight_X3_isAsStamped : GoodIn wsX3_findsVersionsRight (wsV RX3 77 RX3 yX3_isAsStamped wsX3_isAsStamped) := goodIn_app (goodIn_of _ (by decide +kernel)) ggX3_findsVersionsRight_X3_isAsStamped
set_option maxRecDepth 20000 in
theorem ggX3_findsVersionsRight_X3_isNoOlderSnapshot : GoodIn wsX3_findsVersionsRight wsX3_isNoOlderSnapshot := goodIn_r _ [69, 12, 13, 14, 15, 16, 17, 18, 23, 24, 25, 4, 26, 27, 70, 71, 72, 73, 74, 90, 91, 92, 75, 76, 77, 78, 79, 80, 81, 82, 83, 84, 85, 86, 87, 88, 89] (by decide +kernel) (by decide +kernel)
set_option maxRecDepth 20000 in
theorem gX3_findsVersionsRight_X3_isNoOlderSnapshot : GoodIn wsX3_findsVersionsRight (wsV RX3 80 RX3 yX3_isNoOlderSnapshot wsX3_isNoOlderSnapshot) := goodIn_app (goodIn_of _ (by decide +kernel)) ggX3_findsVersionsRight_X3_isNoOlderSnapshot
set_option maxRecDepth 20000 in
theorem ggX3_findsVersionsRight_X0_versionFor : GoodIn wsX3_findsVersionsRight wsX0_versionFor := goodIn_r _ [73, 74, 75, 76, 77, 78, 79, 80, 81, 82, 83, 84, 85, 86, 87, 88, 89] (by decide +kernel) (by decide +kernel)
set_option maxRecDepth 20000 in
theorem gX3_findsVersionsRight_X0_versionFor : GoodIn wsX3_findsVersionsRight (wsV RX3 49 RX0 yX0_versionFor wsX0_versionFor) := goodIn_app (goodIn_of _ (by decide +kernel)) ggX3_findsVersionsRight_X0_versionFor
theorem dX3_findsVersionsRight_0 : decode cX3_findsVersionsRight 0 = .ok (.aload_n 1, 1) := by decide +kernel
theorem dX3_findsVersionsRight_1 : decode cX3_findsVersionsRight 1 = .ok (.invokevirtual 67, 3) := by decide +kernel
theorem dX3_findsVersionsRight_4 : decode cX3_findsVersionsRight 4 = .ok (.tableswitch 79 0 2 #[28, 51, 57], 28) := by decide +kernel
theorem dX3_findsVersionsRight_32 : decode cX3_findsVersionsRight 32 = .ok (.aload_n 1, 1) := by decide +kernel
theorem dX3_findsVersionsRight_33 : decode cX3_findsVersionsRight 33 = .ok (.invokevirtual 46, 3) := by decide +kernel
theorem dX3_findsVersionsRight_36 : decode cX3_findsVersionsRight 36 = .ok (.aload_n 0, 1) := by decide +kernel
theorem dX3_findsVersionsRight_37 : decode cX3_findsVersionsRight 37 = .ok (.iconst 0, 1) := by decide +kernel
theorem dX3_findsVersionsRight_38 : decode cX3_findsVersionsRight 38 = .ok (.invokevirtual 30, 3) := by decide +kernel
theorem dX3_findsVersionsRight_41 : decode cX3_findsVersionsRight 41 = .ok (.invokevirtual 46, 3) := by decide +kernel
theorem dX3_findsVersionsRight_44 : decode cX3_findsVersionsRight 44 = .ok (.iconst 1, 1) := by decide +kernel
theorem dX3_findsVersionsRight_45 : decode cX3_findsVersionsRight 45 = .ok (.iadd, 1) := by decide +kernel
theorem dX3_findsVersionsRight_46 : decode cX3_findsVersionsRight 46 = .ok (.if_icmp .ne 7, 3) := by decide +kernel
theorem dX3_findsVersionsRight_49 : decode cX3_findsVersionsRight 49 = .ok (.iconst 1, 1) := by decide +kernel
theorem dX3_findsVersionsRight_50 : decode cX3_findsVersionsRight 50 = .ok (.goto 4, 3) := by decide +kernel
theorem dX3_findsVersionsRight_53 : decode cX3_findsVersionsRight 53 = .ok (.iconst 0, 1) := by decide +kernel
theorem dX3_findsVersionsRight_54 : decode cX3_findsVersionsRight 54 = .ok (.ireturn, 1) := by decide +kernel
theorem dX3_findsVersionsRight_55 : decode cX3_findsVersionsRight 55 = .ok (.aload_n 0, 1) := by decide +kernel
theorem dX3_findsVersionsRight_56 : decode cX3_findsVersionsRight 56 = .ok (.aload_n 1, 1) := by decide +kernel
theorem dX3_findsVersionsRight_57 : decode cX3_findsVersionsRight 57 = .ok (.invokevirtual 74, 3) := by decide +kernel
theorem dX3_findsVersionsRight_60 : decode cX3_findsVersionsRight 60 = .ok (.ireturn, 1) := by decide +kernel
theorem dX3_findsVersionsRight_61 : decode cX3_findsVersionsRight 61 = .ok (.aload_n 0, 1) := by decide +kernel
theorem dX3_findsVersionsRight_62 : decode cX3_findsVersionsRight 62 = .ok (.aload_n 1, 1) := by decide +kernel
theorem dX3_findsVersionsRight_63 : decode cX3_findsVersionsRight 63 = .ok (.invokevirtual 77, 3) := by decide +kernel
theorem dX3_findsVersionsRight_66 : decode cX3_findsVersionsRight 66 = .ok (.ifCond .eq 15, 3) := by decide +kernel
theorem dX3_findsVersionsRight_69 : decode cX3_findsVersionsRight 69 = .ok (.aload_n 0, 1) := by decide +kernel
theorem dX3_findsVersionsRight_70 : decode cX3_findsVersionsRight 70 = .ok (.aload_n 1, 1) := by decide +kernel
theorem dX3_findsVersionsRight_71 : decode cX3_findsVersionsRight 71 = .ok (.invokevirtual 80, 3) := by decide +kernel
theorem dX3_findsVersionsRight_74 : decode cX3_findsVersionsRight 74 = .ok (.ifCond .eq 7, 3) := by decide +kernel
theorem dX3_findsVersionsRight_77 : decode cX3_findsVersionsRight 77 = .ok (.iconst 1, 1) := by decide +kernel
theorem dX3_findsVersionsRight_78 : decode cX3_findsVersionsRight 78 = .ok (.goto 4, 3) := by decide +kernel
theorem dX3_findsVersionsRight_81 : decode cX3_findsVersionsRight 81 = .ok (.iconst 0, 1) := by decide +kernel
theorem dX3_findsVersionsRight_82 : decode cX3_findsVersionsRight 82 = .ok (.ireturn, 1) := by decide +kernel
theorem dX3_findsVersionsRight_83 : decode cX3_findsVersionsRight 83 = .ok (.aload_n 1, 1) := by decide +kernel
theorem dX3_findsVersionsRight_84 : decode cX3_findsVersionsRight 84 = .ok (.invokevirtual 46, 3) := by decide +kernel
theorem dX3_findsVersionsRight_87 : decode cX3_findsVersionsRight 87 = .ok (.aload_n 0, 1) := by decide +kernel
theorem dX3_findsVersionsRight_88 : decode cX3_findsVersionsRight 88 = .ok (.iconst 2, 1) := by decide +kernel
theorem dX3_findsVersionsRight_89 : decode cX3_findsVersionsRight 89 = .ok (.invokevirtual 30, 3) := by decide +kernel
end
section
theorem dX3_findsVersionsRight_92 : decode cX3_findsVersionsRight 92 = .ok (.aload_n 1, 1) := by decide +kernel
theorem dX3_findsVersionsRight_93 : decode cX3_findsVersionsRight 93 = .ok (.invokevirtual 67, 3) := by decide +kernel
theorem dX3_findsVersionsRight_96 : decode cX3_findsVersionsRight 96 = .ok (.invokevirtual 49, 3) := by decide +kernel
theorem dX3_findsVersionsRight_99 : decode cX3_findsVersionsRight 99 = .ok (.if_icmp .ne 7, 3) := by decide +kernel
theorem dX3_findsVersionsRight_102 : decode cX3_findsVersionsRight 102 = .ok (.iconst 1, 1) := by decide +kernel
theorem dX3_findsVersionsRight_103 : decode cX3_findsVersionsRight 103 = .ok (.goto 4, 3) := by decide +kernel
theorem dX3_findsVersionsRight_106 : decode cX3_findsVersionsRight 106 = .ok (.iconst 0, 1) := by decide +kernel
theorem dX3_findsVersionsRight_107 : decode cX3_findsVersionsRight 107 = .ok (.ireturn, 1) := by decide +kernel
set_option maxRecDepth 20000 in
theorem ggX3_isNoOlderStamp_X3_documentOf : GoodIn wsX3_isNoOlderStamp wsX3_documentOf := goodIn_r _ [5, 6, 7, 31, 32, 33] (by decide +kernel) (by decide +kernel)
set_option maxRecDepth 20000 in
theorem gX3_isNoOlderStamp_X3_documentOf : GoodIn wsX3_isNoOlderStamp (wsV RX3 30 RX3 yX3_documentOf wsX3_documentOf) := goodIn_app (goodIn_of _ (by decide +kernel)) ggX3_isNoOlderStamp_X3_documentOf
set_option maxRecDepth 20000 in
theorem ggX3_isNoOlderStamp_X0_isWhole : GoodIn wsX3_isNoOlderStamp wsX0_isWhole := goodIn_r _ [12, 13, 34, 35, 36, 37, 38, 39, 40, 41, 42, 43, 44, 45, 46, 47, 48] (by decide +kernel) (by decide +kernel)
set_option maxRecDepth 20000 in
theorem gX3_isNoOlderStamp_X0_isWhole : GoodIn wsX3_isNoOlderStamp (wsV RX3 34 RX0 yX0_isWhole wsX0_isWhole) := goodIn_app (goodIn_of _ (by decide +kernel)) ggX3_isNoOlderStamp_X0_isWhole
set_option maxRecDepth 20000 in
theorem ggX3_isNoOlderStamp_X0_version : GoodIn wsX3_isNoOlderStamp wsX0_version := goodIn_r _ [17, 18, 34, 35, 36, 37, 38, 39, 40, 41, 42, 43, 44, 45, 46, 47, 48] (by decide +kernel) (by decide +kernel)
set_option maxRecDepth 20000 in
theorem gX3_isNoOlderStamp_X0_version : GoodIn wsX3_isNoOlderStamp (wsV RX3 46 RX0 yX0_version wsX0_version) := goodIn_app (goodIn_of _ (by decide +kernel)) ggX3_isNoOlderStamp_X0_version
set_option maxRecDepth 20000 in
theorem ggX3_isNoOlderStamp_X0_stampedVersion : GoodIn wsX3_isNoOlderStamp wsX0_stampedVersion := goodIn_r _ [22, 23, 24, 25, 26, 27, 28, 29, 30, 34, 35, 36, 37, 38, 39, 40, 41, 42, 43, 44, 45, 46, 47, 48, 49, 50] (by decide +kernel) (by decide +kernel)
set_option maxRecDepth 20000 in
theorem gX3_isNoOlderStamp_X0_stampedVersion : GoodIn wsX3_isNoOlderStamp (wsV RX3 83 RX0 yX0_stampedVersion wsX0_stampedVersion) := goodIn_app (goodIn_of _ (by decide +kernel)) ggX3_isNoOlderStamp_X0_stampedVersion
theorem dX3_isNoOlderStamp_0 : decode cX3_isNoOlderStamp 0 = .ok (.aload_n 0, 1) := by decide +kernel
theorem dX3_isNoOlderStamp_1 : decode cX3_isNoOlderStamp 1 = .ok (.iconst 1, 1) := by decide +kernel
theorem dX3_isNoOlderStamp_2 : decode cX3_isNoOlderStamp 2 = .ok (.invokevirtual 30, 3) := by decide +kernel
theorem dX3_isNoOlderStamp_5 : decode cX3_isNoOlderStamp 5 = .ok (.astore_n 2, 1) := by decide +kernel
theorem dX3_isNoOlderStamp_6 : decode cX3_isNoOlderStamp 6 = .ok (.aload_n 2, 1) := by decide +kernel
theorem dX3_isNoOlderStamp_7 : decode cX3_isNoOlderStamp 7 = .ok (.invokevirtual 34, 3) := by decide +kernel
theorem dX3_isNoOlderStamp_10 : decode cX3_isNoOlderStamp 10 = .ok (.ifCond .eq 25, 3) := by decide +kernel
theorem dX3_isNoOlderStamp_13 : decode cX3_isNoOlderStamp 13 = .ok (.aload_n 1, 1) := by decide +kernel
theorem dX3_isNoOlderStamp_14 : decode cX3_isNoOlderStamp 14 = .ok (.invokevirtual 46, 3) := by decide +kernel
theorem dX3_isNoOlderStamp_17 : decode cX3_isNoOlderStamp 17 = .ok (.aload_n 2, 1) := by decide +kernel
theorem dX3_isNoOlderStamp_18 : decode cX3_isNoOlderStamp 18 = .ok (.invokevirtual 46, 3) := by decide +kernel
theorem dX3_isNoOlderStamp_21 : decode cX3_isNoOlderStamp 21 = .ok (.if_icmp .lt 18, 3) := by decide +kernel
theorem dX3_isNoOlderStamp_24 : decode cX3_isNoOlderStamp 24 = .ok (.aload_n 1, 1) := by decide +kernel
theorem dX3_isNoOlderStamp_25 : decode cX3_isNoOlderStamp 25 = .ok (.invokevirtual 83, 3) := by decide +kernel
theorem dX3_isNoOlderStamp_28 : decode cX3_isNoOlderStamp 28 = .ok (.aload_n 2, 1) := by decide +kernel
theorem dX3_isNoOlderStamp_29 : decode cX3_isNoOlderStamp 29 = .ok (.invokevirtual 83, 3) := by decide +kernel
theorem dX3_isNoOlderStamp_32 : decode cX3_isNoOlderStamp 32 = .ok (.if_icmp .lt 7, 3) := by decide +kernel
theorem dX3_isNoOlderStamp_35 : decode cX3_isNoOlderStamp 35 = .ok (.iconst 1, 1) := by decide +kernel
theorem dX3_isNoOlderStamp_36 : decode cX3_isNoOlderStamp 36 = .ok (.goto 4, 3) := by decide +kernel
theorem dX3_isNoOlderStamp_39 : decode cX3_isNoOlderStamp 39 = .ok (.iconst 0, 1) := by decide +kernel
theorem dX3_isNoOlderStamp_40 : decode cX3_isNoOlderStamp 40 = .ok (.ireturn, 1) := by decide +kernel
set_option maxRecDepth 20000 in
theorem ggX3_isAsStamped_X3_documentOf : GoodIn wsX3_isAsStamped wsX3_documentOf := goodIn_r _ [5, 6, 7, 48, 49, 50] (by decide +kernel) (by decide +kernel)
set_option maxRecDepth 20000 in
theorem gX3_isAsStamped_X3_documentOf : GoodIn wsX3_isAsStamped (wsV RX3 30 RX3 yX3_documentOf wsX3_documentOf) := goodIn_app (goodIn_of _ (by decide +kernel)) ggX3_isAsStamped_X3_documentOf
set_option maxRecDepth 20000 in
theorem ggX3_isAsStamped_X0_version : GoodIn wsX3_isAsStamped wsX0_version := goodIn_r _ [12, 13, 51, 52, 53, 54, 55, 56, 57, 58, 59, 60, 61, 62, 63, 64, 65] (by decide +kernel) (by decide +kernel)
set_option maxRecDepth 20000 in
theorem gX3_isAsStamped_X0_version : GoodIn wsX3_isAsStamped (wsV RX3 46 RX0 yX0_version wsX0_version) := goodIn_app (goodIn_of _ (by decide +kernel)) ggX3_isAsStamped_X0_version
set_option maxRecDepth 20000 in
theorem ggX3_isAsStamped_X0_stampedVersion : GoodIn wsX3_isAsStamped wsX0_stampedVersion := goodIn_r _ [17, 18, 19, 20, 21, 22, 23, 24, 25, 51, 52, 53, 54, 55, 56, 57, 58, 59, 60, 61, 62, 63, 64, 65, 66, 67] (by decide +kernel) (by decide +kernel)
set_option maxRecDepth 20000 in
theorem gX3_isAsStamped_X0_stampedVersion : GoodIn wsX3_isAsStamped (wsV RX3 83 RX0 yX0_stampedVersion wsX0_stampedVersion) := goodIn_app (goodIn_of _ (by decide +kernel)) ggX3_isAsStamped_X0_stampedVersion
set_option maxRecDepth 20000 in
theorem ggX3_isAsStamped_X0_row : GoodIn wsX3_isAsStamped wsX0_row := goodIn_r _ [29, 18, 51, 52, 53, 54, 55, 56, 57, 58, 59, 60, 61, 62, 63, 64, 65] (by decide +kernel) (by decide +kernel)
set_option maxRecDepth 20000 in
theorem gX3_isAsStamped_X0_row : GoodIn wsX3_isAsStamped (wsV RX3 59 RX0 yX0_row wsX0_row) := goodIn_app (goodIn_of _ (by decide +kernel)) ggX3_isAsStamped_X0_row
set_option maxRecDepth 20000 in
theorem ggX3_isAsStamped_X1_wholeDigest : GoodIn wsX3_isAsStamped wsX1_wholeDigest := goodIn_r _ [33, 24, 34, 35, 36, 22, 37, 38, 25, 39, 66, 67] (by decide +kernel) (by decide +kernel)
set_option maxRecDepth 20000 in
theorem gX3_isAsStamped_X1_wholeDigest : GoodIn wsX3_isAsStamped (wsV RX3 86 RX1 yX1_wholeDigest wsX1_wholeDigest) := goodIn_app (goodIn_of _ (by decide +kernel)) ggX3_isAsStamped_X1_wholeDigest
set_option maxRecDepth 20000 in
theorem ggX3_isAsStamped_X0_stampedDigest : GoodIn wsX3_isAsStamped wsX0_stampedDigest := goodIn_r _ [43, 18, 44, 45, 46, 22, 47, 24, 25, 51, 52, 53, 54, 55, 56, 57, 58, 59, 60, 61, 62, 63, 64, 65, 66, 67] (by decide +kernel) (by decide +kernel)
set_option maxRecDepth 20000 in
theorem gX3_isAsStamped_X0_stampedDigest : GoodIn wsX3_isAsStamped (wsV RX3 91 RX0 yX0_stampedDigest wsX0_stampedDigest) := goodIn_app (goodIn_of _ (by decide +kernel)) ggX3_isAsStamped_X0_stampedDigest
theorem dX3_isAsStamped_0 : decode cX3_isAsStamped 0 = .ok (.aload_n 0, 1) := by decide +kernel
theorem dX3_isAsStamped_1 : decode cX3_isAsStamped 1 = .ok (.iconst 1, 1) := by decide +kernel
theorem dX3_isAsStamped_2 : decode cX3_isAsStamped 2 = .ok (.invokevirtual 30, 3) := by decide +kernel
theorem dX3_isAsStamped_5 : decode cX3_isAsStamped 5 = .ok (.astore_n 2, 1) := by decide +kernel
theorem dX3_isAsStamped_6 : decode cX3_isAsStamped 6 = .ok (.aload_n 1, 1) := by decide +kernel
theorem dX3_isAsStamped_7 : decode cX3_isAsStamped 7 = .ok (.invokevirtual 46, 3) := by decide +kernel
theorem dX3_isAsStamped_10 : decode cX3_isAsStamped 10 = .ok (.aload_n 2, 1) := by decide +kernel
theorem dX3_isAsStamped_11 : decode cX3_isAsStamped 11 = .ok (.invokevirtual 83, 3) := by decide +kernel
theorem dX3_isAsStamped_14 : decode cX3_isAsStamped 14 = .ok (.if_icmp .ne 21, 3) := by decide +kernel
theorem dX3_isAsStamped_17 : decode cX3_isAsStamped 17 = .ok (.aload_n 1, 1) := by decide +kernel
theorem dX3_isAsStamped_18 : decode cX3_isAsStamped 18 = .ok (.invokevirtual 59, 3) := by decide +kernel
theorem dX3_isAsStamped_21 : decode cX3_isAsStamped 21 = .ok (.invokevirtual 86, 3) := by decide +kernel
theorem dX3_isAsStamped_24 : decode cX3_isAsStamped 24 = .ok (.aload_n 2, 1) := by decide +kernel
theorem dX3_isAsStamped_25 : decode cX3_isAsStamped 25 = .ok (.invokevirtual 91, 3) := by decide +kernel
theorem dX3_isAsStamped_28 : decode cX3_isAsStamped 28 = .ok (.if_icmp .ne 7, 3) := by decide +kernel
theorem dX3_isAsStamped_31 : decode cX3_isAsStamped 31 = .ok (.iconst 1, 1) := by decide +kernel
theorem dX3_isAsStamped_32 : decode cX3_isAsStamped 32 = .ok (.goto 4, 3) := by decide +kernel
theorem dX3_isAsStamped_35 : decode cX3_isAsStamped 35 = .ok (.iconst 0, 1) := by decide +kernel
theorem dX3_isAsStamped_36 : decode cX3_isAsStamped 36 = .ok (.ireturn, 1) := by decide +kernel
set_option maxRecDepth 20000 in
theorem ggX3_isNoOlderSnapshot_X3_documentOf : GoodIn wsX3_isNoOlderSnapshot wsX3_documentOf := goodIn_r _ [5, 6, 7, 19, 20, 21] (by decide +kernel) (by decide +kernel)
set_option maxRecDepth 20000 in
theorem gX3_isNoOlderSnapshot_X3_documentOf : GoodIn wsX3_isNoOlderSnapshot (wsV RX3 30 RX3 yX3_documentOf wsX3_documentOf) := goodIn_app (goodIn_of _ (by decide +kernel)) ggX3_isNoOlderSnapshot_X3_documentOf
set_option maxRecDepth 20000 in
theorem ggX3_isNoOlderSnapshot_X0_isWhole : GoodIn wsX3_isNoOlderSnapshot wsX0_isWhole := goodIn_r _ [12, 13, 22, 23, 24, 25, 26, 27, 28, 29, 30, 31, 32, 33, 34, 35, 36] (by decide +kernel) (by decide +kernel)
set_option maxRecDepth 20000 in
theorem gX3_isNoOlderSnapshot_X0_isWhole : GoodIn wsX3_isNoOlderSnapshot (wsV RX3 34 RX0 yX0_isWhole wsX0_isWhole) := goodIn_app (goodIn_of _ (by decide +kernel)) ggX3_isNoOlderSnapshot_X0_isWhole
set_option maxRecDepth 20000 in
theorem ggX3_isNoOlderSnapshot_X0_versionFor : GoodIn wsX3_isNoOlderSnapshot wsX0_versionFor := goodIn_r _ [17, 18, 22, 23, 24, 25, 26, 27, 28, 29, 30, 31, 32, 33, 34, 35, 36] (by decide +kernel) (by decide +kernel)
set_option maxRecDepth 20000 in
theorem gX3_isNoOlderSnapshot_X0_versionFor : GoodIn wsX3_isNoOlderSnapshot (wsV RX3 49 RX0 yX0_versionFor wsX0_versionFor) := goodIn_app (goodIn_of _ (by decide +kernel)) ggX3_isNoOlderSnapshot_X0_versionFor
theorem dX3_isNoOlderSnapshot_0 : decode cX3_isNoOlderSnapshot 0 = .ok (.aload_n 0, 1) := by decide +kernel
theorem dX3_isNoOlderSnapshot_1 : decode cX3_isNoOlderSnapshot 1 = .ok (.iconst 2, 1) := by decide +kernel
theorem dX3_isNoOlderSnapshot_2 : decode cX3_isNoOlderSnapshot 2 = .ok (.invokevirtual 30, 3) := by decide +kernel
theorem dX3_isNoOlderSnapshot_5 : decode cX3_isNoOlderSnapshot 5 = .ok (.astore_n 2, 1) := by decide +kernel
theorem dX3_isNoOlderSnapshot_6 : decode cX3_isNoOlderSnapshot 6 = .ok (.aload_n 2, 1) := by decide +kernel
theorem dX3_isNoOlderSnapshot_7 : decode cX3_isNoOlderSnapshot 7 = .ok (.invokevirtual 34, 3) := by decide +kernel
theorem dX3_isNoOlderSnapshot_10 : decode cX3_isNoOlderSnapshot 10 = .ok (.ifCond .ne 5, 3) := by decide +kernel
theorem dX3_isNoOlderSnapshot_13 : decode cX3_isNoOlderSnapshot 13 = .ok (.iconst 1, 1) := by decide +kernel
theorem dX3_isNoOlderSnapshot_14 : decode cX3_isNoOlderSnapshot 14 = .ok (.ireturn, 1) := by decide +kernel
theorem dX3_isNoOlderSnapshot_15 : decode cX3_isNoOlderSnapshot 15 = .ok (.iconst 3, 1) := by decide +kernel
theorem dX3_isNoOlderSnapshot_16 : decode cX3_isNoOlderSnapshot 16 = .ok (.istore_n 3, 1) := by decide +kernel
theorem dX3_isNoOlderSnapshot_17 : decode cX3_isNoOlderSnapshot 17 = .ok (.iload_n 3, 1) := by decide +kernel
theorem dX3_isNoOlderSnapshot_18 : decode cX3_isNoOlderSnapshot 18 = .ok (.bipush 6, 2) := by decide +kernel
theorem dX3_isNoOlderSnapshot_20 : decode cX3_isNoOlderSnapshot 20 = .ok (.if_icmp .gt 24, 3) := by decide +kernel
theorem dX3_isNoOlderSnapshot_23 : decode cX3_isNoOlderSnapshot 23 = .ok (.aload_n 1, 1) := by decide +kernel
theorem dX3_isNoOlderSnapshot_24 : decode cX3_isNoOlderSnapshot 24 = .ok (.iload_n 3, 1) := by decide +kernel
theorem dX3_isNoOlderSnapshot_25 : decode cX3_isNoOlderSnapshot 25 = .ok (.invokevirtual 49, 3) := by decide +kernel
theorem dX3_isNoOlderSnapshot_28 : decode cX3_isNoOlderSnapshot 28 = .ok (.aload_n 2, 1) := by decide +kernel
theorem dX3_isNoOlderSnapshot_29 : decode cX3_isNoOlderSnapshot 29 = .ok (.iload_n 3, 1) := by decide +kernel
theorem dX3_isNoOlderSnapshot_30 : decode cX3_isNoOlderSnapshot 30 = .ok (.invokevirtual 49, 3) := by decide +kernel
theorem dX3_isNoOlderSnapshot_33 : decode cX3_isNoOlderSnapshot 33 = .ok (.if_icmp .ge 5, 3) := by decide +kernel
theorem dX3_isNoOlderSnapshot_36 : decode cX3_isNoOlderSnapshot 36 = .ok (.iconst 0, 1) := by decide +kernel
theorem dX3_isNoOlderSnapshot_37 : decode cX3_isNoOlderSnapshot 37 = .ok (.ireturn, 1) := by decide +kernel
theorem dX3_isNoOlderSnapshot_38 : decode cX3_isNoOlderSnapshot 38 = .ok (.iinc 3 1, 3) := by decide +kernel
theorem dX3_isNoOlderSnapshot_41 : decode cX3_isNoOlderSnapshot 41 = .ok (.goto (-24), 3) := by decide +kernel
theorem dX3_isNoOlderSnapshot_44 : decode cX3_isNoOlderSnapshot 44 = .ok (.iconst 1, 1) := by decide +kernel
theorem dX3_isNoOlderSnapshot_45 : decode cX3_isNoOlderSnapshot 45 = .ok (.ireturn, 1) := by decide +kernel
set_option maxRecDepth 20000 in
theorem ggX3_take_X0_role : GoodIn wsX3_take wsX0_role := goodIn_r _ [5, 6, 116, 117, 118, 119, 120, 121, 122, 123, 124, 125, 126, 127, 128, 129, 130] (by decide +kernel) (by decide +kernel)
set_option maxRecDepth 20000 in
theorem gX3_take_X0_role : GoodIn wsX3_take (wsV RX3 67 RX0 yX0_role wsX0_role) := goodIn_app (goodIn_of _ (by decide +kernel)) ggX3_take_X0_role
set_option maxRecDepth 20000 in
theorem ggX3_take_X3_changesOnlineKeys : GoodIn wsX3_take wsX3_changesOnlineKeys := goodIn_r _ [11, 12, 13, 14, 10, 15, 16, 17, 18, 19, 20, 4, 21, 22, 23, 24, 25, 26, 27, 28, 29, 30, 31, 32, 33, 34, 35, 131, 132, 133, 116, 117, 118, 119, 120, 121, 122, 123, 124, 125, 126, 127, 128, 129, 130, 134, 135] (by decide +kernel) (by decide +kernel)
set_option maxRecDepth 20000 in
theorem gX3_take_X3_changesOnlineKeys : GoodIn wsX3_take (wsV RX3 94 RX3 yX3_changesOnlineKeys wsX3_changesOnlineKeys) := goodIn_app (goodIn_of _ (by decide +kernel)) ggX3_take_X3_changesOnlineKeys
set_option maxRecDepth 20000 in
theorem ggX3_take_X3_documentOf : GoodIn wsX3_take wsX3_documentOf := goodIn_r _ [15, 16, 17, 131, 132, 133] (by decide +kernel) (by decide +kernel)
set_option maxRecDepth 20000 in
theorem gX3_take_X3_documentOf : GoodIn wsX3_take (wsV RX3 30 RX3 yX3_documentOf wsX3_documentOf) := goodIn_app (goodIn_of _ (by decide +kernel)) ggX3_take_X3_documentOf
set_option maxRecDepth 20000 in
theorem ggX3_take_X0_clear : GoodIn wsX3_take wsX0_clear := goodIn_r _ [39, 40, 116, 117, 118, 119, 120, 121, 122, 123, 124, 125, 126, 127, 128, 129, 130] (by decide +kernel) (by decide +kernel)
set_option maxRecDepth 20000 in
theorem gX3_take_X0_clear : GoodIn wsX3_take (wsV RX3 56 RX0 yX0_clear wsX0_clear) := goodIn_app (goodIn_of _ (by decide +kernel)) ggX3_take_X0_clear
set_option maxRecDepth 20000 in
theorem ggX3_take_X0_row : GoodIn wsX3_take wsX0_row := goodIn_r _ [44, 23, 116, 117, 118, 119, 120, 121, 122, 123, 124, 125, 126, 127, 128, 129, 130] (by decide +kernel) (by decide +kernel)
set_option maxRecDepth 20000 in
theorem gX3_take_X0_row : GoodIn wsX3_take (wsV RX3 59 RX0 yX0_row wsX0_row) := goodIn_app (goodIn_of _ (by decide +kernel)) ggX3_take_X0_row
set_option maxRecDepth 20000 in
theorem ggX3_take_X0_read : GoodIn wsX3_take wsX0_read := goodIn_r _ [48, 23, 49, 50, 51, 52, 40, 53, 54, 55, 27, 56, 29, 30, 57, 58, 59, 60, 61, 62, 63, 4, 64, 6, 65, 66, 67, 68, 69, 70, 24, 25, 26, 28, 71, 72, 73, 74, 22, 75, 76, 77, 78, 79, 80, 81, 82, 83, 84, 85, 86, 87, 88, 89, 90, 91, 92, 93, 94, 95, 96, 97, 98, 99, 100, 101, 31, 32, 33, 34, 35, 102, 103, 104, 105, 106, 107, 108, 109, 110, 111, 112, 113, 114, 115, 116, 117, 118, 119, 120, 121, 122, 123, 124, 125, 126, 127, 128, 129, 130, 134, 135] (by decide +kernel) (by decide +kernel)
set_option maxRecDepth 20000 in
theorem gX3_take_X0_read : GoodIn wsX3_take (wsV RX3 63 RX0 yX0_read wsX0_read) := goodIn_app (goodIn_of _ (by decide +kernel)) ggX3_take_X0_read
theorem dX3_take_0 : decode cX3_take 0 = .ok (.aload_n 1, 1) := by decide +kernel
theorem dX3_take_1 : decode cX3_take 1 = .ok (.invokevirtual 67, 3) := by decide +kernel
theorem dX3_take_4 : decode cX3_take 4 = .ok (.ifCond .ne 27, 3) := by decide +kernel
theorem dX3_take_7 : decode cX3_take 7 = .ok (.aload_n 0, 1) := by decide +kernel
theorem dX3_take_8 : decode cX3_take 8 = .ok (.aload_n 1, 1) := by decide +kernel
theorem dX3_take_9 : decode cX3_take 9 = .ok (.invokevirtual 94, 3) := by decide +kernel
theorem dX3_take_12 : decode cX3_take 12 = .ok (.ifCond .eq 19, 3) := by decide +kernel
theorem dX3_take_15 : decode cX3_take 15 = .ok (.aload_n 0, 1) := by decide +kernel
theorem dX3_take_16 : decode cX3_take 16 = .ok (.iconst 1, 1) := by decide +kernel
theorem dX3_take_17 : decode cX3_take 17 = .ok (.invokevirtual 30, 3) := by decide +kernel
theorem dX3_take_20 : decode cX3_take 20 = .ok (.invokevirtual 56, 3) := by decide +kernel
theorem dX3_take_23 : decode cX3_take 23 = .ok (.aload_n 0, 1) := by decide +kernel
theorem dX3_take_24 : decode cX3_take 24 = .ok (.iconst 2, 1) := by decide +kernel
theorem dX3_take_25 : decode cX3_take 25 = .ok (.invokevirtual 30, 3) := by decide +kernel
theorem dX3_take_28 : decode cX3_take 28 = .ok (.invokevirtual 56, 3) := by decide +kernel
theorem dX3_take_31 : decode cX3_take 31 = .ok (.aload_n 0, 1) := by decide +kernel
theorem dX3_take_32 : decode cX3_take 32 = .ok (.aload_n 1, 1) := by decide +kernel
theorem dX3_take_33 : decode cX3_take 33 = .ok (.invokevirtual 67, 3) := by decide +kernel
theorem dX3_take_36 : decode cX3_take 36 = .ok (.invokevirtual 30, 3) := by decide +kernel
theorem dX3_take_39 : decode cX3_take 39 = .ok (.aload_n 1, 1) := by decide +kernel
theorem dX3_take_40 : decode cX3_take 40 = .ok (.invokevirtual 59, 3) := by decide +kernel
theorem dX3_take_43 : decode cX3_take 43 = .ok (.invokevirtual 63, 3) := by decide +kernel
theorem dX3_take_46 : decode cX3_take 46 = .ok (.return_, 1) := by decide +kernel
set_option maxRecDepth 20000 in
theorem ggX3_changesOnlineKeys_X3_documentOf : GoodIn wsX3_changesOnlineKeys wsX3_documentOf := goodIn_r _ [5, 6, 7, 27, 28, 29] (by decide +kernel) (by decide +kernel)
set_option maxRecDepth 20000 in
theorem gX3_changesOnlineKeys_X3_documentOf : GoodIn wsX3_changesOnlineKeys (wsV RX3 30 RX3 yX3_documentOf wsX3_documentOf) := goodIn_app (goodIn_of _ (by decide +kernel)) ggX3_changesOnlineKeys_X3_documentOf
set_option maxRecDepth 20000 in
theorem ggX3_changesOnlineKeys_X0_hasKeySetOf : GoodIn wsX3_changesOnlineKeys wsX0_hasKeySetOf := goodIn_r _ [12, 13, 14, 15, 16, 17, 18, 19, 20, 21, 22, 23, 24, 25, 26, 30, 31, 32, 33, 34, 35, 36, 37, 38, 39, 40, 41, 42, 43, 44, 45, 46] (by decide +kernel) (by decide +kernel)
set_option maxRecDepth 20000 in
theorem gX3_changesOnlineKeys_X0_hasKeySetOf : GoodIn wsX3_changesOnlineKeys (wsV RX3 97 RX0 yX0_hasKeySetOf wsX0_hasKeySetOf) := goodIn_app (goodIn_of _ (by decide +kernel)) ggX3_changesOnlineKeys_X0_hasKeySetOf
theorem dX3_changesOnlineKeys_0 : decode cX3_changesOnlineKeys 0 = .ok (.aload_n 0, 1) := by decide +kernel
theorem dX3_changesOnlineKeys_1 : decode cX3_changesOnlineKeys 1 = .ok (.iconst 0, 1) := by decide +kernel
theorem dX3_changesOnlineKeys_2 : decode cX3_changesOnlineKeys 2 = .ok (.invokevirtual 30, 3) := by decide +kernel
theorem dX3_changesOnlineKeys_5 : decode cX3_changesOnlineKeys 5 = .ok (.astore_n 2, 1) := by decide +kernel
theorem dX3_changesOnlineKeys_6 : decode cX3_changesOnlineKeys 6 = .ok (.aload_n 2, 1) := by decide +kernel
theorem dX3_changesOnlineKeys_7 : decode cX3_changesOnlineKeys 7 = .ok (.aload_n 1, 1) := by decide +kernel
theorem dX3_changesOnlineKeys_8 : decode cX3_changesOnlineKeys 8 = .ok (.iconst 1, 1) := by decide +kernel
theorem dX3_changesOnlineKeys_9 : decode cX3_changesOnlineKeys 9 = .ok (.invokevirtual 97, 3) := by decide +kernel
theorem dX3_changesOnlineKeys_12 : decode cX3_changesOnlineKeys 12 = .ok (.ifCond .eq 12, 3) := by decide +kernel
theorem dX3_changesOnlineKeys_15 : decode cX3_changesOnlineKeys 15 = .ok (.aload_n 2, 1) := by decide +kernel
theorem dX3_changesOnlineKeys_16 : decode cX3_changesOnlineKeys 16 = .ok (.aload_n 1, 1) := by decide +kernel
theorem dX3_changesOnlineKeys_17 : decode cX3_changesOnlineKeys 17 = .ok (.iconst 2, 1) := by decide +kernel
theorem dX3_changesOnlineKeys_18 : decode cX3_changesOnlineKeys 18 = .ok (.invokevirtual 97, 3) := by decide +kernel
theorem dX3_changesOnlineKeys_21 : decode cX3_changesOnlineKeys 21 = .ok (.ifCond .ne 7, 3) := by decide +kernel
theorem dX3_changesOnlineKeys_24 : decode cX3_changesOnlineKeys 24 = .ok (.iconst 1, 1) := by decide +kernel
theorem dX3_changesOnlineKeys_25 : decode cX3_changesOnlineKeys 25 = .ok (.goto 4, 3) := by decide +kernel
theorem dX3_changesOnlineKeys_28 : decode cX3_changesOnlineKeys 28 = .ok (.iconst 0, 1) := by decide +kernel
theorem dX3_changesOnlineKeys_29 : decode cX3_changesOnlineKeys 29 = .ok (.ireturn, 1) := by decide +kernel
set_option maxRecDepth 20000 in
theorem ggX4_init_X1_init : GoodIn wsX4_init wsX1_init := goodIn_r _ [23, 24, 2, 3, 25, 26, 54, 55] (by decide +kernel) (by decide +kernel)
set_option maxRecDepth 20000 in
theorem gX4_init_X1_init : GoodIn wsX4_init (wsX1_init) := ggX4_init_X1_init
set_option maxRecDepth 20000 in
theorem ggX4_init_X0_init : GoodIn wsX4_init wsX0_init := goodIn_r _ [29, 30, 2, 3, 31, 5, 6, 32, 25, 33, 34, 35, 36, 37, 22, 23, 24, 26, 54, 55, 63, 64, 65, 66, 67, 68, 69, 70, 71, 72, 73, 74, 75, 76, 77] (by decide +kernel) (by decide +kernel)
set_option maxRecDepth 20000 in
theorem gX4_init_X0_init : GoodIn wsX4_init (wsX0_init) := ggX4_init_X0_init
set_option maxRecDepth 20000 in
theorem ggX4_init_X3_init : GoodIn wsX4_init wsX3_init := goodIn_r _ [40, 41, 2, 3, 42, 10, 11, 43, 44, 45, 28, 29, 30, 31, 5, 6, 32, 25, 33, 34, 35, 36, 37, 22, 23, 24, 26, 63, 64, 65, 66, 67, 68, 69, 70, 71, 72, 73, 74, 75, 76, 77, 78, 79, 80, 54, 55] (by decide +kernel) (by decide +kernel)
set_option maxRecDepth 20000 in
theorem gX4_init_X3_init : GoodIn wsX4_init (wsX3_init) := ggX4_init_X3_init
set_option maxRecDepth 20000 in
theorem ggX4_init_X2_init : GoodIn wsX4_init wsX2_init := goodIn_r _ [48, 49, 2, 3, 50, 51, 5, 6, 52, 53, 22, 23, 24, 25, 26, 81, 82, 83, 84, 85, 86, 87, 54, 55] (by decide +kernel) (by decide +kernel)
set_option maxRecDepth 20000 in
theorem gX4_init_X2_init : GoodIn wsX4_init (wsX2_init) := ggX4_init_X2_init
theorem dX4_init_0 : decode cX4_init 0 = .ok (.aload_n 0, 1) := by decide +kernel
theorem dX4_init_1 : decode cX4_init 1 = .ok (.invokespecial 3, 3) := by decide +kernel
theorem dX4_init_4 : decode cX4_init 4 = .ok (.aload_n 0, 1) := by decide +kernel
theorem dX4_init_5 : decode cX4_init 5 = .ok (.new 9, 3) := by decide +kernel
theorem dX4_init_8 : decode cX4_init 8 = .ok (.dup, 1) := by decide +kernel
theorem dX4_init_9 : decode cX4_init 9 = .ok (.bipush 120, 2) := by decide +kernel
theorem dX4_init_11 : decode cX4_init 11 = .ok (.invokespecial 11, 3) := by decide +kernel
theorem dX4_init_14 : decode cX4_init 14 = .ok (.putfield 14, 3) := by decide +kernel
theorem dX4_init_17 : decode cX4_init 17 = .ok (.aload_n 0, 1) := by decide +kernel
theorem dX4_init_18 : decode cX4_init 18 = .ok (.new 9, 3) := by decide +kernel
theorem dX4_init_21 : decode cX4_init 21 = .ok (.dup, 1) := by decide +kernel
theorem dX4_init_22 : decode cX4_init 22 = .ok (.bipush 120, 2) := by decide +kernel
theorem dX4_init_24 : decode cX4_init 24 = .ok (.invokespecial 11, 3) := by decide +kernel
theorem dX4_init_27 : decode cX4_init 27 = .ok (.putfield 18, 3) := by decide +kernel
theorem dX4_init_30 : decode cX4_init 30 = .ok (.aload_n 0, 1) := by decide +kernel
theorem dX4_init_31 : decode cX4_init 31 = .ok (.new 21, 3) := by decide +kernel
theorem dX4_init_34 : decode cX4_init 34 = .ok (.dup, 1) := by decide +kernel
theorem dX4_init_35 : decode cX4_init 35 = .ok (.invokespecial 23, 3) := by decide +kernel
theorem dX4_init_38 : decode cX4_init 38 = .ok (.putfield 24, 3) := by decide +kernel
theorem dX4_init_41 : decode cX4_init 41 = .ok (.aload_n 0, 1) := by decide +kernel
theorem dX4_init_42 : decode cX4_init 42 = .ok (.new 28, 3) := by decide +kernel
theorem dX4_init_45 : decode cX4_init 45 = .ok (.dup, 1) := by decide +kernel
theorem dX4_init_46 : decode cX4_init 46 = .ok (.invokespecial 30, 3) := by decide +kernel
theorem dX4_init_49 : decode cX4_init 49 = .ok (.putfield 31, 3) := by decide +kernel
theorem dX4_init_52 : decode cX4_init 52 = .ok (.aload_n 0, 1) := by decide +kernel
theorem dX4_init_53 : decode cX4_init 53 = .ok (.new 35, 3) := by decide +kernel
theorem dX4_init_56 : decode cX4_init 56 = .ok (.dup, 1) := by decide +kernel
theorem dX4_init_57 : decode cX4_init 57 = .ok (.aload_n 0, 1) := by decide +kernel
theorem dX4_init_58 : decode cX4_init 58 = .ok (.getfield 31, 3) := by decide +kernel
theorem dX4_init_61 : decode cX4_init 61 = .ok (.invokespecial 37, 3) := by decide +kernel
theorem dX4_init_64 : decode cX4_init 64 = .ok (.putfield 40, 3) := by decide +kernel
theorem dX4_init_67 : decode cX4_init 67 = .ok (.return_, 1) := by decide +kernel
set_option maxRecDepth 20000 in
theorem ggX4_put_X1_hasRoomFor : GoodIn wsX4_put wsX1_hasRoomFor := goodIn_r _ [6, 7, 8, 24, 25] (by decide +kernel) (by decide +kernel)
set_option maxRecDepth 20000 in
theorem gX4_put_X1_hasRoomFor : GoodIn wsX4_put (wsV RX4 44 RX1 yX1_hasRoomFor wsX1_hasRoomFor) := goodIn_app (goodIn_of _ (by decide +kernel)) ggX4_put_X1_hasRoomFor
set_option maxRecDepth 20000 in
theorem ggX4_put_X1_appendLowest : GoodIn wsX4_put wsX1_appendLowest := goodIn_r _ [12, 13, 14, 15, 5, 16, 8, 7, 24, 25] (by decide +kernel) (by decide +kernel)
set_option maxRecDepth 20000 in
theorem gX4_put_X1_appendLowest : GoodIn wsX4_put (wsV RX4 48 RX1 yX1_appendLowest wsX1_appendLowest) := goodIn_app (goodIn_of _ (by decide +kernel)) ggX4_put_X1_appendLowest
theorem dX4_put_0 : decode cX4_put 0 = .ok (.iload_n 3, 1) := by decide +kernel
theorem dX4_put_1 : decode cX4_put 1 = .ok (.iconst 1, 1) := by decide +kernel
theorem dX4_put_2 : decode cX4_put 2 = .ok (.if_icmp .lt 20, 3) := by decide +kernel
theorem dX4_put_5 : decode cX4_put 5 = .ok (.iload_n 3, 1) := by decide +kernel
theorem dX4_put_6 : decode cX4_put 6 = .ok (.bipush 8, 2) := by decide +kernel
theorem dX4_put_8 : decode cX4_put 8 = .ok (.if_icmp .gt 14, 3) := by decide +kernel
theorem dX4_put_11 : decode cX4_put 11 = .ok (.aload_n 0, 1) := by decide +kernel
theorem dX4_put_12 : decode cX4_put 12 = .ok (.getfield 14, 3) := by decide +kernel
theorem dX4_put_15 : decode cX4_put 15 = .ok (.iload_n 3, 1) := by decide +kernel
theorem dX4_put_16 : decode cX4_put 16 = .ok (.invokevirtual 44, 3) := by decide +kernel
theorem dX4_put_19 : decode cX4_put 19 = .ok (.ifCond .ne 5, 3) := by decide +kernel
theorem dX4_put_22 : decode cX4_put 22 = .ok (.iconst 0, 1) := by decide +kernel
theorem dX4_put_23 : decode cX4_put 23 = .ok (.ireturn, 1) := by decide +kernel
theorem dX4_put_24 : decode cX4_put 24 = .ok (.aload_n 0, 1) := by decide +kernel
theorem dX4_put_25 : decode cX4_put 25 = .ok (.getfield 14, 3) := by decide +kernel
theorem dX4_put_28 : decode cX4_put 28 = .ok (.lload_n 1, 1) := by decide +kernel
theorem dX4_put_29 : decode cX4_put 29 = .ok (.iload_n 3, 1) := by decide +kernel
theorem dX4_put_30 : decode cX4_put 30 = .ok (.invokevirtual 48, 3) := by decide +kernel
theorem dX4_put_33 : decode cX4_put 33 = .ok (.iconst 1, 1) := by decide +kernel
theorem dX4_put_34 : decode cX4_put 34 = .ok (.ireturn, 1) := by decide +kernel
set_option maxRecDepth 20000 in
theorem ggX4_cut_X1_size : GoodIn wsX4_cut wsX1_size := goodIn_r _ [6, 7, 19, 20] (by decide +kernel) (by decide +kernel)
set_option maxRecDepth 20000 in
theorem gX4_cut_X1_size : GoodIn wsX4_cut (wsV RX4 52 RX1 yX1_size wsX1_size) := goodIn_app (goodIn_of _ (by decide +kernel)) ggX4_cut_X1_size
set_option maxRecDepth 20000 in
theorem ggX4_cut_X1_keepFirst : GoodIn wsX4_cut wsX1_keepFirst := goodIn_r _ [11, 7, 19, 20] (by decide +kernel) (by decide +kernel)
set_option maxRecDepth 20000 in
theorem gX4_cut_X1_keepFirst : GoodIn wsX4_cut (wsV RX4 56 RX1 yX1_keepFirst wsX1_keepFirst) := goodIn_app (goodIn_of _ (by decide +kernel)) ggX4_cut_X1_keepFirst
theorem dX4_cut_0 : decode cX4_cut 0 = .ok (.iload_n 1, 1) := by decide +kernel
theorem dX4_cut_1 : decode cX4_cut 1 = .ok (.ifCond .lt 14, 3) := by decide +kernel
theorem dX4_cut_4 : decode cX4_cut 4 = .ok (.iload_n 1, 1) := by decide +kernel
theorem dX4_cut_5 : decode cX4_cut 5 = .ok (.aload_n 0, 1) := by decide +kernel
theorem dX4_cut_6 : decode cX4_cut 6 = .ok (.getfield 14, 3) := by decide +kernel
theorem dX4_cut_9 : decode cX4_cut 9 = .ok (.invokevirtual 52, 3) := by decide +kernel
theorem dX4_cut_12 : decode cX4_cut 12 = .ok (.if_icmp .le 5, 3) := by decide +kernel
theorem dX4_cut_15 : decode cX4_cut 15 = .ok (.iconst 0, 1) := by decide +kernel
theorem dX4_cut_16 : decode cX4_cut 16 = .ok (.ireturn, 1) := by decide +kernel
theorem dX4_cut_17 : decode cX4_cut 17 = .ok (.aload_n 0, 1) := by decide +kernel
theorem dX4_cut_18 : decode cX4_cut 18 = .ok (.getfield 14, 3) := by decide +kernel
theorem dX4_cut_21 : decode cX4_cut 21 = .ok (.iload_n 1, 1) := by decide +kernel
theorem dX4_cut_22 : decode cX4_cut 22 = .ok (.invokevirtual 56, 3) := by decide +kernel
theorem dX4_cut_25 : decode cX4_cut 25 = .ok (.iconst 1, 1) := by decide +kernel
theorem dX4_cut_26 : decode cX4_cut 26 = .ok (.ireturn, 1) := by decide +kernel
set_option maxRecDepth 20000 in
theorem ggX4_alter_X1_has : GoodIn wsX4_alter wsX1_has := goodIn_r _ [6, 7, 20, 21] (by decide +kernel) (by decide +kernel)
set_option maxRecDepth 20000 in
theorem gX4_alter_X1_has : GoodIn wsX4_alter (wsV RX4 59 RX1 yX1_has wsX1_has) := goodIn_app (goodIn_of _ (by decide +kernel)) ggX4_alter_X1_has
set_option maxRecDepth 20000 in
theorem ggX4_alter_X1_replace : GoodIn wsX4_alter wsX1_replace := goodIn_r _ [11, 7, 12, 20, 21] (by decide +kernel) (by decide +kernel)
set_option maxRecDepth 20000 in
theorem gX4_alter_X1_replace : GoodIn wsX4_alter (wsV RX4 62 RX1 yX1_replace wsX1_replace) := goodIn_app (goodIn_of _ (by decide +kernel)) ggX4_alter_X1_replace
theorem dX4_alter_0 : decode cX4_alter 0 = .ok (.aload_n 0, 1) := by decide +kernel
theorem dX4_alter_1 : decode cX4_alter 1 = .ok (.getfield 14, 3) := by decide +kernel
theorem dX4_alter_4 : decode cX4_alter 4 = .ok (.iload_n 1, 1) := by decide +kernel
theorem dX4_alter_5 : decode cX4_alter 5 = .ok (.invokevirtual 59, 3) := by decide +kernel
theorem dX4_alter_8 : decode cX4_alter 8 = .ok (.ifCond .ne 5, 3) := by decide +kernel
theorem dX4_alter_11 : decode cX4_alter 11 = .ok (.iconst 0, 1) := by decide +kernel
theorem dX4_alter_12 : decode cX4_alter 12 = .ok (.ireturn, 1) := by decide +kernel
theorem dX4_alter_13 : decode cX4_alter 13 = .ok (.aload_n 0, 1) := by decide +kernel
theorem dX4_alter_14 : decode cX4_alter 14 = .ok (.getfield 14, 3) := by decide +kernel
theorem dX4_alter_17 : decode cX4_alter 17 = .ok (.iload_n 1, 1) := by decide +kernel
theorem dX4_alter_18 : decode cX4_alter 18 = .ok (.iload_n 2, 1) := by decide +kernel
theorem dX4_alter_19 : decode cX4_alter 19 = .ok (.invokevirtual 62, 3) := by decide +kernel
theorem dX4_alter_22 : decode cX4_alter 22 = .ok (.iconst 1, 1) := by decide +kernel
theorem dX4_alter_23 : decode cX4_alter 23 = .ok (.ireturn, 1) := by decide +kernel
set_option maxRecDepth 20000 in
theorem ggX4_length_X1_size : GoodIn wsX4_length wsX1_size := goodIn_r _ [6, 7, 15, 16] (by decide +kernel) (by decide +kernel)
set_option maxRecDepth 20000 in
theorem gX4_length_X1_size : GoodIn wsX4_length (wsV RX4 52 RX1 yX1_size wsX1_size) := goodIn_app (goodIn_of _ (by decide +kernel)) ggX4_length_X1_size
theorem dX4_length_0 : decode cX4_length 0 = .ok (.aload_n 0, 1) := by decide +kernel
theorem dX4_length_1 : decode cX4_length 1 = .ok (.getfield 14, 3) := by decide +kernel
theorem dX4_length_4 : decode cX4_length 4 = .ok (.invokevirtual 52, 3) := by decide +kernel
theorem dX4_length_7 : decode cX4_length 7 = .ok (.ireturn, 1) := by decide +kernel
set_option maxRecDepth 20000 in
theorem ggX4_at_X1_has : GoodIn wsX4_at wsX1_has := goodIn_r _ [8, 9, 22, 23] (by decide +kernel) (by decide +kernel)
set_option maxRecDepth 20000 in
theorem gX4_at_X1_has : GoodIn wsX4_at (wsV RX4 59 RX1 yX1_has wsX1_has) := goodIn_app (goodIn_of _ (by decide +kernel)) ggX4_at_X1_has
set_option maxRecDepth 20000 in
theorem ggX4_at_X1_byteAt : GoodIn wsX4_at wsX1_byteAt := goodIn_r _ [13, 9, 14, 22, 23] (by decide +kernel) (by decide +kernel)
set_option maxRecDepth 20000 in
theorem gX4_at_X1_byteAt : GoodIn wsX4_at (wsV RX4 69 RX1 yX1_byteAt wsX1_byteAt) := goodIn_app (goodIn_of _ (by decide +kernel)) ggX4_at_X1_byteAt
theorem dX4_at_0 : decode cX4_at 0 = .ok (.aload_n 0, 1) := by decide +kernel
theorem dX4_at_1 : decode cX4_at 1 = .ok (.getfield 14, 3) := by decide +kernel
theorem dX4_at_4 : decode cX4_at 4 = .ok (.iload_n 1, 1) := by decide +kernel
theorem dX4_at_5 : decode cX4_at 5 = .ok (.invokevirtual 59, 3) := by decide +kernel
theorem dX4_at_8 : decode cX4_at 8 = .ok (.ifCond .ne 11, 3) := by decide +kernel
theorem dX4_at_11 : decode cX4_at 11 = .ok (.new 66, 3) := by decide +kernel
theorem dX4_at_14 : decode cX4_at 14 = .ok (.dup, 1) := by decide +kernel
theorem dX4_at_15 : decode cX4_at 15 = .ok (.invokespecial 68, 3) := by decide +kernel
theorem dX4_at_18 : decode cX4_at 18 = .ok (.athrow, 1) := by decide +kernel
theorem dX4_at_19 : decode cX4_at 19 = .ok (.aload_n 0, 1) := by decide +kernel
theorem dX4_at_20 : decode cX4_at 20 = .ok (.getfield 14, 3) := by decide +kernel
theorem dX4_at_23 : decode cX4_at 23 = .ok (.iload_n 1, 1) := by decide +kernel
theorem dX4_at_24 : decode cX4_at 24 = .ok (.invokevirtual 69, 3) := by decide +kernel
theorem dX4_at_27 : decode cX4_at 27 = .ok (.ireturn, 1) := by decide +kernel
set_option maxRecDepth 20000 in
theorem ggX4_mix_X1_size : GoodIn wsX4_mix wsX1_size := goodIn_r _ [6, 7, 22, 23] (by decide +kernel) (by decide +kernel)
set_option maxRecDepth 20000 in
theorem gX4_mix_X1_size : GoodIn wsX4_mix (wsV RX4 52 RX1 yX1_size wsX1_size) := goodIn_app (goodIn_of _ (by decide +kernel)) ggX4_mix_X1_size
set_option maxRecDepth 20000 in
theorem ggX4_mix_X1_mixOfFirst : GoodIn wsX4_mix wsX1_mixOfFirst := goodIn_r _ [11, 12, 7, 13, 14, 22, 23] (by decide +kernel) (by decide +kernel)
set_option maxRecDepth 20000 in
theorem gX4_mix_X1_mixOfFirst : GoodIn wsX4_mix (wsV RX4 73 RX1 yX1_mixOfFirst wsX1_mixOfFirst) := goodIn_app (goodIn_of _ (by decide +kernel)) ggX4_mix_X1_mixOfFirst
theorem dX4_mix_0 : decode cX4_mix 0 = .ok (.aload_n 0, 1) := by decide +kernel
theorem dX4_mix_1 : decode cX4_mix 1 = .ok (.getfield 14, 3) := by decide +kernel
theorem dX4_mix_4 : decode cX4_mix 4 = .ok (.aload_n 0, 1) := by decide +kernel
theorem dX4_mix_5 : decode cX4_mix 5 = .ok (.getfield 14, 3) := by decide +kernel
theorem dX4_mix_8 : decode cX4_mix 8 = .ok (.invokevirtual 52, 3) := by decide +kernel
theorem dX4_mix_11 : decode cX4_mix 11 = .ok (.iload_n 1, 1) := by decide +kernel
theorem dX4_mix_12 : decode cX4_mix 12 = .ok (.invokevirtual 73, 3) := by decide +kernel
theorem dX4_mix_15 : decode cX4_mix 15 = .ok (.ireturn, 1) := by decide +kernel
set_option maxRecDepth 20000 in
theorem ggX4_digest_X1_hasRoomFor : GoodIn wsX4_digest wsX1_hasRoomFor := goodIn_r _ [7, 8, 9, 35, 36] (by decide +kernel) (by decide +kernel)
set_option maxRecDepth 20000 in
theorem gX4_digest_X1_hasRoomFor : GoodIn wsX4_digest (wsV RX4 44 RX1 yX1_hasRoomFor wsX1_hasRoomFor) := goodIn_app (goodIn_of _ (by decide +kernel)) ggX4_digest_X1_hasRoomFor
set_option maxRecDepth 20000 in
theorem ggX4_digest_X1_wholeDigest : GoodIn wsX4_digest wsX1_wholeDigest := goodIn_r _ [13, 9, 14, 15, 16, 6, 17, 18, 8, 19, 35, 36] (by decide +kernel) (by decide +kernel)
set_option maxRecDepth 20000 in
theorem gX4_digest_X1_wholeDigest : GoodIn wsX4_digest (wsV RX4 77 RX1 yX1_wholeDigest wsX1_wholeDigest) := goodIn_app (goodIn_of _ (by decide +kernel)) ggX4_digest_X1_wholeDigest
set_option maxRecDepth 20000 in
theorem ggX4_digest_X1_appendWord : GoodIn wsX4_digest wsX1_appendWord := goodIn_r _ [23, 24, 25, 26, 6, 27, 9, 8, 35, 36] (by decide +kernel) (by decide +kernel)
set_option maxRecDepth 20000 in
theorem gX4_digest_X1_appendWord : GoodIn wsX4_digest (wsV RX4 80 RX1 yX1_appendWord wsX1_appendWord) := goodIn_app (goodIn_of _ (by decide +kernel)) ggX4_digest_X1_appendWord
theorem dX4_digest_0 : decode cX4_digest 0 = .ok (.aload_n 0, 1) := by decide +kernel
theorem dX4_digest_1 : decode cX4_digest 1 = .ok (.getfield 14, 3) := by decide +kernel
theorem dX4_digest_4 : decode cX4_digest 4 = .ok (.iconst 4, 1) := by decide +kernel
theorem dX4_digest_5 : decode cX4_digest 5 = .ok (.invokevirtual 44, 3) := by decide +kernel
theorem dX4_digest_8 : decode cX4_digest 8 = .ok (.ifCond .ne 5, 3) := by decide +kernel
theorem dX4_digest_11 : decode cX4_digest 11 = .ok (.iconst 0, 1) := by decide +kernel
theorem dX4_digest_12 : decode cX4_digest 12 = .ok (.ireturn, 1) := by decide +kernel
theorem dX4_digest_13 : decode cX4_digest 13 = .ok (.aload_n 0, 1) := by decide +kernel
theorem dX4_digest_14 : decode cX4_digest 14 = .ok (.getfield 14, 3) := by decide +kernel
theorem dX4_digest_17 : decode cX4_digest 17 = .ok (.aload_n 0, 1) := by decide +kernel
theorem dX4_digest_18 : decode cX4_digest 18 = .ok (.getfield 18, 3) := by decide +kernel
theorem dX4_digest_21 : decode cX4_digest 21 = .ok (.invokevirtual 77, 3) := by decide +kernel
theorem dX4_digest_24 : decode cX4_digest 24 = .ok (.invokevirtual 80, 3) := by decide +kernel
theorem dX4_digest_27 : decode cX4_digest 27 = .ok (.iconst 1, 1) := by decide +kernel
theorem dX4_digest_28 : decode cX4_digest 28 = .ok (.ireturn, 1) := by decide +kernel
set_option maxRecDepth 20000 in
theorem ggX4_sign_X0_read : GoodIn wsX4_sign wsX0_read := goodIn_r _ [13, 14, 15, 16, 17, 18, 19, 20, 21, 22, 23, 24, 25, 26, 27, 28, 29, 30, 31, 32, 33, 12, 34, 35, 36, 37, 38, 39, 40, 41, 42, 43, 44, 45, 46, 47, 48, 49, 50, 51, 52, 53, 54, 55, 56, 57, 58, 59, 60, 61, 62, 63, 64, 65, 66, 67, 68, 69, 70, 71, 72, 73, 74, 75, 76, 77, 78, 79, 80, 81, 82, 83, 84, 85, 86, 87, 88, 89, 90, 91, 92, 93, 94, 95, 96, 147, 148, 149, 150, 151, 152, 153, 154, 155, 156, 157, 158, 159, 160, 161, 162, 163] (by decide +kernel) (by decide +kernel)
set_option maxRecDepth 20000 in
theorem gX4_sign_X0_read : GoodIn wsX4_sign (wsV RX4 83 RX0 yX0_read wsX0_read) := goodIn_app (goodIn_of _ (by decide +kernel)) ggX4_sign_X0_read
set_option maxRecDepth 20000 in
theorem ggX4_sign_X0_isBare : GoodIn wsX4_sign wsX0_isBare := goodIn_r _ [100, 18, 147, 148, 149, 150, 151, 152, 153, 154, 155, 156, 157, 158, 159, 160, 161] (by decide +kernel) (by decide +kernel)
set_option maxRecDepth 20000 in
theorem gX4_sign_X0_isBare : GoodIn wsX4_sign (wsV RX4 87 RX0 yX0_isBare wsX0_isBare) := goodIn_app (goodIn_of _ (by decide +kernel)) ggX4_sign_X0_isBare
set_option maxRecDepth 20000 in
theorem ggX4_sign_X0_isWhole : GoodIn wsX4_sign wsX0_isWhole := goodIn_r _ [104, 19, 147, 148, 149, 150, 151, 152, 153, 154, 155, 156, 157, 158, 159, 160, 161] (by decide +kernel) (by decide +kernel)
set_option maxRecDepth 20000 in
theorem gX4_sign_X0_isWhole : GoodIn wsX4_sign (wsV RX4 91 RX0 yX0_isWhole wsX0_isWhole) := goodIn_app (goodIn_of _ (by decide +kernel)) ggX4_sign_X0_isWhole
set_option maxRecDepth 20000 in
theorem ggX4_sign_X0_signatureCount : GoodIn wsX4_sign wsX0_signatureCount := goodIn_r _ [108, 14, 17, 42, 43, 44, 23, 45, 25, 26, 147, 148, 149, 150, 151, 152, 153, 154, 155, 156, 157, 158, 159, 160, 161, 162, 163] (by decide +kernel) (by decide +kernel)
set_option maxRecDepth 20000 in
theorem gX4_sign_X0_signatureCount : GoodIn wsX4_sign (wsV RX4 97 RX0 yX0_signatureCount wsX0_signatureCount) := goodIn_app (goodIn_of _ (by decide +kernel)) ggX4_sign_X0_signatureCount
set_option maxRecDepth 20000 in
theorem ggX4_sign_X1_hasRoomFor : GoodIn wsX4_sign wsX1_hasRoomFor := goodIn_r _ [112, 26, 25, 162, 163] (by decide +kernel) (by decide +kernel)
set_option maxRecDepth 20000 in
theorem gX4_sign_X1_hasRoomFor : GoodIn wsX4_sign (wsV RX4 44 RX1 yX1_hasRoomFor wsX1_hasRoomFor) := goodIn_app (goodIn_of _ (by decide +kernel)) ggX4_sign_X1_hasRoomFor
set_option maxRecDepth 20000 in
theorem ggX4_sign_X1_append : GoodIn wsX4_sign wsX1_append := goodIn_r _ [116, 25, 26, 162, 163] (by decide +kernel) (by decide +kernel)
set_option maxRecDepth 20000 in
theorem gX4_sign_X1_append : GoodIn wsX4_sign (wsV RX4 103 RX1 yX1_append wsX1_append) := goodIn_app (goodIn_of _ (by decide +kernel)) ggX4_sign_X1_append
set_option maxRecDepth 20000 in
theorem ggX4_sign_X0_signedSize : GoodIn wsX4_sign wsX0_signedSize := goodIn_r _ [120, 17, 147, 148, 149, 150, 151, 152, 153, 154, 155, 156, 157, 158, 159, 160, 161] (by decide +kernel) (by decide +kernel)
set_option maxRecDepth 20000 in
theorem gX4_sign_X0_signedSize : GoodIn wsX4_sign (wsV RX4 106 RX0 yX0_signedSize wsX0_signedSize) := goodIn_app (goodIn_of _ (by decide +kernel)) ggX4_sign_X0_signedSize
set_option maxRecDepth 20000 in
theorem ggX4_sign_X1_replace : GoodIn wsX4_sign wsX1_replace := goodIn_r _ [124, 25, 26, 162, 163] (by decide +kernel) (by decide +kernel)
set_option maxRecDepth 20000 in
theorem gX4_sign_X1_replace : GoodIn wsX4_sign (wsV RX4 62 RX1 yX1_replace wsX1_replace) := goodIn_app (goodIn_of _ (by decide +kernel)) ggX4_sign_X1_replace
set_option maxRecDepth 20000 in
theorem ggX4_sign_X0_signatureOf : GoodIn wsX4_sign wsX0_signatureOf := goodIn_r _ [128, 14, 17, 129, 130, 131, 23, 132, 133, 25, 26, 134, 147, 148, 149, 150, 151, 152, 153, 154, 155, 156, 157, 158, 159, 160, 161, 162, 163] (by decide +kernel) (by decide +kernel)
set_option maxRecDepth 20000 in
theorem gX4_sign_X0_signatureOf : GoodIn wsX4_sign (wsV RX4 109 RX0 yX0_signatureOf wsX0_signatureOf) := goodIn_app (goodIn_of _ (by decide +kernel)) ggX4_sign_X0_signatureOf
set_option maxRecDepth 20000 in
theorem ggX4_sign_X1_appendWord : GoodIn wsX4_sign wsX1_appendWord := goodIn_r _ [138, 139, 114, 115, 23, 116, 25, 26, 162, 163] (by decide +kernel) (by decide +kernel)
set_option maxRecDepth 20000 in
theorem gX4_sign_X1_appendWord : GoodIn wsX4_sign (wsV RX4 80 RX1 yX1_appendWord wsX1_appendWord) := goodIn_app (goodIn_of _ (by decide +kernel)) ggX4_sign_X1_appendWord
theorem dX4_sign_0 : decode cX4_sign 0 = .ok (.iload_n 1, 1) := by decide +kernel
theorem dX4_sign_1 : decode cX4_sign 1 = .ok (.ifCond .lt 9, 3) := by decide +kernel
theorem dX4_sign_4 : decode cX4_sign 4 = .ok (.iload_n 1, 1) := by decide +kernel
theorem dX4_sign_5 : decode cX4_sign 5 = .ok (.bipush 9, 2) := by decide +kernel
theorem dX4_sign_7 : decode cX4_sign 7 = .ok (.if_icmp .le 11, 3) := by decide +kernel
theorem dX4_sign_10 : decode cX4_sign 10 = .ok (.new 66, 3) := by decide +kernel
theorem dX4_sign_13 : decode cX4_sign 13 = .ok (.dup, 1) := by decide +kernel
theorem dX4_sign_14 : decode cX4_sign 14 = .ok (.invokespecial 68, 3) := by decide +kernel
theorem dX4_sign_17 : decode cX4_sign 17 = .ok (.athrow, 1) := by decide +kernel
theorem dX4_sign_18 : decode cX4_sign 18 = .ok (.aload_n 0, 1) := by decide +kernel
theorem dX4_sign_19 : decode cX4_sign 19 = .ok (.getfield 24, 3) := by decide +kernel
theorem dX4_sign_22 : decode cX4_sign 22 = .ok (.aload_n 0, 1) := by decide +kernel
theorem dX4_sign_23 : decode cX4_sign 23 = .ok (.getfield 14, 3) := by decide +kernel
theorem dX4_sign_26 : decode cX4_sign 26 = .ok (.invokevirtual 83, 3) := by decide +kernel
theorem dX4_sign_29 : decode cX4_sign 29 = .ok (.aload_n 0, 1) := by decide +kernel
theorem dX4_sign_30 : decode cX4_sign 30 = .ok (.getfield 24, 3) := by decide +kernel
theorem dX4_sign_33 : decode cX4_sign 33 = .ok (.invokevirtual 87, 3) := by decide +kernel
theorem dX4_sign_36 : decode cX4_sign 36 = .ok (.istore_n 2, 1) := by decide +kernel
theorem dX4_sign_37 : decode cX4_sign 37 = .ok (.iload_n 2, 1) := by decide +kernel
theorem dX4_sign_38 : decode cX4_sign 38 = .ok (.ifCond .ne 21, 3) := by decide +kernel
theorem dX4_sign_41 : decode cX4_sign 41 = .ok (.aload_n 0, 1) := by decide +kernel
theorem dX4_sign_42 : decode cX4_sign 42 = .ok (.getfield 24, 3) := by decide +kernel
theorem dX4_sign_45 : decode cX4_sign 45 = .ok (.invokevirtual 91, 3) := by decide +kernel
theorem dX4_sign_48 : decode cX4_sign 48 = .ok (.ifCond .ne 11, 3) := by decide +kernel
theorem dX4_sign_51 : decode cX4_sign 51 = .ok (.new 94, 3) := by decide +kernel
theorem dX4_sign_54 : decode cX4_sign 54 = .ok (.dup, 1) := by decide +kernel
theorem dX4_sign_55 : decode cX4_sign 55 = .ok (.invokespecial 96, 3) := by decide +kernel
theorem dX4_sign_58 : decode cX4_sign 58 = .ok (.athrow, 1) := by decide +kernel
theorem dX4_sign_59 : decode cX4_sign 59 = .ok (.iload_n 2, 1) := by decide +kernel
theorem dX4_sign_60 : decode cX4_sign 60 = .ok (.ifCond .eq 7, 3) := by decide +kernel
theorem dX4_sign_63 : decode cX4_sign 63 = .ok (.iconst 0, 1) := by decide +kernel
theorem dX4_sign_64 : decode cX4_sign 64 = .ok (.goto 10, 3) := by decide +kernel
theorem dX4_sign_67 : decode cX4_sign 67 = .ok (.aload_n 0, 1) := by decide +kernel
theorem dX4_sign_68 : decode cX4_sign 68 = .ok (.getfield 24, 3) := by decide +kernel
theorem dX4_sign_71 : decode cX4_sign 71 = .ok (.invokevirtual 97, 3) := by decide +kernel
theorem dX4_sign_74 : decode cX4_sign 74 = .ok (.istore_n 3, 1) := by decide +kernel
theorem dX4_sign_75 : decode cX4_sign 75 = .ok (.iload_n 2, 1) := by decide +kernel
theorem dX4_sign_76 : decode cX4_sign 76 = .ok (.ifCond .eq 8, 3) := by decide +kernel
theorem dX4_sign_79 : decode cX4_sign 79 = .ok (.bipush 6, 2) := by decide +kernel
theorem dX4_sign_81 : decode cX4_sign 81 = .ok (.goto 4, 3) := by decide +kernel
theorem dX4_sign_84 : decode cX4_sign 84 = .ok (.iconst 5, 1) := by decide +kernel
theorem dX4_sign_85 : decode cX4_sign 85 = .ok (.istore 4, 2) := by decide +kernel
theorem dX4_sign_87 : decode cX4_sign 87 = .ok (.iload_n 3, 1) := by decide +kernel
theorem dX4_sign_88 : decode cX4_sign 88 = .ok (.bipush 6, 2) := by decide +kernel
theorem dX4_sign_90 : decode cX4_sign 90 = .ok (.if_icmp .ge 15, 3) := by decide +kernel
theorem dX4_sign_93 : decode cX4_sign 93 = .ok (.aload_n 0, 1) := by decide +kernel
theorem dX4_sign_94 : decode cX4_sign 94 = .ok (.getfield 14, 3) := by decide +kernel
theorem dX4_sign_97 : decode cX4_sign 97 = .ok (.iload 4, 2) := by decide +kernel
theorem dX4_sign_99 : decode cX4_sign 99 = .ok (.invokevirtual 44, 3) := by decide +kernel
theorem dX4_sign_102 : decode cX4_sign 102 = .ok (.ifCond .ne 11, 3) := by decide +kernel
theorem dX4_sign_105 : decode cX4_sign 105 = .ok (.new 100, 3) := by decide +kernel
theorem dX4_sign_108 : decode cX4_sign 108 = .ok (.dup, 1) := by decide +kernel
theorem dX4_sign_109 : decode cX4_sign 109 = .ok (.invokespecial 102, 3) := by decide +kernel
theorem dX4_sign_112 : decode cX4_sign 112 = .ok (.athrow, 1) := by decide +kernel
theorem dX4_sign_113 : decode cX4_sign 113 = .ok (.iload_n 2, 1) := by decide +kernel
theorem dX4_sign_114 : decode cX4_sign 114 = .ok (.ifCond .eq 14, 3) := by decide +kernel
theorem dX4_sign_117 : decode cX4_sign 117 = .ok (.aload_n 0, 1) := by decide +kernel
theorem dX4_sign_118 : decode cX4_sign 118 = .ok (.getfield 14, 3) := by decide +kernel
theorem dX4_sign_121 : decode cX4_sign 121 = .ok (.iconst 1, 1) := by decide +kernel
theorem dX4_sign_122 : decode cX4_sign 122 = .ok (.invokevirtual 103, 3) := by decide +kernel
theorem dX4_sign_125 : decode cX4_sign 125 = .ok (.goto 20, 3) := by decide +kernel
theorem dX4_sign_128 : decode cX4_sign 128 = .ok (.aload_n 0, 1) := by decide +kernel
theorem dX4_sign_129 : decode cX4_sign 129 = .ok (.getfield 14, 3) := by decide +kernel
theorem dX4_sign_132 : decode cX4_sign 132 = .ok (.aload_n 0, 1) := by decide +kernel
theorem dX4_sign_133 : decode cX4_sign 133 = .ok (.getfield 24, 3) := by decide +kernel
theorem dX4_sign_136 : decode cX4_sign 136 = .ok (.invokevirtual 106, 3) := by decide +kernel
theorem dX4_sign_139 : decode cX4_sign 139 = .ok (.iload_n 3, 1) := by decide +kernel
theorem dX4_sign_140 : decode cX4_sign 140 = .ok (.iconst 1, 1) := by decide +kernel
theorem dX4_sign_141 : decode cX4_sign 141 = .ok (.iadd, 1) := by decide +kernel
theorem dX4_sign_142 : decode cX4_sign 142 = .ok (.invokevirtual 62, 3) := by decide +kernel
theorem dX4_sign_145 : decode cX4_sign 145 = .ok (.aload_n 0, 1) := by decide +kernel
theorem dX4_sign_146 : decode cX4_sign 146 = .ok (.getfield 14, 3) := by decide +kernel
theorem dX4_sign_149 : decode cX4_sign 149 = .ok (.iload_n 1, 1) := by decide +kernel
theorem dX4_sign_150 : decode cX4_sign 150 = .ok (.invokevirtual 103, 3) := by decide +kernel
theorem dX4_sign_153 : decode cX4_sign 153 = .ok (.aload_n 0, 1) := by decide +kernel
theorem dX4_sign_154 : decode cX4_sign 154 = .ok (.getfield 14, 3) := by decide +kernel
theorem dX4_sign_157 : decode cX4_sign 157 = .ok (.aload_n 0, 1) := by decide +kernel
theorem dX4_sign_158 : decode cX4_sign 158 = .ok (.getfield 24, 3) := by decide +kernel
theorem dX4_sign_161 : decode cX4_sign 161 = .ok (.iload_n 1, 1) := by decide +kernel
theorem dX4_sign_162 : decode cX4_sign 162 = .ok (.invokevirtual 109, 3) := by decide +kernel
theorem dX4_sign_165 : decode cX4_sign 165 = .ok (.invokevirtual 80, 3) := by decide +kernel
theorem dX4_sign_168 : decode cX4_sign 168 = .ok (.iload_n 3, 1) := by decide +kernel
theorem dX4_sign_169 : decode cX4_sign 169 = .ok (.iconst 1, 1) := by decide +kernel
theorem dX4_sign_170 : decode cX4_sign 170 = .ok (.iadd, 1) := by decide +kernel
theorem dX4_sign_171 : decode cX4_sign 171 = .ok (.ireturn, 1) := by decide +kernel
set_option maxRecDepth 20000 in
theorem ggX4_content_X1_become : GoodIn wsX4_content wsX1_become := goodIn_r _ [7, 8, 9, 10, 11, 12, 13, 25, 26] (by decide +kernel) (by decide +kernel)
set_option maxRecDepth 20000 in
theorem gX4_content_X1_become : GoodIn wsX4_content (wsV RX4 112 RX1 yX1_become wsX1_become) := goodIn_app (goodIn_of _ (by decide +kernel)) ggX4_content_X1_become
set_option maxRecDepth 20000 in
theorem ggX4_content_X1_size : GoodIn wsX4_content wsX1_size := goodIn_r _ [17, 8, 25, 26] (by decide +kernel) (by decide +kernel)
set_option maxRecDepth 20000 in
theorem gX4_content_X1_size : GoodIn wsX4_content (wsV RX4 52 RX1 yX1_size wsX1_size) := goodIn_app (goodIn_of _ (by decide +kernel)) ggX4_content_X1_size
theorem dX4_content_0 : decode cX4_content 0 = .ok (.aload_n 0, 1) := by decide +kernel
theorem dX4_content_1 : decode cX4_content 1 = .ok (.getfield 18, 3) := by decide +kernel
theorem dX4_content_4 : decode cX4_content 4 = .ok (.aload_n 0, 1) := by decide +kernel
theorem dX4_content_5 : decode cX4_content 5 = .ok (.getfield 14, 3) := by decide +kernel
theorem dX4_content_8 : decode cX4_content 8 = .ok (.invokevirtual 112, 3) := by decide +kernel
theorem dX4_content_11 : decode cX4_content 11 = .ok (.aload_n 0, 1) := by decide +kernel
theorem dX4_content_12 : decode cX4_content 12 = .ok (.getfield 18, 3) := by decide +kernel
theorem dX4_content_15 : decode cX4_content 15 = .ok (.invokevirtual 52, 3) := by decide +kernel
theorem dX4_content_18 : decode cX4_content 18 = .ok (.ireturn, 1) := by decide +kernel
set_option maxRecDepth 20000 in
theorem ggX4_tick_X3_advanceClock : GoodIn wsX4_tick wsX3_advanceClock := goodIn_r _ [8, 9, 17, 18, 19] (by decide +kernel) (by decide +kernel)
set_option maxRecDepth 20000 in
theorem gX4_tick_X3_advanceClock : GoodIn wsX4_tick (wsV RX4 115 RX3 yX3_advanceClock wsX3_advanceClock) := goodIn_app (goodIn_of _ (by decide +kernel)) ggX4_tick_X3_advanceClock
theorem dX4_tick_0 : decode cX4_tick 0 = .ok (.iload_n 1, 1) := by decide +kernel
theorem dX4_tick_1 : decode cX4_tick 1 = .ok (.ifCond .lt 10, 3) := by decide +kernel
theorem dX4_tick_4 : decode cX4_tick 4 = .ok (.iload_n 1, 1) := by decide +kernel
theorem dX4_tick_5 : decode cX4_tick 5 = .ok (.sipush 10000, 3) := by decide +kernel
theorem dX4_tick_8 : decode cX4_tick 8 = .ok (.if_icmp .le 11, 3) := by decide +kernel
theorem dX4_tick_11 : decode cX4_tick 11 = .ok (.new 94, 3) := by decide +kernel
theorem dX4_tick_14 : decode cX4_tick 14 = .ok (.dup, 1) := by decide +kernel
theorem dX4_tick_15 : decode cX4_tick 15 = .ok (.invokespecial 96, 3) := by decide +kernel
theorem dX4_tick_18 : decode cX4_tick 18 = .ok (.athrow, 1) := by decide +kernel
theorem dX4_tick_19 : decode cX4_tick 19 = .ok (.aload_n 0, 1) := by decide +kernel
theorem dX4_tick_20 : decode cX4_tick 20 = .ok (.getfield 31, 3) := by decide +kernel
theorem dX4_tick_23 : decode cX4_tick 23 = .ok (.iload_n 1, 1) := by decide +kernel
theorem dX4_tick_24 : decode cX4_tick 24 = .ok (.invokevirtual 115, 3) := by decide +kernel
theorem dX4_tick_27 : decode cX4_tick 27 = .ok (.ireturn, 1) := by decide +kernel
set_option maxRecDepth 20000 in
theorem ggX4_begin_X0_read : GoodIn wsX4_begin wsX0_read := goodIn_r _ [10, 11, 12, 13, 14, 15, 16, 17, 18, 19, 20, 21, 22, 23, 24, 25, 26, 27, 28, 29, 30, 9, 31, 32, 33, 34, 35, 36, 37, 38, 39, 40, 41, 42, 43, 44, 45, 46, 47, 48, 49, 50, 51, 52, 53, 54, 55, 56, 57, 58, 59, 60, 61, 62, 63, 64, 65, 66, 67, 68, 69, 70, 71, 72, 73, 74, 75, 76, 77, 78, 79, 80, 81, 82, 83, 84, 85, 86, 87, 88, 89, 90, 91, 92, 93, 129, 130, 131, 132, 133, 134, 135, 136, 137, 138, 139, 140, 141, 142, 143, 144, 145] (by decide +kernel) (by decide +kernel)
set_option maxRecDepth 20000 in
theorem gX4_begin_X0_read : GoodIn wsX4_begin (wsV RX4 83 RX0 yX0_read wsX0_read) := goodIn_app (goodIn_of _ (by decide +kernel)) ggX4_begin_X0_read
set_option maxRecDepth 20000 in
theorem ggX4_begin_X0_isWhole : GoodIn wsX4_begin wsX0_isWhole := goodIn_r _ [97, 16, 129, 130, 131, 132, 133, 134, 135, 136, 137, 138, 139, 140, 141, 142, 143] (by decide +kernel) (by decide +kernel)
set_option maxRecDepth 20000 in
theorem gX4_begin_X0_isWhole : GoodIn wsX4_begin (wsV RX4 91 RX0 yX0_isWhole wsX0_isWhole) := goodIn_app (goodIn_of _ (by decide +kernel)) ggX4_begin_X0_isWhole
set_option maxRecDepth 20000 in
theorem ggX4_begin_X0_role : GoodIn wsX4_begin wsX0_role := goodIn_r _ [101, 32, 129, 130, 131, 132, 133, 134, 135, 136, 137, 138, 139, 140, 141, 142, 143] (by decide +kernel) (by decide +kernel)
set_option maxRecDepth 20000 in
theorem gX4_begin_X0_role : GoodIn wsX4_begin (wsV RX4 118 RX0 yX0_role wsX0_role) := goodIn_app (goodIn_of _ (by decide +kernel)) ggX4_begin_X0_role
set_option maxRecDepth 20000 in
theorem ggX4_begin_X3_startFrom : GoodIn wsX4_begin wsX3_startFrom := goodIn_r _ [106, 107, 108, 109, 105, 110, 111, 112, 113, 114, 115, 9, 116, 16, 117, 118, 119, 120, 11, 121, 7, 8, 10, 12, 13, 14, 15, 17, 18, 19, 20, 21, 22, 23, 24, 25, 26, 27, 28, 29, 30, 31, 32, 33, 34, 35, 36, 37, 38, 39, 40, 41, 42, 43, 44, 45, 46, 47, 48, 49, 50, 51, 52, 53, 54, 55, 56, 57, 58, 59, 60, 61, 62, 63, 64, 65, 66, 67, 68, 69, 70, 71, 72, 73, 74, 75, 76, 77, 78, 79, 80, 81, 82, 83, 84, 85, 86, 87, 88, 89, 90, 91, 92, 93, 146, 147, 148, 129, 130, 131, 132, 133, 134, 135, 136, 137, 138, 139, 140, 141, 142, 143, 144, 145] (by decide +kernel) (by decide +kernel)
set_option maxRecDepth 20000 in
theorem gX4_begin_X3_startFrom : GoodIn wsX4_begin (wsV RX4 121 RX3 yX3_startFrom wsX3_startFrom) := goodIn_app (goodIn_of _ (by decide +kernel)) ggX4_begin_X3_startFrom
theorem dX4_begin_0 : decode cX4_begin 0 = .ok (.aload_n 0, 1) := by decide +kernel
theorem dX4_begin_1 : decode cX4_begin 1 = .ok (.getfield 24, 3) := by decide +kernel
theorem dX4_begin_4 : decode cX4_begin 4 = .ok (.aload_n 0, 1) := by decide +kernel
theorem dX4_begin_5 : decode cX4_begin 5 = .ok (.getfield 14, 3) := by decide +kernel
theorem dX4_begin_8 : decode cX4_begin 8 = .ok (.invokevirtual 83, 3) := by decide +kernel
theorem dX4_begin_11 : decode cX4_begin 11 = .ok (.aload_n 0, 1) := by decide +kernel
theorem dX4_begin_12 : decode cX4_begin 12 = .ok (.getfield 24, 3) := by decide +kernel
theorem dX4_begin_15 : decode cX4_begin 15 = .ok (.invokevirtual 91, 3) := by decide +kernel
theorem dX4_begin_18 : decode cX4_begin 18 = .ok (.ifCond .eq 13, 3) := by decide +kernel
theorem dX4_begin_21 : decode cX4_begin 21 = .ok (.aload_n 0, 1) := by decide +kernel
theorem dX4_begin_22 : decode cX4_begin 22 = .ok (.getfield 24, 3) := by decide +kernel
theorem dX4_begin_25 : decode cX4_begin 25 = .ok (.invokevirtual 118, 3) := by decide +kernel
theorem dX4_begin_28 : decode cX4_begin 28 = .ok (.ifCond .eq 11, 3) := by decide +kernel
theorem dX4_begin_31 : decode cX4_begin 31 = .ok (.new 94, 3) := by decide +kernel
theorem dX4_begin_34 : decode cX4_begin 34 = .ok (.dup, 1) := by decide +kernel
theorem dX4_begin_35 : decode cX4_begin 35 = .ok (.invokespecial 96, 3) := by decide +kernel
theorem dX4_begin_38 : decode cX4_begin 38 = .ok (.athrow, 1) := by decide +kernel
theorem dX4_begin_39 : decode cX4_begin 39 = .ok (.aload_n 0, 1) := by decide +kernel
theorem dX4_begin_40 : decode cX4_begin 40 = .ok (.getfield 31, 3) := by decide +kernel
theorem dX4_begin_43 : decode cX4_begin 43 = .ok (.aload_n 0, 1) := by decide +kernel
theorem dX4_begin_44 : decode cX4_begin 44 = .ok (.getfield 24, 3) := by decide +kernel
theorem dX4_begin_47 : decode cX4_begin 47 = .ok (.invokevirtual 121, 3) := by decide +kernel
theorem dX4_begin_50 : decode cX4_begin 50 = .ok (.return_, 1) := by decide +kernel
set_option maxRecDepth 20000 in
theorem ggX4_offer_X0_read : GoodIn wsX4_offer wsX0_read := goodIn_r _ [18, 19, 20, 21, 22, 23, 24, 25, 26, 27, 28, 29, 30, 31, 32, 33, 34, 35, 36, 37, 38, 17, 39, 40, 41, 42, 43, 44, 45, 46, 47, 48, 49, 50, 51, 52, 53, 54, 55, 56, 57, 58, 59, 60, 61, 62, 63, 64, 65, 66, 67, 68, 69, 70, 71, 72, 73, 74, 75, 76, 77, 78, 79, 80, 81, 82, 83, 84, 85, 86, 87, 88, 89, 90, 91, 92, 93, 94, 95, 96, 97, 98, 99, 100, 101, 236, 237, 238, 239, 240, 241, 242, 243, 244, 245, 246, 247, 248, 249, 250, 251, 252] (by decide +kernel) (by decide +kernel)
set_option maxRecDepth 20000 in
theorem gX4_offer_X0_read : GoodIn wsX4_offer (wsV RX4 83 RX0 yX0_read wsX0_read) := goodIn_app (goodIn_of _ (by decide +kernel)) ggX4_offer_X0_read
set_option maxRecDepth 20000 in
theorem ggX4_offer_X0_isWhole : GoodIn wsX4_offer wsX0_isWhole := goodIn_r _ [105, 24, 236, 237, 238, 239, 240, 241, 242, 243, 244, 245, 246, 247, 248, 249, 250] (by decide +kernel) (by decide +kernel)
set_option maxRecDepth 20000 in
theorem gX4_offer_X0_isWhole : GoodIn wsX4_offer (wsV RX4 91 RX0 yX0_isWhole wsX0_isWhole) := goodIn_app (goodIn_of _ (by decide +kernel)) ggX4_offer_X0_isWhole
set_option maxRecDepth 20000 in
theorem ggX4_offer_X0_role : GoodIn wsX4_offer wsX0_role := goodIn_r _ [109, 40, 236, 237, 238, 239, 240, 241, 242, 243, 244, 245, 246, 247, 248, 249, 250] (by decide +kernel) (by decide +kernel)
set_option maxRecDepth 20000 in
theorem gX4_offer_X0_role : GoodIn wsX4_offer (wsV RX4 118 RX0 yX0_role wsX0_role) := goodIn_app (goodIn_of _ (by decide +kernel)) ggX4_offer_X0_role
set_option maxRecDepth 20000 in
theorem ggX4_offer_X3_hasGroundFor : GoodIn wsX4_offer wsX3_hasGroundFor := goodIn_r _ [114, 115, 116, 117, 113, 118, 119, 120, 121, 103, 104, 17, 105, 24, 122, 123, 124, 125, 126, 127, 128, 129, 130, 131, 132, 133, 134, 42, 135, 136, 137, 138, 68, 253, 254, 255, 236, 237, 238, 239, 240, 241, 242, 243, 244, 245, 246, 247, 248, 249, 250] (by decide +kernel) (by decide +kernel)
set_option maxRecDepth 20000 in
theorem gX4_offer_X3_hasGroundFor : GoodIn wsX4_offer (wsV RX4 125 RX3 yX3_hasGroundFor wsX3_hasGroundFor) := goodIn_app (goodIn_of _ (by decide +kernel)) ggX4_offer_X3_hasGroundFor
set_option maxRecDepth 20000 in
theorem ggX4_offer_X3_findsSigned : GoodIn wsX4_offer wsX3_findsSigned := goodIn_r _ [142, 143, 107, 108, 17, 109, 40, 115, 116, 117, 113, 118, 119, 120, 144, 145, 146, 147, 19, 55, 148, 149, 150, 151, 47, 48, 49, 28, 50, 30, 31, 152, 153, 154, 155, 22, 156, 157, 158, 159, 160, 161, 162, 163, 164, 165, 166, 167, 168, 169, 170, 171, 172, 173, 236, 237, 238, 239, 240, 241, 242, 243, 244, 245, 246, 247, 248, 249, 250, 253, 254, 255, 251, 252] (by decide +kernel) (by decide +kernel)
set_option maxRecDepth 20000 in
theorem gX4_offer_X3_findsSigned : GoodIn wsX4_offer (wsV RX4 128 RX3 yX3_findsSigned wsX3_findsSigned) := goodIn_app (goodIn_of _ (by decide +kernel)) ggX4_offer_X3_findsSigned
set_option maxRecDepth 20000 in
theorem ggX4_offer_X3_findsVersionsRight : GoodIn wsX4_offer wsX3_findsVersionsRight := goodIn_r _ [177, 143, 107, 108, 17, 109, 40, 178, 179, 180, 181, 41, 115, 116, 117, 113, 118, 119, 120, 182, 183, 184, 185, 121, 103, 104, 105, 24, 186, 187, 188, 189, 19, 47, 48, 49, 28, 50, 30, 31, 190, 191, 192, 193, 194, 195, 196, 197, 198, 199, 200, 201, 202, 161, 162, 163, 164, 165, 203, 204, 205, 206, 170, 171, 172, 173, 207, 208, 209, 210, 135, 136, 137, 138, 68, 236, 237, 238, 239, 240, 241, 242, 243, 244, 245, 246, 247, 248, 249, 250, 253, 254, 255, 251, 252] (by decide +kernel) (by decide +kernel)
set_option maxRecDepth 20000 in
theorem gX4_offer_X3_findsVersionsRight : GoodIn wsX4_offer (wsV RX4 135 RX3 yX3_findsVersionsRight wsX3_findsVersionsRight) := goodIn_app (goodIn_of _ (by decide +kernel)) ggX4_offer_X3_findsVersionsRight
set_option maxRecDepth 20000 in
theorem ggX4_offer_X3_findsEnded : GoodIn wsX4_offer wsX3_findsEnded := goodIn_r _ [129, 130, 131, 132, 133, 17, 134, 42, 253, 254, 255, 236, 237, 238, 239, 240, 241, 242, 243, 244, 245, 246, 247, 248, 249, 250] (by decide +kernel) (by decide +kernel)
set_option maxRecDepth 20000 in
theorem gX4_offer_X3_findsEnded : GoodIn wsX4_offer (wsV RX4 138 RX3 yX3_findsEnded wsX3_findsEnded) := goodIn_app (goodIn_of _ (by decide +kernel)) ggX4_offer_X3_findsEnded
set_option maxRecDepth 20000 in
theorem ggX4_offer_X3_take : GoodIn wsX4_offer wsX3_take := goodIn_r _ [215, 143, 107, 108, 17, 109, 40, 216, 217, 218, 113, 219, 115, 116, 117, 118, 119, 120, 220, 221, 222, 223, 55, 19, 47, 48, 49, 28, 50, 30, 31, 83, 84, 85, 86, 87, 224, 225, 226, 227, 24, 194, 195, 196, 197, 228, 15, 16, 18, 20, 21, 22, 23, 25, 26, 27, 29, 32, 33, 34, 35, 36, 37, 38, 39, 41, 42, 43, 44, 45, 46, 51, 52, 53, 54, 56, 57, 58, 59, 60, 61, 62, 63, 64, 65, 66, 67, 68, 69, 70, 71, 72, 73, 74, 75, 76, 77, 78, 79, 80, 81, 82, 88, 89, 90, 91, 92, 93, 94, 95, 96, 97, 98, 99, 100, 101, 236, 237, 238, 239, 240, 241, 242, 243, 244, 245, 246, 247, 248, 249, 250, 253, 254, 255, 251, 252] (by decide +kernel) (by decide +kernel)
set_option maxRecDepth 20000 in
theorem gX4_offer_X3_take : GoodIn wsX4_offer (wsV RX4 144 RX3 yX3_take wsX3_take) := goodIn_app (goodIn_of _ (by decide +kernel)) ggX4_offer_X3_take
theorem dX4_offer_0 : decode cX4_offer 0 = .ok (.aload_n 0, 1) := by decide +kernel
theorem dX4_offer_1 : decode cX4_offer 1 = .ok (.getfield 24, 3) := by decide +kernel
theorem dX4_offer_4 : decode cX4_offer 4 = .ok (.aload_n 0, 1) := by decide +kernel
theorem dX4_offer_5 : decode cX4_offer 5 = .ok (.getfield 14, 3) := by decide +kernel
theorem dX4_offer_8 : decode cX4_offer 8 = .ok (.invokevirtual 83, 3) := by decide +kernel
theorem dX4_offer_11 : decode cX4_offer 11 = .ok (.aload_n 0, 1) := by decide +kernel
theorem dX4_offer_12 : decode cX4_offer 12 = .ok (.getfield 24, 3) := by decide +kernel
theorem dX4_offer_15 : decode cX4_offer 15 = .ok (.invokevirtual 91, 3) := by decide +kernel
theorem dX4_offer_18 : decode cX4_offer 18 = .ok (.ifCond .ne 11, 3) := by decide +kernel
theorem dX4_offer_21 : decode cX4_offer 21 = .ok (.new 94, 3) := by decide +kernel
theorem dX4_offer_24 : decode cX4_offer 24 = .ok (.dup, 1) := by decide +kernel
theorem dX4_offer_25 : decode cX4_offer 25 = .ok (.invokespecial 96, 3) := by decide +kernel
theorem dX4_offer_28 : decode cX4_offer 28 = .ok (.athrow, 1) := by decide +kernel
theorem dX4_offer_29 : decode cX4_offer 29 = .ok (.aload_n 0, 1) := by decide +kernel
theorem dX4_offer_30 : decode cX4_offer 30 = .ok (.getfield 31, 3) := by decide +kernel
theorem dX4_offer_33 : decode cX4_offer 33 = .ok (.aload_n 0, 1) := by decide +kernel
theorem dX4_offer_34 : decode cX4_offer 34 = .ok (.getfield 24, 3) := by decide +kernel
theorem dX4_offer_37 : decode cX4_offer 37 = .ok (.invokevirtual 118, 3) := by decide +kernel
theorem dX4_offer_40 : decode cX4_offer 40 = .ok (.invokevirtual 125, 3) := by decide +kernel
theorem dX4_offer_43 : decode cX4_offer 43 = .ok (.ifCond .ne 11, 3) := by decide +kernel
theorem dX4_offer_46 : decode cX4_offer 46 = .ok (.new 66, 3) := by decide +kernel
theorem dX4_offer_49 : decode cX4_offer 49 = .ok (.dup, 1) := by decide +kernel
theorem dX4_offer_50 : decode cX4_offer 50 = .ok (.invokespecial 68, 3) := by decide +kernel
theorem dX4_offer_53 : decode cX4_offer 53 = .ok (.athrow, 1) := by decide +kernel
theorem dX4_offer_54 : decode cX4_offer 54 = .ok (.aload_n 0, 1) := by decide +kernel
theorem dX4_offer_55 : decode cX4_offer 55 = .ok (.getfield 31, 3) := by decide +kernel
theorem dX4_offer_58 : decode cX4_offer 58 = .ok (.aload_n 0, 1) := by decide +kernel
theorem dX4_offer_59 : decode cX4_offer 59 = .ok (.getfield 24, 3) := by decide +kernel
theorem dX4_offer_62 : decode cX4_offer 62 = .ok (.invokevirtual 128, 3) := by decide +kernel
theorem dX4_offer_65 : decode cX4_offer 65 = .ok (.ifCond .ne 11, 3) := by decide +kernel
theorem dX4_offer_68 : decode cX4_offer 68 = .ok (.new 132, 3) := by decide +kernel
theorem dX4_offer_71 : decode cX4_offer 71 = .ok (.dup, 1) := by decide +kernel
theorem dX4_offer_72 : decode cX4_offer 72 = .ok (.invokespecial 134, 3) := by decide +kernel
theorem dX4_offer_75 : decode cX4_offer 75 = .ok (.athrow, 1) := by decide +kernel
theorem dX4_offer_76 : decode cX4_offer 76 = .ok (.aload_n 0, 1) := by decide +kernel
theorem dX4_offer_77 : decode cX4_offer 77 = .ok (.getfield 31, 3) := by decide +kernel
theorem dX4_offer_80 : decode cX4_offer 80 = .ok (.aload_n 0, 1) := by decide +kernel
theorem dX4_offer_81 : decode cX4_offer 81 = .ok (.getfield 24, 3) := by decide +kernel
theorem dX4_offer_84 : decode cX4_offer 84 = .ok (.invokevirtual 135, 3) := by decide +kernel
theorem dX4_offer_87 : decode cX4_offer 87 = .ok (.ifCond .ne 11, 3) := by decide +kernel
theorem dX4_offer_90 : decode cX4_offer 90 = .ok (.new 100, 3) := by decide +kernel
theorem dX4_offer_93 : decode cX4_offer 93 = .ok (.dup, 1) := by decide +kernel
theorem dX4_offer_94 : decode cX4_offer 94 = .ok (.invokespecial 102, 3) := by decide +kernel
theorem dX4_offer_97 : decode cX4_offer 97 = .ok (.athrow, 1) := by decide +kernel
theorem dX4_offer_98 : decode cX4_offer 98 = .ok (.aload_n 0, 1) := by decide +kernel
theorem dX4_offer_99 : decode cX4_offer 99 = .ok (.getfield 24, 3) := by decide +kernel
theorem dX4_offer_102 : decode cX4_offer 102 = .ok (.invokevirtual 118, 3) := by decide +kernel
theorem dX4_offer_105 : decode cX4_offer 105 = .ok (.ifCond .eq 25, 3) := by decide +kernel
theorem dX4_offer_108 : decode cX4_offer 108 = .ok (.aload_n 0, 1) := by decide +kernel
theorem dX4_offer_109 : decode cX4_offer 109 = .ok (.getfield 31, 3) := by decide +kernel
theorem dX4_offer_112 : decode cX4_offer 112 = .ok (.aload_n 0, 1) := by decide +kernel
theorem dX4_offer_113 : decode cX4_offer 113 = .ok (.getfield 24, 3) := by decide +kernel
theorem dX4_offer_116 : decode cX4_offer 116 = .ok (.invokevirtual 138, 3) := by decide +kernel
theorem dX4_offer_119 : decode cX4_offer 119 = .ok (.ifCond .eq 11, 3) := by decide +kernel
theorem dX4_offer_122 : decode cX4_offer 122 = .ok (.new 141, 3) := by decide +kernel
theorem dX4_offer_125 : decode cX4_offer 125 = .ok (.dup, 1) := by decide +kernel
theorem dX4_offer_126 : decode cX4_offer 126 = .ok (.invokespecial 143, 3) := by decide +kernel
theorem dX4_offer_129 : decode cX4_offer 129 = .ok (.athrow, 1) := by decide +kernel
theorem dX4_offer_130 : decode cX4_offer 130 = .ok (.aload_n 0, 1) := by decide +kernel
theorem dX4_offer_131 : decode cX4_offer 131 = .ok (.getfield 31, 3) := by decide +kernel
theorem dX4_offer_134 : decode cX4_offer 134 = .ok (.aload_n 0, 1) := by decide +kernel
theorem dX4_offer_135 : decode cX4_offer 135 = .ok (.getfield 24, 3) := by decide +kernel
theorem dX4_offer_138 : decode cX4_offer 138 = .ok (.invokevirtual 144, 3) := by decide +kernel
theorem dX4_offer_141 : decode cX4_offer 141 = .ok (.aload_n 0, 1) := by decide +kernel
theorem dX4_offer_142 : decode cX4_offer 142 = .ok (.getfield 24, 3) := by decide +kernel
theorem dX4_offer_145 : decode cX4_offer 145 = .ok (.invokevirtual 118, 3) := by decide +kernel
theorem dX4_offer_148 : decode cX4_offer 148 = .ok (.ireturn, 1) := by decide +kernel
set_option maxRecDepth 20000 in
theorem ggX4_trusted_X3_documentOf : GoodIn wsX4_trusted wsX3_documentOf := goodIn_r _ [8, 9, 10, 34, 35, 36] (by decide +kernel) (by decide +kernel)
set_option maxRecDepth 20000 in
theorem gX4_trusted_X3_documentOf : GoodIn wsX4_trusted (wsV RX4 147 RX3 yX3_documentOf wsX3_documentOf) := goodIn_app (goodIn_of _ (by decide +kernel)) ggX4_trusted_X3_documentOf
set_option maxRecDepth 20000 in
theorem ggX4_trusted_X0_isWhole : GoodIn wsX4_trusted wsX0_isWhole := goodIn_r _ [15, 16, 37, 38, 39, 40, 41, 42, 43, 44, 45, 46, 47, 48, 49, 50, 51] (by decide +kernel) (by decide +kernel)
set_option maxRecDepth 20000 in
theorem gX4_trusted_X0_isWhole : GoodIn wsX4_trusted (wsV RX4 91 RX0 yX0_isWhole wsX0_isWhole) := goodIn_app (goodIn_of _ (by decide +kernel)) ggX4_trusted_X0_isWhole
set_option maxRecDepth 20000 in
theorem ggX4_trusted_X0_end : GoodIn wsX4_trusted wsX0_end := goodIn_r _ [20, 21, 37, 38, 39, 40, 41, 42, 43, 44, 45, 46, 47, 48, 49, 50, 51] (by decide +kernel) (by decide +kernel)
set_option maxRecDepth 20000 in
theorem gX4_trusted_X0_end : GoodIn wsX4_trusted (wsV RX4 151 RX0 yX0_end wsX0_end) := goodIn_app (goodIn_of _ (by decide +kernel)) ggX4_trusted_X0_end
set_option maxRecDepth 20000 in
theorem ggX4_trusted_X0_version : GoodIn wsX4_trusted wsX0_version := goodIn_r _ [25, 26, 37, 38, 39, 40, 41, 42, 43, 44, 45, 46, 47, 48, 49, 50, 51] (by decide +kernel) (by decide +kernel)
set_option maxRecDepth 20000 in
theorem gX4_trusted_X0_version : GoodIn wsX4_trusted (wsV RX4 154 RX0 yX0_version wsX0_version) := goodIn_app (goodIn_of _ (by decide +kernel)) ggX4_trusted_X0_version
theorem dX4_trusted_0 : decode cX4_trusted 0 = .ok (.iload_n 1, 1) := by decide +kernel
theorem dX4_trusted_1 : decode cX4_trusted 1 = .ok (.ifCond .lt 9, 3) := by decide +kernel
theorem dX4_trusted_4 : decode cX4_trusted 4 = .ok (.iload_n 1, 1) := by decide +kernel
theorem dX4_trusted_5 : decode cX4_trusted 5 = .ok (.bipush 6, 2) := by decide +kernel
theorem dX4_trusted_7 : decode cX4_trusted 7 = .ok (.if_icmp .le 11, 3) := by decide +kernel
theorem dX4_trusted_10 : decode cX4_trusted 10 = .ok (.new 66, 3) := by decide +kernel
theorem dX4_trusted_13 : decode cX4_trusted 13 = .ok (.dup, 1) := by decide +kernel
theorem dX4_trusted_14 : decode cX4_trusted 14 = .ok (.invokespecial 68, 3) := by decide +kernel
theorem dX4_trusted_17 : decode cX4_trusted 17 = .ok (.athrow, 1) := by decide +kernel
theorem dX4_trusted_18 : decode cX4_trusted 18 = .ok (.aload_n 0, 1) := by decide +kernel
theorem dX4_trusted_19 : decode cX4_trusted 19 = .ok (.getfield 31, 3) := by decide +kernel
theorem dX4_trusted_22 : decode cX4_trusted 22 = .ok (.iload_n 1, 1) := by decide +kernel
theorem dX4_trusted_23 : decode cX4_trusted 23 = .ok (.invokevirtual 147, 3) := by decide +kernel
theorem dX4_trusted_26 : decode cX4_trusted 26 = .ok (.astore_n 3, 1) := by decide +kernel
theorem dX4_trusted_27 : decode cX4_trusted 27 = .ok (.aload_n 3, 1) := by decide +kernel
theorem dX4_trusted_28 : decode cX4_trusted 28 = .ok (.invokevirtual 91, 3) := by decide +kernel
theorem dX4_trusted_31 : decode cX4_trusted 31 = .ok (.ifCond .ne 5, 3) := by decide +kernel
theorem dX4_trusted_34 : decode cX4_trusted 34 = .ok (.iconst (-1), 1) := by decide +kernel
theorem dX4_trusted_35 : decode cX4_trusted 35 = .ok (.ireturn, 1) := by decide +kernel
theorem dX4_trusted_36 : decode cX4_trusted 36 = .ok (.iload_n 2, 1) := by decide +kernel
theorem dX4_trusted_37 : decode cX4_trusted 37 = .ok (.ifCond .eq 10, 3) := by decide +kernel
theorem dX4_trusted_40 : decode cX4_trusted 40 = .ok (.aload_n 3, 1) := by decide +kernel
theorem dX4_trusted_41 : decode cX4_trusted 41 = .ok (.invokevirtual 151, 3) := by decide +kernel
theorem dX4_trusted_44 : decode cX4_trusted 44 = .ok (.goto 7, 3) := by decide +kernel
theorem dX4_trusted_47 : decode cX4_trusted 47 = .ok (.aload_n 3, 1) := by decide +kernel
theorem dX4_trusted_48 : decode cX4_trusted 48 = .ok (.invokevirtual 154, 3) := by decide +kernel
theorem dX4_trusted_51 : decode cX4_trusted 51 = .ok (.ireturn, 1) := by decide +kernel
set_option maxRecDepth 20000 in
theorem ggX4_seek_X4_refuseUnlessSearchable : GoodIn wsX4_seek wsX4_refuseUnlessSearchable := goodIn_ca (goodIn_ca (goodIn_r _ [7, 8, 9, 10, 11, 12, 13, 14, 6, 15, 16, 17, 18, 19, 20, 21, 22, 23, 24, 25, 26, 27, 28, 29, 30, 31, 32, 33, 34, 35, 36, 37, 38, 39, 40, 41, 42, 43, 44, 45, 46, 47, 48, 49, 50, 51, 52, 53, 54, 55, 56, 57, 58, 59, 60, 184, 185, 186, 187, 188, 189, 190, 191, 192, 193, 194, 195, 196, 197, 198, 199, 200, 201, 202, 203, 204, 205, 206, 207, 208] (by decide +kernel) (by decide +kernel)) (goodIn_sub (fun _ h => List.mem_cons_of_mem _ (List.mem_append_left _ (List.mem_append_right _ h))) (by decide +kernel))) (goodIn_sub (fun _ h => List.mem_cons_of_mem _ (List.mem_append_right _ h)) (by decide +kernel))
set_option maxRecDepth 20000 in
theorem gX4_seek_X4_refuseUnlessSearchable : GoodIn wsX4_seek (wsV RX4 157 RX4 yX4_refuseUnlessSearchable wsX4_refuseUnlessSearchable) := goodIn_app (goodIn_of _ (by decide +kernel)) ggX4_seek_X4_refuseUnlessSearchable
set_option maxRecDepth 20000 in
theorem ggX4_seek_X2_run : GoodIn wsX4_seek wsX2_run := goodIn_r _ [65, 66, 67, 68, 69, 70, 71, 72, 73, 74, 75, 76, 77, 78, 79, 80, 81, 82, 83, 84, 85, 86, 87, 88, 64, 89, 90, 91, 92, 26, 27, 19, 28, 29, 30, 93, 94, 95, 34, 96, 97, 98, 99, 100, 101, 102, 103, 104, 105, 106, 107, 108, 109, 110, 111, 112, 113, 114, 115, 116, 117, 118, 119, 120, 121, 122, 123, 124, 125, 126, 127, 128, 129, 130, 131, 132, 133, 134, 135, 136, 137, 138, 139, 48, 49, 50, 21, 22, 23, 24, 25, 31, 32, 33, 35, 36, 37, 38, 39, 40, 41, 42, 43, 44, 45, 46, 51, 52, 53, 54, 55, 56, 57, 58, 59, 60, 140, 141, 142, 143, 144, 145, 146, 147, 148, 149, 150, 151, 152, 153, 154, 155, 156, 157, 158, 159, 160, 161, 162, 163, 164, 165, 166, 167, 168, 169, 170, 171, 172, 173, 174, 175, 209, 210, 211, 212, 213, 214, 215, 216, 217, 191, 192, 193, 194, 195, 196, 197, 198, 199, 200, 201, 202, 203, 204, 205, 206, 207, 208] (by decide +kernel) (by decide +kernel)
set_option maxRecDepth 20000 in
theorem gX4_seek_X2_run : GoodIn wsX4_seek (wsV RX4 160 RX2 yX2_run wsX2_run) := goodIn_app (goodIn_of _ (by decide +kernel)) ggX4_seek_X2_run
set_option maxRecDepth 20000 in
theorem ggX4_seek_X2_visitCount : GoodIn wsX4_seek wsX2_visitCount := goodIn_r _ [179, 68, 209, 210, 211, 212, 213, 214, 215] (by decide +kernel) (by decide +kernel)
set_option maxRecDepth 20000 in
theorem gX4_seek_X2_visitCount : GoodIn wsX4_seek (wsV RX4 163 RX2 yX2_visitCount wsX2_visitCount) := goodIn_app (goodIn_of _ (by decide +kernel)) ggX4_seek_X2_visitCount
set_option maxRecDepth 20000 in
theorem ggX4_seek_X2_foundRole : GoodIn wsX4_seek wsX2_foundRole := goodIn_r _ [183, 69, 209, 210, 211, 212, 213, 214, 215] (by decide +kernel) (by decide +kernel)
set_option maxRecDepth 20000 in
theorem gX4_seek_X2_foundRole : GoodIn wsX4_seek (wsV RX4 170 RX2 yX2_foundRole wsX2_foundRole) := goodIn_app (goodIn_of _ (by decide +kernel)) ggX4_seek_X2_foundRole
theorem dX4_seek_0 : decode cX4_seek 0 = .ok (.aload_n 0, 1) := by decide +kernel
theorem dX4_seek_1 : decode cX4_seek 1 = .ok (.lload_n 1, 1) := by decide +kernel
theorem dX4_seek_2 : decode cX4_seek 2 = .ok (.iload_n 3, 1) := by decide +kernel
theorem dX4_seek_3 : decode cX4_seek 3 = .ok (.invokevirtual 157, 3) := by decide +kernel
theorem dX4_seek_6 : decode cX4_seek 6 = .ok (.aload_n 0, 1) := by decide +kernel
theorem dX4_seek_7 : decode cX4_seek 7 = .ok (.getfield 40, 3) := by decide +kernel
theorem dX4_seek_10 : decode cX4_seek 10 = .ok (.lload_n 1, 1) := by decide +kernel
theorem dX4_seek_11 : decode cX4_seek 11 = .ok (.iload_n 3, 1) := by decide +kernel
theorem dX4_seek_12 : decode cX4_seek 12 = .ok (.invokevirtual 160, 3) := by decide +kernel
theorem dX4_seek_15 : decode cX4_seek 15 = .ok (.aload_n 0, 1) := by decide +kernel
theorem dX4_seek_16 : decode cX4_seek 16 = .ok (.aload_n 0, 1) := by decide +kernel
theorem dX4_seek_17 : decode cX4_seek 17 = .ok (.getfield 40, 3) := by decide +kernel
theorem dX4_seek_20 : decode cX4_seek 20 = .ok (.invokevirtual 163, 3) := by decide +kernel
theorem dX4_seek_23 : decode cX4_seek 23 = .ok (.putfield 166, 3) := by decide +kernel
theorem dX4_seek_26 : decode cX4_seek 26 = .ok (.aload_n 0, 1) := by decide +kernel
theorem dX4_seek_27 : decode cX4_seek 27 = .ok (.getfield 40, 3) := by decide +kernel
theorem dX4_seek_30 : decode cX4_seek 30 = .ok (.invokevirtual 170, 3) := by decide +kernel
theorem dX4_seek_33 : decode cX4_seek 33 = .ok (.ireturn, 1) := by decide +kernel
theorem dX4_visits_0 : decode cX4_visits 0 = .ok (.aload_n 0, 1) := by decide +kernel
theorem dX4_visits_1 : decode cX4_visits 1 = .ok (.getfield 166, 3) := by decide +kernel
theorem dX4_visits_4 : decode cX4_visits 4 = .ok (.ireturn, 1) := by decide +kernel
set_option maxRecDepth 20000 in
theorem ggX4_install_X4_refuseUnlessSearchable : GoodIn wsX4_install wsX4_refuseUnlessSearchable := goodIn_ca (goodIn_ca (goodIn_r _ [13, 14, 15, 16, 17, 18, 19, 20, 12, 21, 22, 23, 24, 25, 26, 27, 28, 29, 30, 31, 32, 33, 34, 35, 36, 37, 38, 39, 40, 41, 42, 43, 44, 45, 46, 47, 48, 49, 50, 51, 52, 53, 54, 55, 56, 57, 58, 59, 60, 61, 62, 63, 64, 65, 66, 202, 203, 204, 205, 206, 207, 208, 209, 210, 211, 212, 213, 214, 215, 216, 217, 218, 219, 220, 221, 222, 223, 224, 225, 226] (by decide +kernel) (by decide +kernel)) (goodIn_sub (fun _ h => List.mem_cons_of_mem _ (List.mem_append_left _ (List.mem_append_right _ h))) (by decide +kernel))) (goodIn_sub (fun _ h => List.mem_cons_of_mem _ (List.mem_append_right _ h)) (by decide +kernel))
set_option maxRecDepth 20000 in
theorem gX4_install_X4_refuseUnlessSearchable : GoodIn wsX4_install (wsV RX4 157 RX4 yX4_refuseUnlessSearchable wsX4_refuseUnlessSearchable) := goodIn_app (goodIn_of _ (by decide +kernel)) ggX4_install_X4_refuseUnlessSearchable
set_option maxRecDepth 20000 in
theorem ggX4_install_X2_run : GoodIn wsX4_install wsX2_run := goodIn_r _ [71, 72, 73, 74, 75, 76, 77, 78, 79, 80, 81, 82, 83, 84, 85, 86, 87, 88, 89, 90, 91, 92, 93, 94, 70, 95, 96, 97, 98, 32, 33, 25, 34, 35, 36, 99, 100, 101, 40, 102, 103, 104, 105, 106, 107, 108, 109, 110, 111, 112, 113, 114, 115, 116, 117, 118, 119, 120, 121, 122, 123, 124, 125, 126, 127, 128, 129, 130, 131, 132, 133, 134, 135, 136, 137, 138, 139, 140, 141, 142, 143, 144, 145, 54, 55, 56, 27, 28, 29, 30, 31, 37, 38, 39, 41, 42, 43, 44, 45, 46, 47, 48, 49, 50, 51, 52, 57, 58, 59, 60, 61, 62, 63, 64, 65, 66, 146, 147, 148, 149, 150, 151, 152, 153, 154, 155, 156, 157, 158, 159, 160, 161, 162, 163, 164, 165, 166, 167, 168, 169, 170, 171, 172, 173, 174, 175, 176, 177, 178, 179, 180, 181, 227, 228, 229, 230, 231, 232, 233, 234, 235, 209, 210, 211, 212, 213, 214, 215, 216, 217, 218, 219, 220, 221, 222, 223, 224, 225, 226] (by decide +kernel) (by decide +kernel)
set_option maxRecDepth 20000 in
theorem gX4_install_X2_run : GoodIn wsX4_install (wsV RX4 160 RX2 yX2_run wsX2_run) := goodIn_app (goodIn_of _ (by decide +kernel)) ggX4_install_X2_run
set_option maxRecDepth 20000 in
theorem ggX4_install_X2_foundRole : GoodIn wsX4_install wsX2_foundRole := goodIn_r _ [185, 75, 227, 228, 229, 230, 231, 232, 233] (by decide +kernel) (by decide +kernel)
set_option maxRecDepth 20000 in
theorem gX4_install_X2_foundRole : GoodIn wsX4_install (wsV RX4 170 RX2 yX2_foundRole wsX2_foundRole) := goodIn_app (goodIn_of _ (by decide +kernel)) ggX4_install_X2_foundRole
set_option maxRecDepth 20000 in
theorem ggX4_install_X2_foundTargetIs : GoodIn wsX4_install wsX2_foundTargetIs := goodIn_r _ [189, 96, 75, 97, 98, 32, 33, 25, 34, 35, 36, 146, 147, 148, 40, 149, 105, 190, 107, 108, 80, 109, 82, 91, 191, 111, 112, 113, 192, 175, 176, 177, 193, 194, 195, 196, 197, 165, 166, 167, 168, 169, 227, 228, 229, 230, 231, 232, 233, 209, 210, 211, 212, 213, 214, 215, 216, 217, 218, 219, 220, 221, 222, 223, 224, 225, 226, 234, 235] (by decide +kernel) (by decide +kernel)
set_option maxRecDepth 20000 in
theorem gX4_install_X2_foundTargetIs : GoodIn wsX4_install (wsV RX4 173 RX2 yX2_foundTargetIs wsX2_foundTargetIs) := goodIn_app (goodIn_of _ (by decide +kernel)) ggX4_install_X2_foundTargetIs
set_option maxRecDepth 20000 in
theorem ggX4_install_X2_visitCount : GoodIn wsX4_install wsX2_visitCount := goodIn_r _ [201, 74, 227, 228, 229, 230, 231, 232, 233] (by decide +kernel) (by decide +kernel)
set_option maxRecDepth 20000 in
theorem gX4_install_X2_visitCount : GoodIn wsX4_install (wsV RX4 163 RX2 yX2_visitCount wsX2_visitCount) := goodIn_app (goodIn_of _ (by decide +kernel)) ggX4_install_X2_visitCount
theorem dX4_install_0 : decode cX4_install 0 = .ok (.aload_n 0, 1) := by decide +kernel
theorem dX4_install_1 : decode cX4_install 1 = .ok (.lload_n 1, 1) := by decide +kernel
theorem dX4_install_2 : decode cX4_install 2 = .ok (.iload_n 3, 1) := by decide +kernel
theorem dX4_install_3 : decode cX4_install 3 = .ok (.invokevirtual 157, 3) := by decide +kernel
theorem dX4_install_6 : decode cX4_install 6 = .ok (.aload_n 0, 1) := by decide +kernel
theorem dX4_install_7 : decode cX4_install 7 = .ok (.getfield 40, 3) := by decide +kernel
theorem dX4_install_10 : decode cX4_install 10 = .ok (.lload_n 1, 1) := by decide +kernel
theorem dX4_install_11 : decode cX4_install 11 = .ok (.iload_n 3, 1) := by decide +kernel
theorem dX4_install_12 : decode cX4_install 12 = .ok (.invokevirtual 160, 3) := by decide +kernel
theorem dX4_install_15 : decode cX4_install 15 = .ok (.aload_n 0, 1) := by decide +kernel
theorem dX4_install_16 : decode cX4_install 16 = .ok (.getfield 40, 3) := by decide +kernel
theorem dX4_install_19 : decode cX4_install 19 = .ok (.invokevirtual 170, 3) := by decide +kernel
theorem dX4_install_22 : decode cX4_install 22 = .ok (.iconst (-1), 1) := by decide +kernel
theorem dX4_install_23 : decode cX4_install 23 = .ok (.if_icmp .ne 11, 3) := by decide +kernel
theorem dX4_install_26 : decode cX4_install 26 = .ok (.new 141, 3) := by decide +kernel
theorem dX4_install_29 : decode cX4_install 29 = .ok (.dup, 1) := by decide +kernel
theorem dX4_install_30 : decode cX4_install 30 = .ok (.invokespecial 143, 3) := by decide +kernel
theorem dX4_install_33 : decode cX4_install 33 = .ok (.athrow, 1) := by decide +kernel
theorem dX4_install_34 : decode cX4_install 34 = .ok (.aload_n 0, 1) := by decide +kernel
theorem dX4_install_35 : decode cX4_install 35 = .ok (.getfield 40, 3) := by decide +kernel
theorem dX4_install_38 : decode cX4_install 38 = .ok (.aload_n 0, 1) := by decide +kernel
theorem dX4_install_39 : decode cX4_install 39 = .ok (.getfield 18, 3) := by decide +kernel
theorem dX4_install_42 : decode cX4_install 42 = .ok (.invokevirtual 173, 3) := by decide +kernel
theorem dX4_install_45 : decode cX4_install 45 = .ok (.ifCond .ne 11, 3) := by decide +kernel
theorem dX4_install_48 : decode cX4_install 48 = .ok (.new 100, 3) := by decide +kernel
theorem dX4_install_51 : decode cX4_install 51 = .ok (.dup, 1) := by decide +kernel
theorem dX4_install_52 : decode cX4_install 52 = .ok (.invokespecial 102, 3) := by decide +kernel
theorem dX4_install_55 : decode cX4_install 55 = .ok (.athrow, 1) := by decide +kernel
theorem dX4_install_56 : decode cX4_install 56 = .ok (.aload_n 0, 1) := by decide +kernel
theorem dX4_install_57 : decode cX4_install 57 = .ok (.aload_n 0, 1) := by decide +kernel
theorem dX4_install_58 : decode cX4_install 58 = .ok (.getfield 40, 3) := by decide +kernel
theorem dX4_install_61 : decode cX4_install 61 = .ok (.invokevirtual 163, 3) := by decide +kernel
theorem dX4_install_64 : decode cX4_install 64 = .ok (.putfield 166, 3) := by decide +kernel
theorem dX4_install_67 : decode cX4_install 67 = .ok (.aload_n 0, 1) := by decide +kernel
theorem dX4_install_68 : decode cX4_install 68 = .ok (.dup, 1) := by decide +kernel
theorem dX4_install_69 : decode cX4_install 69 = .ok (.getfield 177, 3) := by decide +kernel
theorem dX4_install_72 : decode cX4_install 72 = .ok (.iconst 1, 1) := by decide +kernel
theorem dX4_install_73 : decode cX4_install 73 = .ok (.iadd, 1) := by decide +kernel
theorem dX4_install_74 : decode cX4_install 74 = .ok (.putfield 177, 3) := by decide +kernel
theorem dX4_install_77 : decode cX4_install 77 = .ok (.aload_n 0, 1) := by decide +kernel
theorem dX4_install_78 : decode cX4_install 78 = .ok (.getfield 40, 3) := by decide +kernel
theorem dX4_install_81 : decode cX4_install 81 = .ok (.invokevirtual 170, 3) := by decide +kernel
theorem dX4_install_84 : decode cX4_install 84 = .ok (.ireturn, 1) := by decide +kernel
theorem dX4_installed_0 : decode cX4_installed 0 = .ok (.aload_n 0, 1) := by decide +kernel
theorem dX4_installed_1 : decode cX4_installed 1 = .ok (.getfield 177, 3) := by decide +kernel
theorem dX4_installed_4 : decode cX4_installed 4 = .ok (.ireturn, 1) := by decide +kernel
set_option maxRecDepth 20000 in
theorem ggX4_refuseUnlessSearchable_X4_isName : GoodIn wsX4_refuseUnlessSearchable wsX4_isName := goodIn_r _ [9] (by decide +kernel) (by decide +kernel)
set_option maxRecDepth 20000 in
theorem gX4_refuseUnlessSearchable_X4_isName : GoodIn wsX4_refuseUnlessSearchable (va_wsS RX4 180 yX4_isName wsX4_isName) := goodIn_app (goodIn_of _ (by decide +kernel)) ggX4_refuseUnlessSearchable_X4_isName
set_option maxRecDepth 20000 in
theorem ggX4_refuseUnlessSearchable_X3_allowsSeeking : GoodIn wsX4_refuseUnlessSearchable wsX3_allowsSeeking := goodIn_r _ [14, 15, 16, 17, 13, 18, 19, 20, 21, 22, 23, 24, 25, 26, 27, 28, 29, 30, 31, 32, 33, 34, 35, 36, 37, 38, 39, 40, 41, 42, 43, 44, 45, 46, 47, 48, 49, 50, 51, 52, 53, 54, 62, 63, 64, 65, 66, 67, 68, 69, 70, 71, 72, 73, 74, 75, 76, 77, 78, 79] (by decide +kernel) (by decide +kernel)
set_option maxRecDepth 20000 in
theorem gX4_refuseUnlessSearchable_X3_allowsSeeking : GoodIn wsX4_refuseUnlessSearchable (wsV RX4 184 RX3 yX3_allowsSeeking wsX3_allowsSeeking) := goodIn_app (goodIn_of _ (by decide +kernel)) ggX4_refuseUnlessSearchable_X3_allowsSeeking
theorem dX4_refuseUnlessSearchable_0 : decode cX4_refuseUnlessSearchable 0 = .ok (.lload_n 1, 1) := by decide +kernel
theorem dX4_refuseUnlessSearchable_1 : decode cX4_refuseUnlessSearchable 1 = .ok (.iload_n 3, 1) := by decide +kernel
theorem dX4_refuseUnlessSearchable_2 : decode cX4_refuseUnlessSearchable 2 = .ok (.invokestatic 180, 3) := by decide +kernel
theorem dX4_refuseUnlessSearchable_5 : decode cX4_refuseUnlessSearchable 5 = .ok (.ifCond .ne 11, 3) := by decide +kernel
theorem dX4_refuseUnlessSearchable_8 : decode cX4_refuseUnlessSearchable 8 = .ok (.new 94, 3) := by decide +kernel
theorem dX4_refuseUnlessSearchable_11 : decode cX4_refuseUnlessSearchable 11 = .ok (.dup, 1) := by decide +kernel
theorem dX4_refuseUnlessSearchable_12 : decode cX4_refuseUnlessSearchable 12 = .ok (.invokespecial 96, 3) := by decide +kernel
theorem dX4_refuseUnlessSearchable_15 : decode cX4_refuseUnlessSearchable 15 = .ok (.athrow, 1) := by decide +kernel
theorem dX4_refuseUnlessSearchable_16 : decode cX4_refuseUnlessSearchable 16 = .ok (.aload_n 0, 1) := by decide +kernel
theorem dX4_refuseUnlessSearchable_17 : decode cX4_refuseUnlessSearchable 17 = .ok (.getfield 31, 3) := by decide +kernel
theorem dX4_refuseUnlessSearchable_20 : decode cX4_refuseUnlessSearchable 20 = .ok (.invokevirtual 184, 3) := by decide +kernel
theorem dX4_refuseUnlessSearchable_23 : decode cX4_refuseUnlessSearchable 23 = .ok (.ifCond .ne 11, 3) := by decide +kernel
theorem dX4_refuseUnlessSearchable_26 : decode cX4_refuseUnlessSearchable 26 = .ok (.new 132, 3) := by decide +kernel
theorem dX4_refuseUnlessSearchable_29 : decode cX4_refuseUnlessSearchable 29 = .ok (.dup, 1) := by decide +kernel
theorem dX4_refuseUnlessSearchable_30 : decode cX4_refuseUnlessSearchable 30 = .ok (.invokespecial 134, 3) := by decide +kernel
theorem dX4_refuseUnlessSearchable_33 : decode cX4_refuseUnlessSearchable 33 = .ok (.athrow, 1) := by decide +kernel
theorem dX4_refuseUnlessSearchable_34 : decode cX4_refuseUnlessSearchable 34 = .ok (.return_, 1) := by decide +kernel
theorem dX4_isName_0 : decode cX4_isName 0 = .ok (.iload_n 2, 1) := by decide +kernel
theorem dX4_isName_1 : decode cX4_isName 1 = .ok (.iconst 1, 1) := by decide +kernel
theorem dX4_isName_2 : decode cX4_isName 2 = .ok (.if_icmp .lt 8, 3) := by decide +kernel
theorem dX4_isName_5 : decode cX4_isName 5 = .ok (.iload_n 2, 1) := by decide +kernel
theorem dX4_isName_6 : decode cX4_isName 6 = .ok (.iconst 4, 1) := by decide +kernel
theorem dX4_isName_7 : decode cX4_isName 7 = .ok (.if_icmp .le 5, 3) := by decide +kernel
theorem dX4_isName_10 : decode cX4_isName 10 = .ok (.iconst 0, 1) := by decide +kernel
theorem dX4_isName_11 : decode cX4_isName 11 = .ok (.ireturn, 1) := by decide +kernel
theorem dX4_isName_12 : decode cX4_isName 12 = .ok (.iconst 0, 1) := by decide +kernel
theorem dX4_isName_13 : decode cX4_isName 13 = .ok (.istore_n 3, 1) := by decide +kernel
theorem dX4_isName_14 : decode cX4_isName 14 = .ok (.iload_n 3, 1) := by decide +kernel
theorem dX4_isName_15 : decode cX4_isName 15 = .ok (.iload_n 2, 1) := by decide +kernel
theorem dX4_isName_16 : decode cX4_isName 16 = .ok (.if_icmp .ge 38, 3) := by decide +kernel
theorem dX4_isName_19 : decode cX4_isName 19 = .ok (.lload_n 0, 1) := by decide +kernel
theorem dX4_isName_20 : decode cX4_isName 20 = .ok (.bipush 8, 2) := by decide +kernel
theorem dX4_isName_22 : decode cX4_isName 22 = .ok (.iload_n 3, 1) := by decide +kernel
theorem dX4_isName_23 : decode cX4_isName 23 = .ok (.imul, 1) := by decide +kernel
theorem dX4_isName_24 : decode cX4_isName 24 = .ok (.lushr, 1) := by decide +kernel
theorem dX4_isName_25 : decode cX4_isName 25 = .ok (.l2i, 1) := by decide +kernel
theorem dX4_isName_26 : decode cX4_isName 26 = .ok (.sipush 255, 3) := by decide +kernel
theorem dX4_isName_29 : decode cX4_isName 29 = .ok (.iand, 1) := by decide +kernel
theorem dX4_isName_30 : decode cX4_isName 30 = .ok (.istore 4, 2) := by decide +kernel
theorem dX4_isName_32 : decode cX4_isName 32 = .ok (.iload 4, 2) := by decide +kernel
theorem dX4_isName_34 : decode cX4_isName 34 = .ok (.bipush 97, 2) := by decide +kernel
theorem dX4_isName_36 : decode cX4_isName 36 = .ok (.if_icmp .lt 10, 3) := by decide +kernel
theorem dX4_isName_39 : decode cX4_isName 39 = .ok (.iload 4, 2) := by decide +kernel
theorem dX4_isName_41 : decode cX4_isName 41 = .ok (.bipush 122, 2) := by decide +kernel
theorem dX4_isName_43 : decode cX4_isName 43 = .ok (.if_icmp .le 5, 3) := by decide +kernel
theorem dX4_isName_46 : decode cX4_isName 46 = .ok (.iconst 0, 1) := by decide +kernel
theorem dX4_isName_47 : decode cX4_isName 47 = .ok (.ireturn, 1) := by decide +kernel
theorem dX4_isName_48 : decode cX4_isName 48 = .ok (.iinc 3 1, 3) := by decide +kernel
theorem dX4_isName_51 : decode cX4_isName 51 = .ok (.goto (-37), 3) := by decide +kernel
theorem dX4_isName_54 : decode cX4_isName 54 = .ok (.iconst 1, 1) := by decide +kernel
theorem dX4_isName_55 : decode cX4_isName 55 = .ok (.ireturn, 1) := by decide +kernel
theorem dX5_init_0 : decode cX5_init 0 = .ok (.aload_n 0, 1) := by decide +kernel
theorem dX5_init_1 : decode cX5_init 1 = .ok (.invokespecial 1, 3) := by decide +kernel
theorem dX5_init_4 : decode cX5_init 4 = .ok (.aload_n 0, 1) := by decide +kernel
theorem dX5_init_5 : decode cX5_init 5 = .ok (.sipush 1080, 3) := by decide +kernel
theorem dX5_init_8 : decode cX5_init 8 = .ok (.newarray .int, 2) := by decide +kernel
theorem dX5_init_10 : decode cX5_init 10 = .ok (.putfield 7, 3) := by decide +kernel
theorem dX5_init_13 : decode cX5_init 13 = .ok (.aload_n 0, 1) := by decide +kernel
theorem dX5_init_14 : decode cX5_init 14 = .ok (.bipush 9, 2) := by decide +kernel
theorem dX5_init_16 : decode cX5_init 16 = .ok (.newarray .int, 2) := by decide +kernel
theorem dX5_init_18 : decode cX5_init 18 = .ok (.putfield 13, 3) := by decide +kernel
theorem dX5_init_21 : decode cX5_init 21 = .ok (.aload_n 0, 1) := by decide +kernel
theorem dX5_init_22 : decode cX5_init 22 = .ok (.bipush 7, 2) := by decide +kernel
theorem dX5_init_24 : decode cX5_init 24 = .ok (.newarray .boolean, 2) := by decide +kernel
theorem dX5_init_26 : decode cX5_init 26 = .ok (.putfield 16, 3) := by decide +kernel
theorem dX5_init_29 : decode cX5_init 29 = .ok (.aload_n 0, 1) := by decide +kernel
theorem dX5_init_30 : decode cX5_init 30 = .ok (.bipush 8, 2) := by decide +kernel
theorem dX5_init_32 : decode cX5_init 32 = .ok (.newarray .int, 2) := by decide +kernel
theorem dX5_init_34 : decode cX5_init 34 = .ok (.putfield 20, 3) := by decide +kernel
theorem dX5_init_37 : decode cX5_init 37 = .ok (.aload_n 0, 1) := by decide +kernel
theorem dX5_init_38 : decode cX5_init 38 = .ok (.bipush 8, 2) := by decide +kernel
theorem dX5_init_40 : decode cX5_init 40 = .ok (.newarray .int, 2) := by decide +kernel
theorem dX5_init_42 : decode cX5_init 42 = .ok (.putfield 23, 3) := by decide +kernel
theorem dX5_init_45 : decode cX5_init 45 = .ok (.return_, 1) := by decide +kernel
theorem dX5_thrown_0 : decode cX5_thrown 0 = .ok (.aload_n 0, 1) := by decide +kernel
theorem dX5_thrown_1 : decode cX5_thrown 1 = .ok (.getfield 26, 3) := by decide +kernel
theorem dX5_thrown_4 : decode cX5_thrown 4 = .ok (.ireturn, 1) := by decide +kernel
theorem dX5_fail_0 : decode cX5_fail 0 = .ok (.aload_n 0, 1) := by decide +kernel
theorem dX5_fail_1 : decode cX5_fail 1 = .ok (.iload_n 1, 1) := by decide +kernel
theorem dX5_fail_2 : decode cX5_fail 2 = .ok (.putfield 26, 3) := by decide +kernel
theorem dX5_fail_5 : decode cX5_fail 5 = .ok (.iconst 0, 1) := by decide +kernel
theorem dX5_fail_6 : decode cX5_fail 6 = .ok (.ireturn, 1) := by decide +kernel
theorem dX5_add_0 : decode cX5_add 0 = .ok (.aload_n 0, 1) := by decide +kernel
theorem dX5_add_1 : decode cX5_add 1 = .ok (.getfield 7, 3) := by decide +kernel
theorem dX5_add_4 : decode cX5_add 4 = .ok (.sipush 840, 3) := by decide +kernel
theorem dX5_add_7 : decode cX5_add 7 = .ok (.aload_n 0, 1) := by decide +kernel
theorem dX5_add_8 : decode cX5_add 8 = .ok (.getfield 13, 3) := by decide +kernel
theorem dX5_add_11 : decode cX5_add 11 = .ok (.bipush 7, 2) := by decide +kernel
theorem dX5_add_13 : decode cX5_add 13 = .ok (.iaload, 1) := by decide +kernel
theorem dX5_add_14 : decode cX5_add 14 = .ok (.iadd, 1) := by decide +kernel
theorem dX5_add_15 : decode cX5_add 15 = .ok (.iload_n 1, 1) := by decide +kernel
theorem dX5_add_16 : decode cX5_add 16 = .ok (.sipush 255, 3) := by decide +kernel
theorem dX5_add_19 : decode cX5_add 19 = .ok (.iand, 1) := by decide +kernel
theorem dX5_add_20 : decode cX5_add 20 = .ok (.iastore, 1) := by decide +kernel
theorem dX5_add_21 : decode cX5_add 21 = .ok (.aload_n 0, 1) := by decide +kernel
theorem dX5_add_22 : decode cX5_add 22 = .ok (.getfield 13, 3) := by decide +kernel
theorem dX5_add_25 : decode cX5_add 25 = .ok (.bipush 7, 2) := by decide +kernel
theorem dX5_add_27 : decode cX5_add 27 = .ok (.dup2, 1) := by decide +kernel
theorem dX5_add_28 : decode cX5_add 28 = .ok (.iaload, 1) := by decide +kernel
theorem dX5_add_29 : decode cX5_add 29 = .ok (.iconst 1, 1) := by decide +kernel
theorem dX5_add_30 : decode cX5_add 30 = .ok (.iadd, 1) := by decide +kernel
theorem dX5_add_31 : decode cX5_add 31 = .ok (.iastore, 1) := by decide +kernel
theorem dX5_add_32 : decode cX5_add 32 = .ok (.return_, 1) := by decide +kernel
set_option maxRecDepth 20000 in
theorem ggX5_put_X5_add : GoodIn wsX5_put wsX5_add := goodIn_r _ [8, 9, 2, 10, 11, 12, 13, 14, 15, 16, 17, 18, 19, 20, 21, 22, 23, 24, 25, 26, 27] (by decide +kernel) (by decide +kernel)
set_option maxRecDepth 20000 in
theorem gX5_put_X5_add : GoodIn wsX5_put (wsV RX5 32 RX5 yX5_add wsX5_add) := goodIn_app (goodIn_of _ (by decide +kernel)) ggX5_put_X5_add
theorem dX5_put_0 : decode cX5_put 0 = .ok (.aload_n 0, 1) := by decide +kernel
theorem dX5_put_1 : decode cX5_put 1 = .ok (.iconst 0, 1) := by decide +kernel
theorem dX5_put_2 : decode cX5_put 2 = .ok (.putfield 26, 3) := by decide +kernel
theorem dX5_put_5 : decode cX5_put 5 = .ok (.iload_n 3, 1) := by decide +kernel
theorem dX5_put_6 : decode cX5_put 6 = .ok (.iconst 1, 1) := by decide +kernel
theorem dX5_put_7 : decode cX5_put 7 = .ok (.if_icmp .lt 23, 3) := by decide +kernel
theorem dX5_put_10 : decode cX5_put 10 = .ok (.iload_n 3, 1) := by decide +kernel
end
section
theorem dX5_put_11 : decode cX5_put 11 = .ok (.bipush 8, 2) := by decide +kernel
theorem dX5_put_13 : decode cX5_put 13 = .ok (.if_icmp .gt 17, 3) := by decide +kernel
theorem dX5_put_16 : decode cX5_put 16 = .ok (.aload_n 0, 1) := by decide +kernel
theorem dX5_put_17 : decode cX5_put 17 = .ok (.getfield 13, 3) := by decide +kernel
theorem dX5_put_20 : decode cX5_put 20 = .ok (.bipush 7, 2) := by decide +kernel
theorem dX5_put_22 : decode cX5_put 22 = .ok (.iaload, 1) := by decide +kernel
theorem dX5_put_23 : decode cX5_put 23 = .ok (.iload_n 3, 1) := by decide +kernel
theorem dX5_put_24 : decode cX5_put 24 = .ok (.iadd, 1) := by decide +kernel
theorem dX5_put_25 : decode cX5_put 25 = .ok (.bipush 120, 2) := by decide +kernel
theorem dX5_put_27 : decode cX5_put 27 = .ok (.if_icmp .le 5, 3) := by decide +kernel
theorem dX5_put_30 : decode cX5_put 30 = .ok (.iconst 0, 1) := by decide +kernel
theorem dX5_put_31 : decode cX5_put 31 = .ok (.ireturn, 1) := by decide +kernel
theorem dX5_put_32 : decode cX5_put 32 = .ok (.iconst 0, 1) := by decide +kernel
theorem dX5_put_33 : decode cX5_put 33 = .ok (.istore 4, 2) := by decide +kernel
theorem dX5_put_35 : decode cX5_put 35 = .ok (.iload 4, 2) := by decide +kernel
theorem dX5_put_37 : decode cX5_put 37 = .ok (.iload_n 3, 1) := by decide +kernel
theorem dX5_put_38 : decode cX5_put 38 = .ok (.if_icmp .ge 25, 3) := by decide +kernel
theorem dX5_put_41 : decode cX5_put 41 = .ok (.aload_n 0, 1) := by decide +kernel
theorem dX5_put_42 : decode cX5_put 42 = .ok (.lload_n 1, 1) := by decide +kernel
theorem dX5_put_43 : decode cX5_put 43 = .ok (.bipush 8, 2) := by decide +kernel
theorem dX5_put_45 : decode cX5_put 45 = .ok (.iload 4, 2) := by decide +kernel
theorem dX5_put_47 : decode cX5_put 47 = .ok (.imul, 1) := by decide +kernel
theorem dX5_put_48 : decode cX5_put 48 = .ok (.lshr, 1) := by decide +kernel
theorem dX5_put_49 : decode cX5_put 49 = .ok (.ldc2_w 30, 3) := by decide +kernel
theorem dX5_put_52 : decode cX5_put 52 = .ok (.land, 1) := by decide +kernel
theorem dX5_put_53 : decode cX5_put 53 = .ok (.l2i, 1) := by decide +kernel
theorem dX5_put_54 : decode cX5_put 54 = .ok (.invokevirtual 32, 3) := by decide +kernel
theorem dX5_put_57 : decode cX5_put 57 = .ok (.iinc 4 1, 3) := by decide +kernel
theorem dX5_put_60 : decode cX5_put 60 = .ok (.goto (-25), 3) := by decide +kernel
theorem dX5_put_63 : decode cX5_put 63 = .ok (.iconst 1, 1) := by decide +kernel
theorem dX5_put_64 : decode cX5_put 64 = .ok (.ireturn, 1) := by decide +kernel
theorem dX5_cut_0 : decode cX5_cut 0 = .ok (.aload_n 0, 1) := by decide +kernel
theorem dX5_cut_1 : decode cX5_cut 1 = .ok (.iconst 0, 1) := by decide +kernel
theorem dX5_cut_2 : decode cX5_cut 2 = .ok (.putfield 26, 3) := by decide +kernel
theorem dX5_cut_5 : decode cX5_cut 5 = .ok (.iload_n 1, 1) := by decide +kernel
theorem dX5_cut_6 : decode cX5_cut 6 = .ok (.ifCond .lt 14, 3) := by decide +kernel
theorem dX5_cut_9 : decode cX5_cut 9 = .ok (.iload_n 1, 1) := by decide +kernel
theorem dX5_cut_10 : decode cX5_cut 10 = .ok (.aload_n 0, 1) := by decide +kernel
theorem dX5_cut_11 : decode cX5_cut 11 = .ok (.getfield 13, 3) := by decide +kernel
theorem dX5_cut_14 : decode cX5_cut 14 = .ok (.bipush 7, 2) := by decide +kernel
theorem dX5_cut_16 : decode cX5_cut 16 = .ok (.iaload, 1) := by decide +kernel
theorem dX5_cut_17 : decode cX5_cut 17 = .ok (.if_icmp .le 5, 3) := by decide +kernel
theorem dX5_cut_20 : decode cX5_cut 20 = .ok (.iconst 0, 1) := by decide +kernel
theorem dX5_cut_21 : decode cX5_cut 21 = .ok (.ireturn, 1) := by decide +kernel
theorem dX5_cut_22 : decode cX5_cut 22 = .ok (.aload_n 0, 1) := by decide +kernel
theorem dX5_cut_23 : decode cX5_cut 23 = .ok (.getfield 13, 3) := by decide +kernel
theorem dX5_cut_26 : decode cX5_cut 26 = .ok (.bipush 7, 2) := by decide +kernel
theorem dX5_cut_28 : decode cX5_cut 28 = .ok (.iload_n 1, 1) := by decide +kernel
theorem dX5_cut_29 : decode cX5_cut 29 = .ok (.iastore, 1) := by decide +kernel
theorem dX5_cut_30 : decode cX5_cut 30 = .ok (.iconst 1, 1) := by decide +kernel
theorem dX5_cut_31 : decode cX5_cut 31 = .ok (.ireturn, 1) := by decide +kernel
theorem dX5_alter_0 : decode cX5_alter 0 = .ok (.aload_n 0, 1) := by decide +kernel
theorem dX5_alter_1 : decode cX5_alter 1 = .ok (.iconst 0, 1) := by decide +kernel
theorem dX5_alter_2 : decode cX5_alter 2 = .ok (.putfield 26, 3) := by decide +kernel
theorem dX5_alter_5 : decode cX5_alter 5 = .ok (.iload_n 1, 1) := by decide +kernel
theorem dX5_alter_6 : decode cX5_alter 6 = .ok (.ifCond .lt 14, 3) := by decide +kernel
theorem dX5_alter_9 : decode cX5_alter 9 = .ok (.iload_n 1, 1) := by decide +kernel
theorem dX5_alter_10 : decode cX5_alter 10 = .ok (.aload_n 0, 1) := by decide +kernel
theorem dX5_alter_11 : decode cX5_alter 11 = .ok (.getfield 13, 3) := by decide +kernel
theorem dX5_alter_14 : decode cX5_alter 14 = .ok (.bipush 7, 2) := by decide +kernel
theorem dX5_alter_16 : decode cX5_alter 16 = .ok (.iaload, 1) := by decide +kernel
theorem dX5_alter_17 : decode cX5_alter 17 = .ok (.if_icmp .lt 5, 3) := by decide +kernel
theorem dX5_alter_20 : decode cX5_alter 20 = .ok (.iconst 0, 1) := by decide +kernel
theorem dX5_alter_21 : decode cX5_alter 21 = .ok (.ireturn, 1) := by decide +kernel
theorem dX5_alter_22 : decode cX5_alter 22 = .ok (.aload_n 0, 1) := by decide +kernel
theorem dX5_alter_23 : decode cX5_alter 23 = .ok (.getfield 7, 3) := by decide +kernel
theorem dX5_alter_26 : decode cX5_alter 26 = .ok (.sipush 840, 3) := by decide +kernel
theorem dX5_alter_29 : decode cX5_alter 29 = .ok (.iload_n 1, 1) := by decide +kernel
theorem dX5_alter_30 : decode cX5_alter 30 = .ok (.iadd, 1) := by decide +kernel
theorem dX5_alter_31 : decode cX5_alter 31 = .ok (.iload_n 2, 1) := by decide +kernel
theorem dX5_alter_32 : decode cX5_alter 32 = .ok (.sipush 255, 3) := by decide +kernel
theorem dX5_alter_35 : decode cX5_alter 35 = .ok (.iand, 1) := by decide +kernel
theorem dX5_alter_36 : decode cX5_alter 36 = .ok (.iastore, 1) := by decide +kernel
theorem dX5_alter_37 : decode cX5_alter 37 = .ok (.iconst 1, 1) := by decide +kernel
theorem dX5_alter_38 : decode cX5_alter 38 = .ok (.ireturn, 1) := by decide +kernel
theorem dX5_length_0 : decode cX5_length 0 = .ok (.aload_n 0, 1) := by decide +kernel
theorem dX5_length_1 : decode cX5_length 1 = .ok (.iconst 0, 1) := by decide +kernel
theorem dX5_length_2 : decode cX5_length 2 = .ok (.putfield 26, 3) := by decide +kernel
theorem dX5_length_5 : decode cX5_length 5 = .ok (.aload_n 0, 1) := by decide +kernel
theorem dX5_length_6 : decode cX5_length 6 = .ok (.getfield 13, 3) := by decide +kernel
theorem dX5_length_9 : decode cX5_length 9 = .ok (.bipush 7, 2) := by decide +kernel
theorem dX5_length_11 : decode cX5_length 11 = .ok (.iaload, 1) := by decide +kernel
theorem dX5_length_12 : decode cX5_length 12 = .ok (.ireturn, 1) := by decide +kernel
theorem dX5_at_0 : decode cX5_at 0 = .ok (.aload_n 0, 1) := by decide +kernel
theorem dX5_at_1 : decode cX5_at 1 = .ok (.iload_n 1, 1) := by decide +kernel
theorem dX5_at_2 : decode cX5_at 2 = .ok (.ifCond .lt 14, 3) := by decide +kernel
theorem dX5_at_5 : decode cX5_at 5 = .ok (.iload_n 1, 1) := by decide +kernel
theorem dX5_at_6 : decode cX5_at 6 = .ok (.aload_n 0, 1) := by decide +kernel
theorem dX5_at_7 : decode cX5_at 7 = .ok (.getfield 13, 3) := by decide +kernel
theorem dX5_at_10 : decode cX5_at 10 = .ok (.bipush 7, 2) := by decide +kernel
theorem dX5_at_12 : decode cX5_at 12 = .ok (.iaload, 1) := by decide +kernel
theorem dX5_at_13 : decode cX5_at 13 = .ok (.if_icmp .lt 7, 3) := by decide +kernel
theorem dX5_at_16 : decode cX5_at 16 = .ok (.iconst 1, 1) := by decide +kernel
theorem dX5_at_17 : decode cX5_at 17 = .ok (.goto 4, 3) := by decide +kernel
theorem dX5_at_20 : decode cX5_at 20 = .ok (.iconst 0, 1) := by decide +kernel
theorem dX5_at_21 : decode cX5_at 21 = .ok (.putfield 26, 3) := by decide +kernel
theorem dX5_at_24 : decode cX5_at 24 = .ok (.aload_n 0, 1) := by decide +kernel
theorem dX5_at_25 : decode cX5_at 25 = .ok (.getfield 26, 3) := by decide +kernel
theorem dX5_at_28 : decode cX5_at 28 = .ok (.ifCond .le 7, 3) := by decide +kernel
theorem dX5_at_31 : decode cX5_at 31 = .ok (.iconst 0, 1) := by decide +kernel
theorem dX5_at_32 : decode cX5_at 32 = .ok (.goto 13, 3) := by decide +kernel
theorem dX5_at_35 : decode cX5_at 35 = .ok (.aload_n 0, 1) := by decide +kernel
theorem dX5_at_36 : decode cX5_at 36 = .ok (.getfield 7, 3) := by decide +kernel
theorem dX5_at_39 : decode cX5_at 39 = .ok (.sipush 840, 3) := by decide +kernel
theorem dX5_at_42 : decode cX5_at 42 = .ok (.iload_n 1, 1) := by decide +kernel
theorem dX5_at_43 : decode cX5_at 43 = .ok (.iadd, 1) := by decide +kernel
theorem dX5_at_44 : decode cX5_at 44 = .ok (.iaload, 1) := by decide +kernel
theorem dX5_at_45 : decode cX5_at 45 = .ok (.ireturn, 1) := by decide +kernel
theorem dX5_mixOf_0 : decode cX5_mixOf 0 = .ok (.iload_n 3, 1) := by decide +kernel
theorem dX5_mixOf_1 : decode cX5_mixOf 1 = .ok (.ldc 36, 2) := by decide +kernel
theorem dX5_mixOf_3 : decode cX5_mixOf 3 = .ok (.imul, 1) := by decide +kernel
theorem dX5_mixOf_4 : decode cX5_mixOf 4 = .ok (.istore 4, 2) := by decide +kernel
theorem dX5_mixOf_6 : decode cX5_mixOf 6 = .ok (.iload_n 1, 1) := by decide +kernel
theorem dX5_mixOf_7 : decode cX5_mixOf 7 = .ok (.istore 5, 2) := by decide +kernel
theorem dX5_mixOf_9 : decode cX5_mixOf 9 = .ok (.iload 5, 2) := by decide +kernel
theorem dX5_mixOf_11 : decode cX5_mixOf 11 = .ok (.iload_n 1, 1) := by decide +kernel
theorem dX5_mixOf_12 : decode cX5_mixOf 12 = .ok (.iload_n 2, 1) := by decide +kernel
theorem dX5_mixOf_13 : decode cX5_mixOf 13 = .ok (.iadd, 1) := by decide +kernel
theorem dX5_mixOf_14 : decode cX5_mixOf 14 = .ok (.if_icmp .ge 34, 3) := by decide +kernel
theorem dX5_mixOf_17 : decode cX5_mixOf 17 = .ok (.iload 4, 2) := by decide +kernel
theorem dX5_mixOf_19 : decode cX5_mixOf 19 = .ok (.aload_n 0, 1) := by decide +kernel
theorem dX5_mixOf_20 : decode cX5_mixOf 20 = .ok (.getfield 7, 3) := by decide +kernel
theorem dX5_mixOf_23 : decode cX5_mixOf 23 = .ok (.iload 5, 2) := by decide +kernel
theorem dX5_mixOf_25 : decode cX5_mixOf 25 = .ok (.iaload, 1) := by decide +kernel
theorem dX5_mixOf_26 : decode cX5_mixOf 26 = .ok (.ixor, 1) := by decide +kernel
theorem dX5_mixOf_27 : decode cX5_mixOf 27 = .ok (.ldc 37, 2) := by decide +kernel
theorem dX5_mixOf_29 : decode cX5_mixOf 29 = .ok (.imul, 1) := by decide +kernel
theorem dX5_mixOf_30 : decode cX5_mixOf 30 = .ok (.istore 4, 2) := by decide +kernel
theorem dX5_mixOf_32 : decode cX5_mixOf 32 = .ok (.iload 4, 2) := by decide +kernel
theorem dX5_mixOf_34 : decode cX5_mixOf 34 = .ok (.iload 4, 2) := by decide +kernel
theorem dX5_mixOf_36 : decode cX5_mixOf 36 = .ok (.bipush 15, 2) := by decide +kernel
theorem dX5_mixOf_38 : decode cX5_mixOf 38 = .ok (.iushr, 1) := by decide +kernel
theorem dX5_mixOf_39 : decode cX5_mixOf 39 = .ok (.ixor, 1) := by decide +kernel
theorem dX5_mixOf_40 : decode cX5_mixOf 40 = .ok (.istore 4, 2) := by decide +kernel
theorem dX5_mixOf_42 : decode cX5_mixOf 42 = .ok (.iinc 5 1, 3) := by decide +kernel
theorem dX5_mixOf_45 : decode cX5_mixOf 45 = .ok (.goto (-36), 3) := by decide +kernel
theorem dX5_mixOf_48 : decode cX5_mixOf 48 = .ok (.iload 4, 2) := by decide +kernel
theorem dX5_mixOf_50 : decode cX5_mixOf 50 = .ok (.ireturn, 1) := by decide +kernel
set_option maxRecDepth 20000 in
theorem ggX5_mix_X5_mixOf : GoodIn wsX5_mix wsX5_mixOf := goodIn_r _ [7, 8, 9, 10, 11, 12, 13, 14, 15, 16, 17, 18, 19, 20, 21, 22, 23, 24, 25, 26, 27, 28] (by decide +kernel) (by decide +kernel)
set_option maxRecDepth 20000 in
theorem gX5_mix_X5_mixOf : GoodIn wsX5_mix (wsV RX5 38 RX5 yX5_mixOf wsX5_mixOf) := goodIn_app (goodIn_of _ (by decide +kernel)) ggX5_mix_X5_mixOf
theorem dX5_mix_0 : decode cX5_mix 0 = .ok (.aload_n 0, 1) := by decide +kernel
theorem dX5_mix_1 : decode cX5_mix 1 = .ok (.iconst 0, 1) := by decide +kernel
theorem dX5_mix_2 : decode cX5_mix 2 = .ok (.putfield 26, 3) := by decide +kernel
theorem dX5_mix_5 : decode cX5_mix 5 = .ok (.aload_n 0, 1) := by decide +kernel
theorem dX5_mix_6 : decode cX5_mix 6 = .ok (.sipush 840, 3) := by decide +kernel
theorem dX5_mix_9 : decode cX5_mix 9 = .ok (.aload_n 0, 1) := by decide +kernel
theorem dX5_mix_10 : decode cX5_mix 10 = .ok (.getfield 13, 3) := by decide +kernel
theorem dX5_mix_13 : decode cX5_mix 13 = .ok (.bipush 7, 2) := by decide +kernel
theorem dX5_mix_15 : decode cX5_mix 15 = .ok (.iaload, 1) := by decide +kernel
theorem dX5_mix_16 : decode cX5_mix 16 = .ok (.iload_n 1, 1) := by decide +kernel
theorem dX5_mix_17 : decode cX5_mix 17 = .ok (.invokevirtual 38, 3) := by decide +kernel
theorem dX5_mix_20 : decode cX5_mix 20 = .ok (.ireturn, 1) := by decide +kernel
set_option maxRecDepth 20000 in
theorem ggX5_addFour_X5_add : GoodIn wsX5_addFour wsX5_add := goodIn_r _ [5, 6, 7, 8, 9, 10, 11, 12, 13, 14, 15, 16, 17, 18, 19, 20, 21, 22, 23, 24, 25] (by decide +kernel) (by decide +kernel)
set_option maxRecDepth 20000 in
theorem gX5_addFour_X5_add : GoodIn wsX5_addFour (wsV RX5 32 RX5 yX5_add wsX5_add) := goodIn_app (goodIn_of _ (by decide +kernel)) ggX5_addFour_X5_add
theorem dX5_addFour_0 : decode cX5_addFour 0 = .ok (.bipush 24, 2) := by decide +kernel
theorem dX5_addFour_2 : decode cX5_addFour 2 = .ok (.istore_n 2, 1) := by decide +kernel
theorem dX5_addFour_3 : decode cX5_addFour 3 = .ok (.iload_n 2, 1) := by decide +kernel
theorem dX5_addFour_4 : decode cX5_addFour 4 = .ok (.ifCond .lt 18, 3) := by decide +kernel
theorem dX5_addFour_7 : decode cX5_addFour 7 = .ok (.aload_n 0, 1) := by decide +kernel
theorem dX5_addFour_8 : decode cX5_addFour 8 = .ok (.iload_n 1, 1) := by decide +kernel
theorem dX5_addFour_9 : decode cX5_addFour 9 = .ok (.iload_n 2, 1) := by decide +kernel
theorem dX5_addFour_10 : decode cX5_addFour 10 = .ok (.ishr, 1) := by decide +kernel
theorem dX5_addFour_11 : decode cX5_addFour 11 = .ok (.invokevirtual 32, 3) := by decide +kernel
theorem dX5_addFour_14 : decode cX5_addFour 14 = .ok (.iload_n 2, 1) := by decide +kernel
theorem dX5_addFour_15 : decode cX5_addFour 15 = .ok (.bipush 8, 2) := by decide +kernel
theorem dX5_addFour_17 : decode cX5_addFour 17 = .ok (.isub, 1) := by decide +kernel
theorem dX5_addFour_18 : decode cX5_addFour 18 = .ok (.istore_n 2, 1) := by decide +kernel
theorem dX5_addFour_19 : decode cX5_addFour 19 = .ok (.goto (-16), 3) := by decide +kernel
theorem dX5_addFour_22 : decode cX5_addFour 22 = .ok (.return_, 1) := by decide +kernel
set_option maxRecDepth 20000 in
theorem ggX5_digest_X5_mixOf : GoodIn wsX5_digest wsX5_mixOf := goodIn_r _ [7, 8, 9, 10, 19, 20, 21, 22, 23, 24, 25, 26, 27, 28, 29, 30, 31, 32, 33, 34, 35, 36] (by decide +kernel) (by decide +kernel)
set_option maxRecDepth 20000 in
theorem gX5_digest_X5_mixOf : GoodIn wsX5_digest (wsV RX5 38 RX5 yX5_mixOf wsX5_mixOf) := goodIn_app (goodIn_of _ (by decide +kernel)) ggX5_digest_X5_mixOf
set_option maxRecDepth 20000 in
theorem ggX5_digest_X5_addFour : GoodIn wsX5_digest wsX5_addFour := goodIn_r _ [14, 15, 16, 17, 6, 18, 9, 2, 19, 20, 21, 22, 23, 24, 25, 26, 27, 28, 29, 30, 31, 32, 33, 34, 35, 36] (by decide +kernel) (by decide +kernel)
set_option maxRecDepth 20000 in
theorem gX5_digest_X5_addFour : GoodIn wsX5_digest (wsV RX5 42 RX5 yX5_addFour wsX5_addFour) := goodIn_app (goodIn_of _ (by decide +kernel)) ggX5_digest_X5_addFour
theorem dX5_digest_0 : decode cX5_digest 0 = .ok (.aload_n 0, 1) := by decide +kernel
theorem dX5_digest_1 : decode cX5_digest 1 = .ok (.iconst 0, 1) := by decide +kernel
theorem dX5_digest_2 : decode cX5_digest 2 = .ok (.putfield 26, 3) := by decide +kernel
theorem dX5_digest_5 : decode cX5_digest 5 = .ok (.aload_n 0, 1) := by decide +kernel
theorem dX5_digest_6 : decode cX5_digest 6 = .ok (.getfield 13, 3) := by decide +kernel
theorem dX5_digest_9 : decode cX5_digest 9 = .ok (.bipush 7, 2) := by decide +kernel
theorem dX5_digest_11 : decode cX5_digest 11 = .ok (.iaload, 1) := by decide +kernel
theorem dX5_digest_12 : decode cX5_digest 12 = .ok (.iconst 4, 1) := by decide +kernel
theorem dX5_digest_13 : decode cX5_digest 13 = .ok (.iadd, 1) := by decide +kernel
theorem dX5_digest_14 : decode cX5_digest 14 = .ok (.bipush 120, 2) := by decide +kernel
theorem dX5_digest_16 : decode cX5_digest 16 = .ok (.if_icmp .le 5, 3) := by decide +kernel
theorem dX5_digest_19 : decode cX5_digest 19 = .ok (.iconst 0, 1) := by decide +kernel
theorem dX5_digest_20 : decode cX5_digest 20 = .ok (.ireturn, 1) := by decide +kernel
theorem dX5_digest_21 : decode cX5_digest 21 = .ok (.aload_n 0, 1) := by decide +kernel
theorem dX5_digest_22 : decode cX5_digest 22 = .ok (.aload_n 0, 1) := by decide +kernel
theorem dX5_digest_23 : decode cX5_digest 23 = .ok (.sipush 960, 3) := by decide +kernel
theorem dX5_digest_26 : decode cX5_digest 26 = .ok (.aload_n 0, 1) := by decide +kernel
theorem dX5_digest_27 : decode cX5_digest 27 = .ok (.getfield 13, 3) := by decide +kernel
theorem dX5_digest_30 : decode cX5_digest 30 = .ok (.bipush 8, 2) := by decide +kernel
theorem dX5_digest_32 : decode cX5_digest 32 = .ok (.iaload, 1) := by decide +kernel
theorem dX5_digest_33 : decode cX5_digest 33 = .ok (.iconst 0, 1) := by decide +kernel
theorem dX5_digest_34 : decode cX5_digest 34 = .ok (.invokevirtual 38, 3) := by decide +kernel
theorem dX5_digest_37 : decode cX5_digest 37 = .ok (.invokevirtual 42, 3) := by decide +kernel
theorem dX5_digest_40 : decode cX5_digest 40 = .ok (.iconst 1, 1) := by decide +kernel
theorem dX5_digest_41 : decode cX5_digest 41 = .ok (.ireturn, 1) := by decide +kernel
theorem dX5_four_0 : decode cX5_four 0 = .ok (.aload_n 0, 1) := by decide +kernel
theorem dX5_four_1 : decode cX5_four 1 = .ok (.getfield 7, 3) := by decide +kernel
theorem dX5_four_4 : decode cX5_four 4 = .ok (.iload_n 1, 1) := by decide +kernel
theorem dX5_four_5 : decode cX5_four 5 = .ok (.iaload, 1) := by decide +kernel
theorem dX5_four_6 : decode cX5_four 6 = .ok (.bipush 24, 2) := by decide +kernel
theorem dX5_four_8 : decode cX5_four 8 = .ok (.ishl, 1) := by decide +kernel
theorem dX5_four_9 : decode cX5_four 9 = .ok (.aload_n 0, 1) := by decide +kernel
theorem dX5_four_10 : decode cX5_four 10 = .ok (.getfield 7, 3) := by decide +kernel
theorem dX5_four_13 : decode cX5_four 13 = .ok (.iload_n 1, 1) := by decide +kernel
theorem dX5_four_14 : decode cX5_four 14 = .ok (.iconst 1, 1) := by decide +kernel
theorem dX5_four_15 : decode cX5_four 15 = .ok (.iadd, 1) := by decide +kernel
theorem dX5_four_16 : decode cX5_four 16 = .ok (.iaload, 1) := by decide +kernel
theorem dX5_four_17 : decode cX5_four 17 = .ok (.bipush 16, 2) := by decide +kernel
theorem dX5_four_19 : decode cX5_four 19 = .ok (.ishl, 1) := by decide +kernel
theorem dX5_four_20 : decode cX5_four 20 = .ok (.ior, 1) := by decide +kernel
theorem dX5_four_21 : decode cX5_four 21 = .ok (.aload_n 0, 1) := by decide +kernel
theorem dX5_four_22 : decode cX5_four 22 = .ok (.getfield 7, 3) := by decide +kernel
theorem dX5_four_25 : decode cX5_four 25 = .ok (.iload_n 1, 1) := by decide +kernel
theorem dX5_four_26 : decode cX5_four 26 = .ok (.iconst 2, 1) := by decide +kernel
theorem dX5_four_27 : decode cX5_four 27 = .ok (.iadd, 1) := by decide +kernel
theorem dX5_four_28 : decode cX5_four 28 = .ok (.iaload, 1) := by decide +kernel
theorem dX5_four_29 : decode cX5_four 29 = .ok (.bipush 8, 2) := by decide +kernel
theorem dX5_four_31 : decode cX5_four 31 = .ok (.ishl, 1) := by decide +kernel
theorem dX5_four_32 : decode cX5_four 32 = .ok (.ior, 1) := by decide +kernel
theorem dX5_four_33 : decode cX5_four 33 = .ok (.aload_n 0, 1) := by decide +kernel
theorem dX5_four_34 : decode cX5_four 34 = .ok (.getfield 7, 3) := by decide +kernel
theorem dX5_four_37 : decode cX5_four 37 = .ok (.iload_n 1, 1) := by decide +kernel
theorem dX5_four_38 : decode cX5_four 38 = .ok (.iconst 3, 1) := by decide +kernel
theorem dX5_four_39 : decode cX5_four 39 = .ok (.iadd, 1) := by decide +kernel
theorem dX5_four_40 : decode cX5_four 40 = .ok (.iaload, 1) := by decide +kernel
theorem dX5_four_41 : decode cX5_four 41 = .ok (.ior, 1) := by decide +kernel
theorem dX5_four_42 : decode cX5_four 42 = .ok (.ireturn, 1) := by decide +kernel
theorem dX5_next_0 : decode cX5_next 0 = .ok (.aload_n 0, 1) := by decide +kernel
theorem dX5_next_1 : decode cX5_next 1 = .ok (.aload_n 0, 1) := by decide +kernel
theorem dX5_next_2 : decode cX5_next 2 = .ok (.getfield 45, 3) := by decide +kernel
theorem dX5_next_5 : decode cX5_next 5 = .ok (.ifCond .eq 18, 3) := by decide +kernel
theorem dX5_next_8 : decode cX5_next 8 = .ok (.aload_n 0, 1) := by decide +kernel
theorem dX5_next_9 : decode cX5_next 9 = .ok (.getfield 49, 3) := by decide +kernel
theorem dX5_next_12 : decode cX5_next 12 = .ok (.aload_n 0, 1) := by decide +kernel
theorem dX5_next_13 : decode cX5_next 13 = .ok (.getfield 52, 3) := by decide +kernel
theorem dX5_next_16 : decode cX5_next 16 = .ok (.if_icmp .ge 7, 3) := by decide +kernel
theorem dX5_next_19 : decode cX5_next 19 = .ok (.iconst 1, 1) := by decide +kernel
theorem dX5_next_20 : decode cX5_next 20 = .ok (.goto 4, 3) := by decide +kernel
theorem dX5_next_23 : decode cX5_next 23 = .ok (.iconst 0, 1) := by decide +kernel
theorem dX5_next_24 : decode cX5_next 24 = .ok (.putfield 45, 3) := by decide +kernel
theorem dX5_next_27 : decode cX5_next 27 = .ok (.aload_n 0, 1) := by decide +kernel
theorem dX5_next_28 : decode cX5_next 28 = .ok (.getfield 45, 3) := by decide +kernel
theorem dX5_next_31 : decode cX5_next 31 = .ok (.ifCond .eq 15, 3) := by decide +kernel
theorem dX5_next_34 : decode cX5_next 34 = .ok (.aload_n 0, 1) := by decide +kernel
theorem dX5_next_35 : decode cX5_next 35 = .ok (.getfield 7, 3) := by decide +kernel
theorem dX5_next_38 : decode cX5_next 38 = .ok (.aload_n 0, 1) := by decide +kernel
theorem dX5_next_39 : decode cX5_next 39 = .ok (.getfield 49, 3) := by decide +kernel
theorem dX5_next_42 : decode cX5_next 42 = .ok (.iaload, 1) := by decide +kernel
theorem dX5_next_43 : decode cX5_next 43 = .ok (.goto 4, 3) := by decide +kernel
theorem dX5_next_46 : decode cX5_next 46 = .ok (.iconst 0, 1) := by decide +kernel
theorem dX5_next_47 : decode cX5_next 47 = .ok (.istore_n 1, 1) := by decide +kernel
theorem dX5_next_48 : decode cX5_next 48 = .ok (.aload_n 0, 1) := by decide +kernel
theorem dX5_next_49 : decode cX5_next 49 = .ok (.dup, 1) := by decide +kernel
theorem dX5_next_50 : decode cX5_next 50 = .ok (.getfield 49, 3) := by decide +kernel
theorem dX5_next_53 : decode cX5_next 53 = .ok (.iconst 1, 1) := by decide +kernel
theorem dX5_next_54 : decode cX5_next 54 = .ok (.iadd, 1) := by decide +kernel
theorem dX5_next_55 : decode cX5_next 55 = .ok (.putfield 49, 3) := by decide +kernel
theorem dX5_next_58 : decode cX5_next 58 = .ok (.iload_n 1, 1) := by decide +kernel
theorem dX5_next_59 : decode cX5_next 59 = .ok (.ireturn, 1) := by decide +kernel
set_option maxRecDepth 20000 in
theorem ggX5_between_X5_next : GoodIn wsX5_between wsX5_next := goodIn_r _ [6, 1, 7, 8, 9, 10, 11, 12, 13, 14, 15, 16, 17, 18, 19, 20, 21, 22, 23, 24, 25, 26, 27] (by decide +kernel) (by decide +kernel)
set_option maxRecDepth 20000 in
theorem gX5_between_X5_next : GoodIn wsX5_between (wsV RX5 55 RX5 yX5_next wsX5_next) := goodIn_app (goodIn_of _ (by decide +kernel)) ggX5_between_X5_next
theorem dX5_between_0 : decode cX5_between 0 = .ok (.aload_n 0, 1) := by decide +kernel
theorem dX5_between_1 : decode cX5_between 1 = .ok (.invokevirtual 55, 3) := by decide +kernel
theorem dX5_between_4 : decode cX5_between 4 = .ok (.istore_n 3, 1) := by decide +kernel
theorem dX5_between_5 : decode cX5_between 5 = .ok (.aload_n 0, 1) := by decide +kernel
theorem dX5_between_6 : decode cX5_between 6 = .ok (.aload_n 0, 1) := by decide +kernel
theorem dX5_between_7 : decode cX5_between 7 = .ok (.getfield 45, 3) := by decide +kernel
theorem dX5_between_10 : decode cX5_between 10 = .ok (.ifCond .eq 17, 3) := by decide +kernel
theorem dX5_between_13 : decode cX5_between 13 = .ok (.iload_n 3, 1) := by decide +kernel
theorem dX5_between_14 : decode cX5_between 14 = .ok (.iload_n 1, 1) := by decide +kernel
theorem dX5_between_15 : decode cX5_between 15 = .ok (.if_icmp .lt 12, 3) := by decide +kernel
theorem dX5_between_18 : decode cX5_between 18 = .ok (.iload_n 3, 1) := by decide +kernel
theorem dX5_between_19 : decode cX5_between 19 = .ok (.iload_n 2, 1) := by decide +kernel
theorem dX5_between_20 : decode cX5_between 20 = .ok (.if_icmp .gt 7, 3) := by decide +kernel
theorem dX5_between_23 : decode cX5_between 23 = .ok (.iconst 1, 1) := by decide +kernel
theorem dX5_between_24 : decode cX5_between 24 = .ok (.goto 4, 3) := by decide +kernel
theorem dX5_between_27 : decode cX5_between 27 = .ok (.iconst 0, 1) := by decide +kernel
theorem dX5_between_28 : decode cX5_between 28 = .ok (.putfield 45, 3) := by decide +kernel
theorem dX5_between_31 : decode cX5_between 31 = .ok (.iload_n 3, 1) := by decide +kernel
theorem dX5_between_32 : decode cX5_between 32 = .ok (.ireturn, 1) := by decide +kernel
theorem dX5_skip_0 : decode cX5_skip 0 = .ok (.aload_n 0, 1) := by decide +kernel
theorem dX5_skip_1 : decode cX5_skip 1 = .ok (.aload_n 0, 1) := by decide +kernel
theorem dX5_skip_2 : decode cX5_skip 2 = .ok (.getfield 45, 3) := by decide +kernel
theorem dX5_skip_5 : decode cX5_skip 5 = .ok (.ifCond .eq 20, 3) := by decide +kernel
theorem dX5_skip_8 : decode cX5_skip 8 = .ok (.aload_n 0, 1) := by decide +kernel
theorem dX5_skip_9 : decode cX5_skip 9 = .ok (.getfield 49, 3) := by decide +kernel
theorem dX5_skip_12 : decode cX5_skip 12 = .ok (.iload_n 1, 1) := by decide +kernel
theorem dX5_skip_13 : decode cX5_skip 13 = .ok (.iadd, 1) := by decide +kernel
theorem dX5_skip_14 : decode cX5_skip 14 = .ok (.aload_n 0, 1) := by decide +kernel
theorem dX5_skip_15 : decode cX5_skip 15 = .ok (.getfield 52, 3) := by decide +kernel
theorem dX5_skip_18 : decode cX5_skip 18 = .ok (.if_icmp .gt 7, 3) := by decide +kernel
theorem dX5_skip_21 : decode cX5_skip 21 = .ok (.iconst 1, 1) := by decide +kernel
theorem dX5_skip_22 : decode cX5_skip 22 = .ok (.goto 4, 3) := by decide +kernel
theorem dX5_skip_25 : decode cX5_skip 25 = .ok (.iconst 0, 1) := by decide +kernel
theorem dX5_skip_26 : decode cX5_skip 26 = .ok (.putfield 45, 3) := by decide +kernel
theorem dX5_skip_29 : decode cX5_skip 29 = .ok (.aload_n 0, 1) := by decide +kernel
theorem dX5_skip_30 : decode cX5_skip 30 = .ok (.aload_n 0, 1) := by decide +kernel
theorem dX5_skip_31 : decode cX5_skip 31 = .ok (.getfield 49, 3) := by decide +kernel
theorem dX5_skip_34 : decode cX5_skip 34 = .ok (.iload_n 1, 1) := by decide +kernel
theorem dX5_skip_35 : decode cX5_skip 35 = .ok (.iadd, 1) := by decide +kernel
theorem dX5_skip_36 : decode cX5_skip 36 = .ok (.putfield 49, 3) := by decide +kernel
theorem dX5_skip_39 : decode cX5_skip 39 = .ok (.return_, 1) := by decide +kernel
set_option maxRecDepth 20000 in
theorem ggX5_passKeys_X5_between : GoodIn wsX5_passKeys wsX5_between := goodIn_r _ [8, 3, 9, 10, 11, 7, 12, 1, 13, 14, 15, 16, 17, 18, 19, 20, 21, 22, 23, 24, 25, 26, 27, 28, 29, 30, 31, 32] (by decide +kernel) (by decide +kernel)
set_option maxRecDepth 20000 in
theorem gX5_passKeys_X5_between : GoodIn wsX5_passKeys (wsV RX5 62 RX5 yX5_between wsX5_between) := goodIn_app (goodIn_of _ (by decide +kernel)) ggX5_passKeys_X5_between
theorem dX5_passKeys_0 : decode cX5_passKeys 0 = .ok (.aload_n 0, 1) := by decide +kernel
theorem dX5_passKeys_1 : decode cX5_passKeys 1 = .ok (.aload_n 0, 1) := by decide +kernel
theorem dX5_passKeys_2 : decode cX5_passKeys 2 = .ok (.getfield 49, 3) := by decide +kernel
theorem dX5_passKeys_5 : decode cX5_passKeys 5 = .ok (.putfield 59, 3) := by decide +kernel
theorem dX5_passKeys_8 : decode cX5_passKeys 8 = .ok (.aload_n 0, 1) := by decide +kernel
theorem dX5_passKeys_9 : decode cX5_passKeys 9 = .ok (.iconst 1, 1) := by decide +kernel
theorem dX5_passKeys_10 : decode cX5_passKeys 10 = .ok (.iconst 4, 1) := by decide +kernel
theorem dX5_passKeys_11 : decode cX5_passKeys 11 = .ok (.invokevirtual 62, 3) := by decide +kernel
theorem dX5_passKeys_14 : decode cX5_passKeys 14 = .ok (.istore_n 1, 1) := by decide +kernel
theorem dX5_passKeys_15 : decode cX5_passKeys 15 = .ok (.aload_n 0, 1) := by decide +kernel
theorem dX5_passKeys_16 : decode cX5_passKeys 16 = .ok (.iconst 1, 1) := by decide +kernel
theorem dX5_passKeys_17 : decode cX5_passKeys 17 = .ok (.iconst 4, 1) := by decide +kernel
theorem dX5_passKeys_18 : decode cX5_passKeys 18 = .ok (.invokevirtual 62, 3) := by decide +kernel
theorem dX5_passKeys_21 : decode cX5_passKeys 21 = .ok (.istore_n 2, 1) := by decide +kernel
theorem dX5_passKeys_22 : decode cX5_passKeys 22 = .ok (.aload_n 0, 1) := by decide +kernel
theorem dX5_passKeys_23 : decode cX5_passKeys 23 = .ok (.aload_n 0, 1) := by decide +kernel
theorem dX5_passKeys_24 : decode cX5_passKeys 24 = .ok (.getfield 45, 3) := by decide +kernel
theorem dX5_passKeys_27 : decode cX5_passKeys 27 = .ok (.ifCond .eq 12, 3) := by decide +kernel
theorem dX5_passKeys_30 : decode cX5_passKeys 30 = .ok (.iload_n 2, 1) := by decide +kernel
theorem dX5_passKeys_31 : decode cX5_passKeys 31 = .ok (.iload_n 1, 1) := by decide +kernel
theorem dX5_passKeys_32 : decode cX5_passKeys 32 = .ok (.if_icmp .lt 7, 3) := by decide +kernel
theorem dX5_passKeys_35 : decode cX5_passKeys 35 = .ok (.iconst 1, 1) := by decide +kernel
theorem dX5_passKeys_36 : decode cX5_passKeys 36 = .ok (.goto 4, 3) := by decide +kernel
theorem dX5_passKeys_39 : decode cX5_passKeys 39 = .ok (.iconst 0, 1) := by decide +kernel
theorem dX5_passKeys_40 : decode cX5_passKeys 40 = .ok (.putfield 45, 3) := by decide +kernel
theorem dX5_passKeys_43 : decode cX5_passKeys 43 = .ok (.iconst (-1), 1) := by decide +kernel
theorem dX5_passKeys_44 : decode cX5_passKeys 44 = .ok (.istore_n 3, 1) := by decide +kernel
theorem dX5_passKeys_45 : decode cX5_passKeys 45 = .ok (.iconst 0, 1) := by decide +kernel
theorem dX5_passKeys_46 : decode cX5_passKeys 46 = .ok (.istore 4, 2) := by decide +kernel
theorem dX5_passKeys_48 : decode cX5_passKeys 48 = .ok (.iload 4, 2) := by decide +kernel
theorem dX5_passKeys_50 : decode cX5_passKeys 50 = .ok (.iload_n 2, 1) := by decide +kernel
theorem dX5_passKeys_51 : decode cX5_passKeys 51 = .ok (.if_icmp .ge 26, 3) := by decide +kernel
theorem dX5_passKeys_54 : decode cX5_passKeys 54 = .ok (.aload_n 0, 1) := by decide +kernel
theorem dX5_passKeys_55 : decode cX5_passKeys 55 = .ok (.getfield 45, 3) := by decide +kernel
theorem dX5_passKeys_58 : decode cX5_passKeys 58 = .ok (.ifCond .eq 19, 3) := by decide +kernel
theorem dX5_passKeys_61 : decode cX5_passKeys 61 = .ok (.aload_n 0, 1) := by decide +kernel
theorem dX5_passKeys_62 : decode cX5_passKeys 62 = .ok (.iload_n 3, 1) := by decide +kernel
theorem dX5_passKeys_63 : decode cX5_passKeys 63 = .ok (.iconst 1, 1) := by decide +kernel
theorem dX5_passKeys_64 : decode cX5_passKeys 64 = .ok (.iadd, 1) := by decide +kernel
theorem dX5_passKeys_65 : decode cX5_passKeys 65 = .ok (.bipush 9, 2) := by decide +kernel
theorem dX5_passKeys_67 : decode cX5_passKeys 67 = .ok (.invokevirtual 62, 3) := by decide +kernel
theorem dX5_passKeys_70 : decode cX5_passKeys 70 = .ok (.istore_n 3, 1) := by decide +kernel
theorem dX5_passKeys_71 : decode cX5_passKeys 71 = .ok (.iinc 4 1, 3) := by decide +kernel
theorem dX5_passKeys_74 : decode cX5_passKeys 74 = .ok (.goto (-26), 3) := by decide +kernel
theorem dX5_passKeys_77 : decode cX5_passKeys 77 = .ok (.return_, 1) := by decide +kernel
set_option maxRecDepth 20000 in
theorem ggX5_passLetters_X5_between : GoodIn wsX5_passLetters wsX5_between := goodIn_r _ [6, 1, 7, 8, 9, 5, 10, 11, 12, 13, 14, 15, 16, 17, 18, 19, 20, 21, 22, 23, 24, 25, 26, 27, 28, 29, 30, 31] (by decide +kernel) (by decide +kernel)
set_option maxRecDepth 20000 in
theorem gX5_passLetters_X5_between : GoodIn wsX5_passLetters (wsV RX5 62 RX5 yX5_between wsX5_between) := goodIn_app (goodIn_of _ (by decide +kernel)) ggX5_passLetters_X5_between
theorem dX5_passLetters_0 : decode cX5_passLetters 0 = .ok (.aload_n 0, 1) := by decide +kernel
theorem dX5_passLetters_1 : decode cX5_passLetters 1 = .ok (.iload_n 1, 1) := by decide +kernel
theorem dX5_passLetters_2 : decode cX5_passLetters 2 = .ok (.iload_n 2, 1) := by decide +kernel
theorem dX5_passLetters_3 : decode cX5_passLetters 3 = .ok (.invokevirtual 62, 3) := by decide +kernel
theorem dX5_passLetters_6 : decode cX5_passLetters 6 = .ok (.istore_n 3, 1) := by decide +kernel
theorem dX5_passLetters_7 : decode cX5_passLetters 7 = .ok (.iconst 0, 1) := by decide +kernel
theorem dX5_passLetters_8 : decode cX5_passLetters 8 = .ok (.istore 4, 2) := by decide +kernel
theorem dX5_passLetters_10 : decode cX5_passLetters 10 = .ok (.iload 4, 2) := by decide +kernel
theorem dX5_passLetters_12 : decode cX5_passLetters 12 = .ok (.iload_n 3, 1) := by decide +kernel
theorem dX5_passLetters_13 : decode cX5_passLetters 13 = .ok (.if_icmp .ge 25, 3) := by decide +kernel
theorem dX5_passLetters_16 : decode cX5_passLetters 16 = .ok (.aload_n 0, 1) := by decide +kernel
theorem dX5_passLetters_17 : decode cX5_passLetters 17 = .ok (.getfield 45, 3) := by decide +kernel
theorem dX5_passLetters_20 : decode cX5_passLetters 20 = .ok (.ifCond .eq 18, 3) := by decide +kernel
theorem dX5_passLetters_23 : decode cX5_passLetters 23 = .ok (.aload_n 0, 1) := by decide +kernel
theorem dX5_passLetters_24 : decode cX5_passLetters 24 = .ok (.bipush 97, 2) := by decide +kernel
theorem dX5_passLetters_26 : decode cX5_passLetters 26 = .ok (.bipush 122, 2) := by decide +kernel
theorem dX5_passLetters_28 : decode cX5_passLetters 28 = .ok (.invokevirtual 62, 3) := by decide +kernel
theorem dX5_passLetters_31 : decode cX5_passLetters 31 = .ok (.pop, 1) := by decide +kernel
theorem dX5_passLetters_32 : decode cX5_passLetters 32 = .ok (.iinc 4 1, 3) := by decide +kernel
theorem dX5_passLetters_35 : decode cX5_passLetters 35 = .ok (.goto (-25), 3) := by decide +kernel
theorem dX5_passLetters_38 : decode cX5_passLetters 38 = .ok (.return_, 1) := by decide +kernel
theorem dX5_areSame_0 : decode cX5_areSame 0 = .ok (.iconst 1, 1) := by decide +kernel
theorem dX5_areSame_1 : decode cX5_areSame 1 = .ok (.istore_n 3, 1) := by decide +kernel
theorem dX5_areSame_2 : decode cX5_areSame 2 = .ok (.iconst 0, 1) := by decide +kernel
theorem dX5_areSame_3 : decode cX5_areSame 3 = .ok (.istore 4, 2) := by decide +kernel
theorem dX5_areSame_5 : decode cX5_areSame 5 = .ok (.iload 4, 2) := by decide +kernel
theorem dX5_areSame_7 : decode cX5_areSame 7 = .ok (.aload_n 0, 1) := by decide +kernel
theorem dX5_areSame_8 : decode cX5_areSame 8 = .ok (.getfield 7, 3) := by decide +kernel
theorem dX5_areSame_11 : decode cX5_areSame 11 = .ok (.iload_n 1, 1) := by decide +kernel
theorem dX5_areSame_12 : decode cX5_areSame 12 = .ok (.iaload, 1) := by decide +kernel
theorem dX5_areSame_13 : decode cX5_areSame 13 = .ok (.if_icmp .gt 40, 3) := by decide +kernel
theorem dX5_areSame_16 : decode cX5_areSame 16 = .ok (.iload_n 3, 1) := by decide +kernel
theorem dX5_areSame_17 : decode cX5_areSame 17 = .ok (.ifCond .eq 28, 3) := by decide +kernel
theorem dX5_areSame_20 : decode cX5_areSame 20 = .ok (.aload_n 0, 1) := by decide +kernel
theorem dX5_areSame_21 : decode cX5_areSame 21 = .ok (.getfield 7, 3) := by decide +kernel
theorem dX5_areSame_24 : decode cX5_areSame 24 = .ok (.iload_n 1, 1) := by decide +kernel
theorem dX5_areSame_25 : decode cX5_areSame 25 = .ok (.iload 4, 2) := by decide +kernel
theorem dX5_areSame_27 : decode cX5_areSame 27 = .ok (.iadd, 1) := by decide +kernel
theorem dX5_areSame_28 : decode cX5_areSame 28 = .ok (.iaload, 1) := by decide +kernel
theorem dX5_areSame_29 : decode cX5_areSame 29 = .ok (.aload_n 0, 1) := by decide +kernel
theorem dX5_areSame_30 : decode cX5_areSame 30 = .ok (.getfield 7, 3) := by decide +kernel
theorem dX5_areSame_33 : decode cX5_areSame 33 = .ok (.iload_n 2, 1) := by decide +kernel
theorem dX5_areSame_34 : decode cX5_areSame 34 = .ok (.iload 4, 2) := by decide +kernel
theorem dX5_areSame_36 : decode cX5_areSame 36 = .ok (.iadd, 1) := by decide +kernel
theorem dX5_areSame_37 : decode cX5_areSame 37 = .ok (.iaload, 1) := by decide +kernel
theorem dX5_areSame_38 : decode cX5_areSame 38 = .ok (.if_icmp .ne 7, 3) := by decide +kernel
theorem dX5_areSame_41 : decode cX5_areSame 41 = .ok (.iconst 1, 1) := by decide +kernel
theorem dX5_areSame_42 : decode cX5_areSame 42 = .ok (.goto 4, 3) := by decide +kernel
theorem dX5_areSame_45 : decode cX5_areSame 45 = .ok (.iconst 0, 1) := by decide +kernel
theorem dX5_areSame_46 : decode cX5_areSame 46 = .ok (.istore_n 3, 1) := by decide +kernel
theorem dX5_areSame_47 : decode cX5_areSame 47 = .ok (.iinc 4 1, 3) := by decide +kernel
theorem dX5_areSame_50 : decode cX5_areSame 50 = .ok (.goto (-45), 3) := by decide +kernel
theorem dX5_areSame_53 : decode cX5_areSame 53 = .ok (.iload_n 3, 1) := by decide +kernel
theorem dX5_areSame_54 : decode cX5_areSame 54 = .ok (.ireturn, 1) := by decide +kernel
set_option maxRecDepth 20000 in
theorem ggX5_passTargets_X5_between : GoodIn wsX5_passTargets wsX5_between := goodIn_r _ [8, 2, 9, 10, 11, 7, 12, 1, 13, 3, 31, 32, 33, 34, 35, 36, 37, 38, 39, 40, 41, 42, 43, 44, 45, 46, 47, 48] (by decide +kernel) (by decide +kernel)
set_option maxRecDepth 20000 in
theorem gX5_passTargets_X5_between : GoodIn wsX5_passTargets (wsV RX5 62 RX5 yX5_between wsX5_between) := goodIn_app (goodIn_of _ (by decide +kernel)) ggX5_passTargets_X5_between
set_option maxRecDepth 20000 in
theorem ggX5_passTargets_X5_passLetters : GoodIn wsX5_passTargets wsX5_passLetters := goodIn_r _ [17, 2, 4, 5, 6, 7, 8, 9, 10, 11, 12, 1, 13, 3, 31, 32, 33, 34, 35, 36, 37, 38, 39, 40, 41, 42, 43, 44, 45, 46, 47, 48] (by decide +kernel) (by decide +kernel)
set_option maxRecDepth 20000 in
theorem gX5_passTargets_X5_passLetters : GoodIn wsX5_passTargets (wsV RX5 66 RX5 yX5_passLetters wsX5_passLetters) := goodIn_app (goodIn_of _ (by decide +kernel)) ggX5_passTargets_X5_passLetters
set_option maxRecDepth 20000 in
theorem ggX5_passTargets_X5_areSame : GoodIn wsX5_passTargets wsX5_areSame := goodIn_r _ [21, 3, 31, 32, 33, 34, 35, 36, 37, 38, 39, 40, 41, 42, 43, 44, 45, 46, 47, 48] (by decide +kernel) (by decide +kernel)
set_option maxRecDepth 20000 in
theorem gX5_passTargets_X5_areSame : GoodIn wsX5_passTargets (wsV RX5 70 RX5 yX5_areSame wsX5_areSame) := goodIn_app (goodIn_of _ (by decide +kernel)) ggX5_passTargets_X5_areSame
set_option maxRecDepth 20000 in
theorem ggX5_passTargets_X5_skip : GoodIn wsX5_passTargets wsX5_skip := goodIn_r _ [25, 2, 1, 13, 31, 32, 33, 34, 35, 36, 37, 38, 39, 40, 41, 42, 43, 44, 45, 46, 47, 48] (by decide +kernel) (by decide +kernel)
set_option maxRecDepth 20000 in
theorem gX5_passTargets_X5_skip : GoodIn wsX5_passTargets (wsV RX5 74 RX5 yX5_skip wsX5_skip) := goodIn_app (goodIn_of _ (by decide +kernel)) ggX5_passTargets_X5_skip
set_option maxRecDepth 20000 in
theorem ggX5_passTargets_X5_passKeys : GoodIn wsX5_passTargets wsX5_passKeys := goodIn_r _ [29, 1, 30, 2, 4, 5, 6, 7, 8, 9, 10, 11, 12, 13, 3, 31, 32, 33, 34, 35, 36, 37, 38, 39, 40, 41, 42, 43, 44, 45, 46, 47, 48] (by decide +kernel) (by decide +kernel)
set_option maxRecDepth 20000 in
theorem gX5_passTargets_X5_passKeys : GoodIn wsX5_passTargets (wsV RX5 77 RX5 yX5_passKeys wsX5_passKeys) := goodIn_app (goodIn_of _ (by decide +kernel)) ggX5_passTargets_X5_passKeys
theorem dX5_passTargets_0 : decode cX5_passTargets 0 = .ok (.aload_n 0, 1) := by decide +kernel
theorem dX5_passTargets_1 : decode cX5_passTargets 1 = .ok (.iconst 0, 1) := by decide +kernel
theorem dX5_passTargets_2 : decode cX5_passTargets 2 = .ok (.iconst 4, 1) := by decide +kernel
theorem dX5_passTargets_3 : decode cX5_passTargets 3 = .ok (.invokevirtual 62, 3) := by decide +kernel
theorem dX5_passTargets_6 : decode cX5_passTargets 6 = .ok (.istore_n 1, 1) := by decide +kernel
theorem dX5_passTargets_7 : decode cX5_passTargets 7 = .ok (.aload_n 0, 1) := by decide +kernel
theorem dX5_passTargets_8 : decode cX5_passTargets 8 = .ok (.getfield 49, 3) := by decide +kernel
theorem dX5_passTargets_11 : decode cX5_passTargets 11 = .ok (.istore_n 2, 1) := by decide +kernel
theorem dX5_passTargets_12 : decode cX5_passTargets 12 = .ok (.iconst 0, 1) := by decide +kernel
theorem dX5_passTargets_13 : decode cX5_passTargets 13 = .ok (.istore_n 3, 1) := by decide +kernel
theorem dX5_passTargets_14 : decode cX5_passTargets 14 = .ok (.iload_n 3, 1) := by decide +kernel
theorem dX5_passTargets_15 : decode cX5_passTargets 15 = .ok (.iload_n 1, 1) := by decide +kernel
theorem dX5_passTargets_16 : decode cX5_passTargets 16 = .ok (.if_icmp .ge 88, 3) := by decide +kernel
theorem dX5_passTargets_19 : decode cX5_passTargets 19 = .ok (.aload_n 0, 1) := by decide +kernel
theorem dX5_passTargets_20 : decode cX5_passTargets 20 = .ok (.getfield 45, 3) := by decide +kernel
theorem dX5_passTargets_23 : decode cX5_passTargets 23 = .ok (.ifCond .eq 81, 3) := by decide +kernel
theorem dX5_passTargets_26 : decode cX5_passTargets 26 = .ok (.aload_n 0, 1) := by decide +kernel
theorem dX5_passTargets_27 : decode cX5_passTargets 27 = .ok (.getfield 49, 3) := by decide +kernel
theorem dX5_passTargets_30 : decode cX5_passTargets 30 = .ok (.istore 4, 2) := by decide +kernel
theorem dX5_passTargets_32 : decode cX5_passTargets 32 = .ok (.aload_n 0, 1) := by decide +kernel
theorem dX5_passTargets_33 : decode cX5_passTargets 33 = .ok (.iconst 1, 1) := by decide +kernel
theorem dX5_passTargets_34 : decode cX5_passTargets 34 = .ok (.iconst 4, 1) := by decide +kernel
theorem dX5_passTargets_35 : decode cX5_passTargets 35 = .ok (.invokevirtual 66, 3) := by decide +kernel
theorem dX5_passTargets_38 : decode cX5_passTargets 38 = .ok (.iload_n 2, 1) := by decide +kernel
theorem dX5_passTargets_39 : decode cX5_passTargets 39 = .ok (.istore 5, 2) := by decide +kernel
theorem dX5_passTargets_41 : decode cX5_passTargets 41 = .ok (.aload_n 0, 1) := by decide +kernel
theorem dX5_passTargets_42 : decode cX5_passTargets 42 = .ok (.getfield 45, 3) := by decide +kernel
theorem dX5_passTargets_45 : decode cX5_passTargets 45 = .ok (.ifCond .eq 48, 3) := by decide +kernel
theorem dX5_passTargets_48 : decode cX5_passTargets 48 = .ok (.iload 5, 2) := by decide +kernel
theorem dX5_passTargets_50 : decode cX5_passTargets 50 = .ok (.iload 4, 2) := by decide +kernel
theorem dX5_passTargets_52 : decode cX5_passTargets 52 = .ok (.if_icmp .ge 41, 3) := by decide +kernel
theorem dX5_passTargets_55 : decode cX5_passTargets 55 = .ok (.aload_n 0, 1) := by decide +kernel
theorem dX5_passTargets_56 : decode cX5_passTargets 56 = .ok (.aload_n 0, 1) := by decide +kernel
theorem dX5_passTargets_57 : decode cX5_passTargets 57 = .ok (.iload 5, 2) := by decide +kernel
theorem dX5_passTargets_59 : decode cX5_passTargets 59 = .ok (.iload 4, 2) := by decide +kernel
theorem dX5_passTargets_61 : decode cX5_passTargets 61 = .ok (.invokevirtual 70, 3) := by decide +kernel
theorem dX5_passTargets_64 : decode cX5_passTargets 64 = .ok (.ifCond .ne 7, 3) := by decide +kernel
theorem dX5_passTargets_67 : decode cX5_passTargets 67 = .ok (.iconst 1, 1) := by decide +kernel
theorem dX5_passTargets_68 : decode cX5_passTargets 68 = .ok (.goto 4, 3) := by decide +kernel
theorem dX5_passTargets_71 : decode cX5_passTargets 71 = .ok (.iconst 0, 1) := by decide +kernel
theorem dX5_passTargets_72 : decode cX5_passTargets 72 = .ok (.putfield 45, 3) := by decide +kernel
theorem dX5_passTargets_75 : decode cX5_passTargets 75 = .ok (.iload 5, 2) := by decide +kernel
theorem dX5_passTargets_77 : decode cX5_passTargets 77 = .ok (.aload_n 0, 1) := by decide +kernel
theorem dX5_passTargets_78 : decode cX5_passTargets 78 = .ok (.getfield 7, 3) := by decide +kernel
theorem dX5_passTargets_81 : decode cX5_passTargets 81 = .ok (.iload 5, 2) := by decide +kernel
theorem dX5_passTargets_83 : decode cX5_passTargets 83 = .ok (.iaload, 1) := by decide +kernel
theorem dX5_passTargets_84 : decode cX5_passTargets 84 = .ok (.iadd, 1) := by decide +kernel
theorem dX5_passTargets_85 : decode cX5_passTargets 85 = .ok (.bipush 6, 2) := by decide +kernel
theorem dX5_passTargets_87 : decode cX5_passTargets 87 = .ok (.iadd, 1) := by decide +kernel
theorem dX5_passTargets_88 : decode cX5_passTargets 88 = .ok (.istore 5, 2) := by decide +kernel
theorem dX5_passTargets_90 : decode cX5_passTargets 90 = .ok (.goto (-49), 3) := by decide +kernel
theorem dX5_passTargets_93 : decode cX5_passTargets 93 = .ok (.aload_n 0, 1) := by decide +kernel
theorem dX5_passTargets_94 : decode cX5_passTargets 94 = .ok (.iconst 5, 1) := by decide +kernel
theorem dX5_passTargets_95 : decode cX5_passTargets 95 = .ok (.invokevirtual 74, 3) := by decide +kernel
theorem dX5_passTargets_98 : decode cX5_passTargets 98 = .ok (.iinc 3 1, 3) := by decide +kernel
theorem dX5_passTargets_101 : decode cX5_passTargets 101 = .ok (.goto (-87), 3) := by decide +kernel
theorem dX5_passTargets_104 : decode cX5_passTargets 104 = .ok (.aload_n 0, 1) := by decide +kernel
theorem dX5_passTargets_105 : decode cX5_passTargets 105 = .ok (.iconst 0, 1) := by decide +kernel
theorem dX5_passTargets_106 : decode cX5_passTargets 106 = .ok (.iconst 3, 1) := by decide +kernel
theorem dX5_passTargets_107 : decode cX5_passTargets 107 = .ok (.invokevirtual 62, 3) := by decide +kernel
theorem dX5_passTargets_110 : decode cX5_passTargets 110 = .ok (.istore_n 1, 1) := by decide +kernel
theorem dX5_passTargets_111 : decode cX5_passTargets 111 = .ok (.iconst 0, 1) := by decide +kernel
theorem dX5_passTargets_112 : decode cX5_passTargets 112 = .ok (.istore_n 3, 1) := by decide +kernel
theorem dX5_passTargets_113 : decode cX5_passTargets 113 = .ok (.iconst 0, 1) := by decide +kernel
theorem dX5_passTargets_114 : decode cX5_passTargets 114 = .ok (.istore 4, 2) := by decide +kernel
theorem dX5_passTargets_116 : decode cX5_passTargets 116 = .ok (.iload 4, 2) := by decide +kernel
theorem dX5_passTargets_118 : decode cX5_passTargets 118 = .ok (.iload_n 1, 1) := by decide +kernel
theorem dX5_passTargets_119 : decode cX5_passTargets 119 = .ok (.if_icmp .ge 74, 3) := by decide +kernel
theorem dX5_passTargets_122 : decode cX5_passTargets 122 = .ok (.aload_n 0, 1) := by decide +kernel
theorem dX5_passTargets_123 : decode cX5_passTargets 123 = .ok (.getfield 45, 3) := by decide +kernel
theorem dX5_passTargets_126 : decode cX5_passTargets 126 = .ok (.ifCond .eq 67, 3) := by decide +kernel
theorem dX5_passTargets_129 : decode cX5_passTargets 129 = .ok (.aload_n 0, 1) := by decide +kernel
theorem dX5_passTargets_130 : decode cX5_passTargets 130 = .ok (.iconst 4, 1) := by decide +kernel
theorem dX5_passTargets_131 : decode cX5_passTargets 131 = .ok (.bipush 6, 2) := by decide +kernel
theorem dX5_passTargets_133 : decode cX5_passTargets 133 = .ok (.invokevirtual 62, 3) := by decide +kernel
theorem dX5_passTargets_136 : decode cX5_passTargets 136 = .ok (.istore 5, 2) := by decide +kernel
theorem dX5_passTargets_138 : decode cX5_passTargets 138 = .ok (.aload_n 0, 1) := by decide +kernel
theorem dX5_passTargets_139 : decode cX5_passTargets 139 = .ok (.aload_n 0, 1) := by decide +kernel
theorem dX5_passTargets_140 : decode cX5_passTargets 140 = .ok (.getfield 45, 3) := by decide +kernel
theorem dX5_passTargets_143 : decode cX5_passTargets 143 = .ok (.ifCond .eq 16, 3) := by decide +kernel
theorem dX5_passTargets_146 : decode cX5_passTargets 146 = .ok (.iload_n 3, 1) := by decide +kernel
theorem dX5_passTargets_147 : decode cX5_passTargets 147 = .ok (.iload 5, 2) := by decide +kernel
theorem dX5_passTargets_149 : decode cX5_passTargets 149 = .ok (.ishr, 1) := by decide +kernel
theorem dX5_passTargets_150 : decode cX5_passTargets 150 = .ok (.iconst 1, 1) := by decide +kernel
theorem dX5_passTargets_151 : decode cX5_passTargets 151 = .ok (.iand, 1) := by decide +kernel
theorem dX5_passTargets_152 : decode cX5_passTargets 152 = .ok (.ifCond .ne 7, 3) := by decide +kernel
theorem dX5_passTargets_155 : decode cX5_passTargets 155 = .ok (.iconst 1, 1) := by decide +kernel
theorem dX5_passTargets_156 : decode cX5_passTargets 156 = .ok (.goto 4, 3) := by decide +kernel
theorem dX5_passTargets_159 : decode cX5_passTargets 159 = .ok (.iconst 0, 1) := by decide +kernel
theorem dX5_passTargets_160 : decode cX5_passTargets 160 = .ok (.putfield 45, 3) := by decide +kernel
theorem dX5_passTargets_163 : decode cX5_passTargets 163 = .ok (.iload_n 3, 1) := by decide +kernel
theorem dX5_passTargets_164 : decode cX5_passTargets 164 = .ok (.iconst 1, 1) := by decide +kernel
theorem dX5_passTargets_165 : decode cX5_passTargets 165 = .ok (.iload 5, 2) := by decide +kernel
theorem dX5_passTargets_167 : decode cX5_passTargets 167 = .ok (.ishl, 1) := by decide +kernel
theorem dX5_passTargets_168 : decode cX5_passTargets 168 = .ok (.ior, 1) := by decide +kernel
theorem dX5_passTargets_169 : decode cX5_passTargets 169 = .ok (.istore_n 3, 1) := by decide +kernel
theorem dX5_passTargets_170 : decode cX5_passTargets 170 = .ok (.aload_n 0, 1) := by decide +kernel
theorem dX5_passTargets_171 : decode cX5_passTargets 171 = .ok (.iconst 0, 1) := by decide +kernel
theorem dX5_passTargets_172 : decode cX5_passTargets 172 = .ok (.iconst 1, 1) := by decide +kernel
theorem dX5_passTargets_173 : decode cX5_passTargets 173 = .ok (.invokevirtual 62, 3) := by decide +kernel
theorem dX5_passTargets_176 : decode cX5_passTargets 176 = .ok (.pop, 1) := by decide +kernel
theorem dX5_passTargets_177 : decode cX5_passTargets 177 = .ok (.aload_n 0, 1) := by decide +kernel
theorem dX5_passTargets_178 : decode cX5_passTargets 178 = .ok (.invokevirtual 77, 3) := by decide +kernel
theorem dX5_passTargets_181 : decode cX5_passTargets 181 = .ok (.aload_n 0, 1) := by decide +kernel
theorem dX5_passTargets_182 : decode cX5_passTargets 182 = .ok (.iconst 0, 1) := by decide +kernel
theorem dX5_passTargets_183 : decode cX5_passTargets 183 = .ok (.iconst 3, 1) := by decide +kernel
theorem dX5_passTargets_184 : decode cX5_passTargets 184 = .ok (.invokevirtual 66, 3) := by decide +kernel
theorem dX5_passTargets_187 : decode cX5_passTargets 187 = .ok (.iinc 4 1, 3) := by decide +kernel
theorem dX5_passTargets_190 : decode cX5_passTargets 190 = .ok (.goto (-74), 3) := by decide +kernel
theorem dX5_passTargets_193 : decode cX5_passTargets 193 = .ok (.return_, 1) := by decide +kernel
set_option maxRecDepth 20000 in
theorem ggX5_passBody_X5_passKeys : GoodIn wsX5_passBody wsX5_passKeys := goodIn_r _ [6, 7, 8, 1, 9, 10, 11, 5, 12, 13, 14, 15, 16, 17, 18, 35, 36, 37, 38, 39, 40, 41, 42, 43, 44, 45, 46, 47, 48, 49, 50, 51, 52] (by decide +kernel) (by decide +kernel)
set_option maxRecDepth 20000 in
theorem gX5_passBody_X5_passKeys : GoodIn wsX5_passBody (wsV RX5 77 RX5 yX5_passKeys wsX5_passKeys) := goodIn_app (goodIn_of _ (by decide +kernel)) ggX5_passBody_X5_passKeys
set_option maxRecDepth 20000 in
theorem ggX5_passBody_X5_between : GoodIn wsX5_passBody wsX5_between := goodIn_r _ [12, 1, 13, 14, 15, 5, 16, 7, 17, 18, 35, 36, 37, 38, 39, 40, 41, 42, 43, 44, 45, 46, 47, 48, 49, 50, 51, 52] (by decide +kernel) (by decide +kernel)
set_option maxRecDepth 20000 in
theorem gX5_passBody_X5_between : GoodIn wsX5_passBody (wsV RX5 62 RX5 yX5_between wsX5_between) := goodIn_app (goodIn_of _ (by decide +kernel)) ggX5_passBody_X5_between
set_option maxRecDepth 20000 in
theorem ggX5_passBody_X5_skip : GoodIn wsX5_passBody wsX5_skip := goodIn_r _ [22, 1, 7, 17, 35, 36, 37, 38, 39, 40, 41, 42, 43, 44, 45, 46, 47, 48, 49, 50, 51, 52] (by decide +kernel) (by decide +kernel)
set_option maxRecDepth 20000 in
theorem gX5_passBody_X5_skip : GoodIn wsX5_passBody (wsV RX5 74 RX5 yX5_skip wsX5_skip) := goodIn_app (goodIn_of _ (by decide +kernel)) ggX5_passBody_X5_skip
set_option maxRecDepth 20000 in
theorem ggX5_passBody_X5_passTargets : GoodIn wsX5_passBody wsX5_passTargets := goodIn_r _ [26, 7, 1, 18, 9, 10, 11, 5, 12, 13, 14, 15, 16, 17, 27, 28, 29, 30, 31, 32, 33, 34, 19, 20, 21, 22, 2, 3, 4, 6, 8, 35, 36, 37, 38, 39, 40, 41, 42, 43, 44, 45, 46, 47, 48, 49, 50, 51, 52] (by decide +kernel) (by decide +kernel)
set_option maxRecDepth 20000 in
theorem gX5_passBody_X5_passTargets : GoodIn wsX5_passBody (wsV RX5 80 RX5 yX5_passTargets wsX5_passTargets) := goodIn_app (goodIn_of _ (by decide +kernel)) ggX5_passBody_X5_passTargets
theorem dX5_passBody_0 : decode cX5_passBody 0 = .ok (.iload_n 1, 1) := by decide +kernel
theorem dX5_passBody_1 : decode cX5_passBody 1 = .ok (.ifCond .ne 30, 3) := by decide +kernel
theorem dX5_passBody_4 : decode cX5_passBody 4 = .ok (.iconst 0, 1) := by decide +kernel
theorem dX5_passBody_5 : decode cX5_passBody 5 = .ok (.istore_n 2, 1) := by decide +kernel
theorem dX5_passBody_6 : decode cX5_passBody 6 = .ok (.iload_n 2, 1) := by decide +kernel
theorem dX5_passBody_7 : decode cX5_passBody 7 = .ok (.iconst 4, 1) := by decide +kernel
theorem dX5_passBody_8 : decode cX5_passBody 8 = .ok (.if_icmp .ge 20, 3) := by decide +kernel
theorem dX5_passBody_11 : decode cX5_passBody 11 = .ok (.aload_n 0, 1) := by decide +kernel
theorem dX5_passBody_12 : decode cX5_passBody 12 = .ok (.getfield 45, 3) := by decide +kernel
theorem dX5_passBody_15 : decode cX5_passBody 15 = .ok (.ifCond .eq 13, 3) := by decide +kernel
theorem dX5_passBody_18 : decode cX5_passBody 18 = .ok (.aload_n 0, 1) := by decide +kernel
theorem dX5_passBody_19 : decode cX5_passBody 19 = .ok (.invokevirtual 77, 3) := by decide +kernel
theorem dX5_passBody_22 : decode cX5_passBody 22 = .ok (.iinc 2 1, 3) := by decide +kernel
theorem dX5_passBody_25 : decode cX5_passBody 25 = .ok (.goto (-19), 3) := by decide +kernel
theorem dX5_passBody_28 : decode cX5_passBody 28 = .ok (.goto 105, 3) := by decide +kernel
theorem dX5_passBody_31 : decode cX5_passBody 31 = .ok (.iload_n 1, 1) := by decide +kernel
theorem dX5_passBody_32 : decode cX5_passBody 32 = .ok (.iconst 1, 1) := by decide +kernel
theorem dX5_passBody_33 : decode cX5_passBody 33 = .ok (.if_icmp .ne 20, 3) := by decide +kernel
theorem dX5_passBody_36 : decode cX5_passBody 36 = .ok (.aload_n 0, 1) := by decide +kernel
theorem dX5_passBody_37 : decode cX5_passBody 37 = .ok (.iconst 1, 1) := by decide +kernel
theorem dX5_passBody_38 : decode cX5_passBody 38 = .ok (.sipush 255, 3) := by decide +kernel
theorem dX5_passBody_41 : decode cX5_passBody 41 = .ok (.invokevirtual 62, 3) := by decide +kernel
theorem dX5_passBody_44 : decode cX5_passBody 44 = .ok (.pop, 1) := by decide +kernel
theorem dX5_passBody_45 : decode cX5_passBody 45 = .ok (.aload_n 0, 1) := by decide +kernel
theorem dX5_passBody_46 : decode cX5_passBody 46 = .ok (.iconst 4, 1) := by decide +kernel
theorem dX5_passBody_47 : decode cX5_passBody 47 = .ok (.invokevirtual 74, 3) := by decide +kernel
theorem dX5_passBody_50 : decode cX5_passBody 50 = .ok (.goto 83, 3) := by decide +kernel
theorem dX5_passBody_53 : decode cX5_passBody 53 = .ok (.iload_n 1, 1) := by decide +kernel
theorem dX5_passBody_54 : decode cX5_passBody 54 = .ok (.iconst 2, 1) := by decide +kernel
theorem dX5_passBody_55 : decode cX5_passBody 55 = .ok (.if_icmp .ne 74, 3) := by decide +kernel
theorem dX5_passBody_58 : decode cX5_passBody 58 = .ok (.aload_n 0, 1) := by decide +kernel
theorem dX5_passBody_59 : decode cX5_passBody 59 = .ok (.iconst 1, 1) := by decide +kernel
theorem dX5_passBody_60 : decode cX5_passBody 60 = .ok (.iconst 4, 1) := by decide +kernel
theorem dX5_passBody_61 : decode cX5_passBody 61 = .ok (.invokevirtual 62, 3) := by decide +kernel
theorem dX5_passBody_64 : decode cX5_passBody 64 = .ok (.istore_n 2, 1) := by decide +kernel
theorem dX5_passBody_65 : decode cX5_passBody 65 = .ok (.iconst 2, 1) := by decide +kernel
theorem dX5_passBody_66 : decode cX5_passBody 66 = .ok (.istore_n 3, 1) := by decide +kernel
theorem dX5_passBody_67 : decode cX5_passBody 67 = .ok (.iconst 0, 1) := by decide +kernel
theorem dX5_passBody_68 : decode cX5_passBody 68 = .ok (.istore 4, 2) := by decide +kernel
theorem dX5_passBody_70 : decode cX5_passBody 70 = .ok (.iload 4, 2) := by decide +kernel
theorem dX5_passBody_72 : decode cX5_passBody 72 = .ok (.iload_n 2, 1) := by decide +kernel
theorem dX5_passBody_73 : decode cX5_passBody 73 = .ok (.if_icmp .ge 53, 3) := by decide +kernel
theorem dX5_passBody_76 : decode cX5_passBody 76 = .ok (.aload_n 0, 1) := by decide +kernel
theorem dX5_passBody_77 : decode cX5_passBody 77 = .ok (.getfield 45, 3) := by decide +kernel
theorem dX5_passBody_80 : decode cX5_passBody 80 = .ok (.ifCond .eq 46, 3) := by decide +kernel
theorem dX5_passBody_83 : decode cX5_passBody 83 = .ok (.aload_n 0, 1) := by decide +kernel
theorem dX5_passBody_84 : decode cX5_passBody 84 = .ok (.iload 4, 2) := by decide +kernel
theorem dX5_passBody_86 : decode cX5_passBody 86 = .ok (.ifCond .ne 7, 3) := by decide +kernel
theorem dX5_passBody_89 : decode cX5_passBody 89 = .ok (.iconst 3, 1) := by decide +kernel
theorem dX5_passBody_90 : decode cX5_passBody 90 = .ok (.goto 6, 3) := by decide +kernel
theorem dX5_passBody_93 : decode cX5_passBody 93 = .ok (.iload_n 3, 1) := by decide +kernel
theorem dX5_passBody_94 : decode cX5_passBody 94 = .ok (.iconst 1, 1) := by decide +kernel
theorem dX5_passBody_95 : decode cX5_passBody 95 = .ok (.iadd, 1) := by decide +kernel
theorem dX5_passBody_96 : decode cX5_passBody 96 = .ok (.iload 4, 2) := by decide +kernel
theorem dX5_passBody_98 : decode cX5_passBody 98 = .ok (.ifCond .ne 7, 3) := by decide +kernel
theorem dX5_passBody_101 : decode cX5_passBody 101 = .ok (.iconst 3, 1) := by decide +kernel
theorem dX5_passBody_102 : decode cX5_passBody 102 = .ok (.goto 5, 3) := by decide +kernel
theorem dX5_passBody_105 : decode cX5_passBody 105 = .ok (.bipush 6, 2) := by decide +kernel
theorem dX5_passBody_107 : decode cX5_passBody 107 = .ok (.invokevirtual 62, 3) := by decide +kernel
theorem dX5_passBody_110 : decode cX5_passBody 110 = .ok (.istore_n 3, 1) := by decide +kernel
theorem dX5_passBody_111 : decode cX5_passBody 111 = .ok (.aload_n 0, 1) := by decide +kernel
theorem dX5_passBody_112 : decode cX5_passBody 112 = .ok (.iconst 1, 1) := by decide +kernel
theorem dX5_passBody_113 : decode cX5_passBody 113 = .ok (.sipush 255, 3) := by decide +kernel
theorem dX5_passBody_116 : decode cX5_passBody 116 = .ok (.invokevirtual 62, 3) := by decide +kernel
theorem dX5_passBody_119 : decode cX5_passBody 119 = .ok (.pop, 1) := by decide +kernel
theorem dX5_passBody_120 : decode cX5_passBody 120 = .ok (.iinc 4 1, 3) := by decide +kernel
theorem dX5_passBody_123 : decode cX5_passBody 123 = .ok (.goto (-53), 3) := by decide +kernel
theorem dX5_passBody_126 : decode cX5_passBody 126 = .ok (.goto 7, 3) := by decide +kernel
theorem dX5_passBody_129 : decode cX5_passBody 129 = .ok (.aload_n 0, 1) := by decide +kernel
theorem dX5_passBody_130 : decode cX5_passBody 130 = .ok (.invokevirtual 80, 3) := by decide +kernel
theorem dX5_passBody_133 : decode cX5_passBody 133 = .ok (.return_, 1) := by decide +kernel
set_option maxRecDepth 20000 in
theorem ggX5_passSigned_X5_between : GoodIn wsX5_passSigned wsX5_between := goodIn_r _ [10, 4, 11, 12, 13, 9, 14, 1, 3, 15, 41, 42, 43, 44, 45, 46, 47, 48, 49, 50, 51, 52, 53, 54, 55, 56, 57, 58] (by decide +kernel) (by decide +kernel)
set_option maxRecDepth 20000 in
theorem gX5_passSigned_X5_between : GoodIn wsX5_passSigned (wsV RX5 62 RX5 yX5_between wsX5_between) := goodIn_app (goodIn_of _ (by decide +kernel)) ggX5_passSigned_X5_between
set_option maxRecDepth 20000 in
theorem ggX5_passSigned_X5_skip : GoodIn wsX5_passSigned wsX5_skip := goodIn_r _ [19, 4, 1, 3, 41, 42, 43, 44, 45, 46, 47, 48, 49, 50, 51, 52, 53, 54, 55, 56, 57, 58] (by decide +kernel) (by decide +kernel)
set_option maxRecDepth 20000 in
theorem gX5_passSigned_X5_skip : GoodIn wsX5_passSigned (wsV RX5 74 RX5 yX5_skip wsX5_skip) := goodIn_app (goodIn_of _ (by decide +kernel)) ggX5_passSigned_X5_skip
set_option maxRecDepth 20000 in
theorem ggX5_passSigned_X5_passBody : GoodIn wsX5_passSigned wsX5_passBody := goodIn_r _ [23, 4, 24, 25, 26, 9, 27, 1, 28, 6, 7, 8, 10, 11, 12, 13, 14, 3, 15, 16, 17, 18, 19, 29, 30, 31, 32, 33, 34, 35, 36, 37, 38, 39, 40, 41, 42, 43, 44, 45, 46, 47, 48, 49, 50, 51, 52, 53, 54, 55, 56, 57, 58] (by decide +kernel) (by decide +kernel)
set_option maxRecDepth 20000 in
theorem gX5_passSigned_X5_passBody : GoodIn wsX5_passSigned (wsV RX5 83 RX5 yX5_passBody wsX5_passBody) := goodIn_app (goodIn_of _ (by decide +kernel)) ggX5_passSigned_X5_passBody
theorem dX5_passSigned_0 : decode cX5_passSigned 0 = .ok (.aload_n 0, 1) := by decide +kernel
theorem dX5_passSigned_1 : decode cX5_passSigned 1 = .ok (.bipush 120, 2) := by decide +kernel
theorem dX5_passSigned_3 : decode cX5_passSigned 3 = .ok (.iload_n 1, 1) := by decide +kernel
theorem dX5_passSigned_4 : decode cX5_passSigned 4 = .ok (.imul, 1) := by decide +kernel
theorem dX5_passSigned_5 : decode cX5_passSigned 5 = .ok (.putfield 49, 3) := by decide +kernel
theorem dX5_passSigned_8 : decode cX5_passSigned 8 = .ok (.aload_n 0, 1) := by decide +kernel
theorem dX5_passSigned_9 : decode cX5_passSigned 9 = .ok (.aload_n 0, 1) := by decide +kernel
theorem dX5_passSigned_10 : decode cX5_passSigned 10 = .ok (.getfield 49, 3) := by decide +kernel
theorem dX5_passSigned_13 : decode cX5_passSigned 13 = .ok (.aload_n 0, 1) := by decide +kernel
theorem dX5_passSigned_14 : decode cX5_passSigned 14 = .ok (.getfield 13, 3) := by decide +kernel
theorem dX5_passSigned_17 : decode cX5_passSigned 17 = .ok (.iload_n 1, 1) := by decide +kernel
theorem dX5_passSigned_18 : decode cX5_passSigned 18 = .ok (.iaload, 1) := by decide +kernel
theorem dX5_passSigned_19 : decode cX5_passSigned 19 = .ok (.iadd, 1) := by decide +kernel
theorem dX5_passSigned_20 : decode cX5_passSigned 20 = .ok (.putfield 52, 3) := by decide +kernel
theorem dX5_passSigned_23 : decode cX5_passSigned 23 = .ok (.aload_n 0, 1) := by decide +kernel
theorem dX5_passSigned_24 : decode cX5_passSigned 24 = .ok (.iconst 1, 1) := by decide +kernel
theorem dX5_passSigned_25 : decode cX5_passSigned 25 = .ok (.putfield 45, 3) := by decide +kernel
theorem dX5_passSigned_28 : decode cX5_passSigned 28 = .ok (.aload_n 0, 1) := by decide +kernel
theorem dX5_passSigned_29 : decode cX5_passSigned 29 = .ok (.iconst 0, 1) := by decide +kernel
theorem dX5_passSigned_30 : decode cX5_passSigned 30 = .ok (.bipush 6, 2) := by decide +kernel
theorem dX5_passSigned_32 : decode cX5_passSigned 32 = .ok (.invokevirtual 62, 3) := by decide +kernel
theorem dX5_passSigned_35 : decode cX5_passSigned 35 = .ok (.istore_n 2, 1) := by decide +kernel
theorem dX5_passSigned_36 : decode cX5_passSigned 36 = .ok (.aload_n 0, 1) := by decide +kernel
theorem dX5_passSigned_37 : decode cX5_passSigned 37 = .ok (.iconst 1, 1) := by decide +kernel
theorem dX5_passSigned_38 : decode cX5_passSigned 38 = .ok (.sipush 255, 3) := by decide +kernel
theorem dX5_passSigned_41 : decode cX5_passSigned 41 = .ok (.invokevirtual 62, 3) := by decide +kernel
theorem dX5_passSigned_44 : decode cX5_passSigned 44 = .ok (.pop, 1) := by decide +kernel
theorem dX5_passSigned_45 : decode cX5_passSigned 45 = .ok (.aload_n 0, 1) := by decide +kernel
theorem dX5_passSigned_46 : decode cX5_passSigned 46 = .ok (.iconst 2, 1) := by decide +kernel
theorem dX5_passSigned_47 : decode cX5_passSigned 47 = .ok (.invokevirtual 74, 3) := by decide +kernel
theorem dX5_passSigned_50 : decode cX5_passSigned 50 = .ok (.aload_n 0, 1) := by decide +kernel
theorem dX5_passSigned_51 : decode cX5_passSigned 51 = .ok (.getfield 45, 3) := by decide +kernel
theorem dX5_passSigned_54 : decode cX5_passSigned 54 = .ok (.ifCond .eq 8, 3) := by decide +kernel
theorem dX5_passSigned_57 : decode cX5_passSigned 57 = .ok (.aload_n 0, 1) := by decide +kernel
theorem dX5_passSigned_58 : decode cX5_passSigned 58 = .ok (.iload_n 2, 1) := by decide +kernel
theorem dX5_passSigned_59 : decode cX5_passSigned 59 = .ok (.invokevirtual 83, 3) := by decide +kernel
theorem dX5_passSigned_62 : decode cX5_passSigned 62 = .ok (.aload_n 0, 1) := by decide +kernel
theorem dX5_passSigned_63 : decode cX5_passSigned 63 = .ok (.aload_n 0, 1) := by decide +kernel
theorem dX5_passSigned_64 : decode cX5_passSigned 64 = .ok (.getfield 49, 3) := by decide +kernel
theorem dX5_passSigned_67 : decode cX5_passSigned 67 = .ok (.putfield 86, 3) := by decide +kernel
theorem dX5_passSigned_70 : decode cX5_passSigned 70 = .ok (.aload_n 0, 1) := by decide +kernel
theorem dX5_passSigned_71 : decode cX5_passSigned 71 = .ok (.getfield 45, 3) := by decide +kernel
theorem dX5_passSigned_74 : decode cX5_passSigned 74 = .ok (.ireturn, 1) := by decide +kernel
set_option maxRecDepth 20000 in
theorem ggX5_isDocument_X5_passSigned : GoodIn wsX5_isDocument wsX5_passSigned := goodIn_r _ [8, 2, 9, 3, 1, 10, 11, 12, 13, 7, 14, 15, 16, 17, 18, 19, 20, 21, 22, 23, 24, 25, 26, 27, 28, 29, 30, 31, 32, 33, 34, 35, 36, 37, 38, 39, 40, 41, 42, 43, 44, 45, 46, 47, 48, 49, 50, 51, 52, 53, 54, 55, 56, 57, 58, 59, 60, 61, 62] (by decide +kernel) (by decide +kernel)
set_option maxRecDepth 20000 in
theorem gX5_isDocument_X5_passSigned : GoodIn wsX5_isDocument (wsV RX5 89 RX5 yX5_passSigned wsX5_passSigned) := goodIn_app (goodIn_of _ (by decide +kernel)) ggX5_isDocument_X5_passSigned
set_option maxRecDepth 20000 in
theorem ggX5_isDocument_X5_between : GoodIn wsX5_isDocument wsX5_between := goodIn_r _ [14, 1, 15, 16, 17, 7, 18, 2, 3, 19, 45, 46, 47, 48, 49, 50, 51, 52, 53, 54, 55, 56, 57, 58, 59, 60, 61, 62] (by decide +kernel) (by decide +kernel)
set_option maxRecDepth 20000 in
theorem gX5_isDocument_X5_between : GoodIn wsX5_isDocument (wsV RX5 62 RX5 yX5_between wsX5_between) := goodIn_app (goodIn_of _ (by decide +kernel)) ggX5_isDocument_X5_between
set_option maxRecDepth 20000 in
theorem ggX5_isDocument_X5_skip : GoodIn wsX5_isDocument wsX5_skip := goodIn_r _ [23, 1, 2, 3, 45, 46, 47, 48, 49, 50, 51, 52, 53, 54, 55, 56, 57, 58, 59, 60, 61, 62] (by decide +kernel) (by decide +kernel)
set_option maxRecDepth 20000 in
theorem gX5_isDocument_X5_skip : GoodIn wsX5_isDocument (wsV RX5 74 RX5 yX5_skip wsX5_skip) := goodIn_app (goodIn_of _ (by decide +kernel)) ggX5_isDocument_X5_skip
theorem dX5_isDocument_0 : decode cX5_isDocument 0 = .ok (.aload_n 0, 1) := by decide +kernel
theorem dX5_isDocument_1 : decode cX5_isDocument 1 = .ok (.iload_n 1, 1) := by decide +kernel
theorem dX5_isDocument_2 : decode cX5_isDocument 2 = .ok (.invokevirtual 89, 3) := by decide +kernel
theorem dX5_isDocument_5 : decode cX5_isDocument 5 = .ok (.ifCond .ne 5, 3) := by decide +kernel
theorem dX5_isDocument_8 : decode cX5_isDocument 8 = .ok (.iconst 0, 1) := by decide +kernel
theorem dX5_isDocument_9 : decode cX5_isDocument 9 = .ok (.ireturn, 1) := by decide +kernel
theorem dX5_isDocument_10 : decode cX5_isDocument 10 = .ok (.aload_n 0, 1) := by decide +kernel
theorem dX5_isDocument_11 : decode cX5_isDocument 11 = .ok (.iconst 0, 1) := by decide +kernel
theorem dX5_isDocument_12 : decode cX5_isDocument 12 = .ok (.bipush 6, 2) := by decide +kernel
theorem dX5_isDocument_14 : decode cX5_isDocument 14 = .ok (.invokevirtual 62, 3) := by decide +kernel
theorem dX5_isDocument_17 : decode cX5_isDocument 17 = .ok (.istore_n 2, 1) := by decide +kernel
theorem dX5_isDocument_18 : decode cX5_isDocument 18 = .ok (.iconst 0, 1) := by decide +kernel
theorem dX5_isDocument_19 : decode cX5_isDocument 19 = .ok (.istore_n 3, 1) := by decide +kernel
theorem dX5_isDocument_20 : decode cX5_isDocument 20 = .ok (.iload_n 3, 1) := by decide +kernel
theorem dX5_isDocument_21 : decode cX5_isDocument 21 = .ok (.iload_n 2, 1) := by decide +kernel
theorem dX5_isDocument_22 : decode cX5_isDocument 22 = .ok (.if_icmp .ge 29, 3) := by decide +kernel
theorem dX5_isDocument_25 : decode cX5_isDocument 25 = .ok (.aload_n 0, 1) := by decide +kernel
theorem dX5_isDocument_26 : decode cX5_isDocument 26 = .ok (.getfield 45, 3) := by decide +kernel
theorem dX5_isDocument_29 : decode cX5_isDocument 29 = .ok (.ifCond .eq 22, 3) := by decide +kernel
theorem dX5_isDocument_32 : decode cX5_isDocument 32 = .ok (.aload_n 0, 1) := by decide +kernel
theorem dX5_isDocument_33 : decode cX5_isDocument 33 = .ok (.iconst 0, 1) := by decide +kernel
theorem dX5_isDocument_34 : decode cX5_isDocument 34 = .ok (.bipush 9, 2) := by decide +kernel
theorem dX5_isDocument_36 : decode cX5_isDocument 36 = .ok (.invokevirtual 62, 3) := by decide +kernel
theorem dX5_isDocument_39 : decode cX5_isDocument 39 = .ok (.pop, 1) := by decide +kernel
theorem dX5_isDocument_40 : decode cX5_isDocument 40 = .ok (.aload_n 0, 1) := by decide +kernel
theorem dX5_isDocument_41 : decode cX5_isDocument 41 = .ok (.iconst 4, 1) := by decide +kernel
theorem dX5_isDocument_42 : decode cX5_isDocument 42 = .ok (.invokevirtual 74, 3) := by decide +kernel
theorem dX5_isDocument_45 : decode cX5_isDocument 45 = .ok (.iinc 3 1, 3) := by decide +kernel
theorem dX5_isDocument_48 : decode cX5_isDocument 48 = .ok (.goto (-28), 3) := by decide +kernel
theorem dX5_isDocument_51 : decode cX5_isDocument 51 = .ok (.aload_n 0, 1) := by decide +kernel
theorem dX5_isDocument_52 : decode cX5_isDocument 52 = .ok (.getfield 45, 3) := by decide +kernel
theorem dX5_isDocument_55 : decode cX5_isDocument 55 = .ok (.ifCond .eq 18, 3) := by decide +kernel
theorem dX5_isDocument_58 : decode cX5_isDocument 58 = .ok (.aload_n 0, 1) := by decide +kernel
theorem dX5_isDocument_59 : decode cX5_isDocument 59 = .ok (.getfield 49, 3) := by decide +kernel
theorem dX5_isDocument_62 : decode cX5_isDocument 62 = .ok (.aload_n 0, 1) := by decide +kernel
theorem dX5_isDocument_63 : decode cX5_isDocument 63 = .ok (.getfield 52, 3) := by decide +kernel
theorem dX5_isDocument_66 : decode cX5_isDocument 66 = .ok (.if_icmp .ne 7, 3) := by decide +kernel
theorem dX5_isDocument_69 : decode cX5_isDocument 69 = .ok (.iconst 1, 1) := by decide +kernel
theorem dX5_isDocument_70 : decode cX5_isDocument 70 = .ok (.goto 4, 3) := by decide +kernel
theorem dX5_isDocument_73 : decode cX5_isDocument 73 = .ok (.iconst 0, 1) := by decide +kernel
theorem dX5_isDocument_74 : decode cX5_isDocument 74 = .ok (.ireturn, 1) := by decide +kernel
set_option maxRecDepth 20000 in
theorem ggX5_hasSignature_X5_mixOf : GoodIn wsX5_hasSignature wsX5_mixOf := goodIn_r _ [7, 8, 2, 9, 14, 15, 16, 17, 18, 19, 20, 21, 22, 23, 24, 25, 26, 27, 28, 29, 30, 31] (by decide +kernel) (by decide +kernel)
set_option maxRecDepth 20000 in
theorem gX5_hasSignature_X5_mixOf : GoodIn wsX5_hasSignature (wsV RX5 38 RX5 yX5_mixOf wsX5_mixOf) := goodIn_app (goodIn_of _ (by decide +kernel)) ggX5_hasSignature_X5_mixOf
set_option maxRecDepth 20000 in
theorem ggX5_hasSignature_X5_four : GoodIn wsX5_hasSignature wsX5_four := goodIn_r _ [13, 2, 14, 15, 16, 17, 18, 19, 20, 21, 22, 23, 24, 25, 26, 27, 28, 29, 30, 31] (by decide +kernel) (by decide +kernel)
set_option maxRecDepth 20000 in
theorem gX5_hasSignature_X5_four : GoodIn wsX5_hasSignature (wsV RX5 93 RX5 yX5_four wsX5_four) := goodIn_app (goodIn_of _ (by decide +kernel)) ggX5_hasSignature_X5_four
theorem dX5_hasSignature_0 : decode cX5_hasSignature 0 = .ok (.bipush 120, 2) := by decide +kernel
theorem dX5_hasSignature_2 : decode cX5_hasSignature 2 = .ok (.iload_n 1, 1) := by decide +kernel
theorem dX5_hasSignature_3 : decode cX5_hasSignature 3 = .ok (.imul, 1) := by decide +kernel
theorem dX5_hasSignature_4 : decode cX5_hasSignature 4 = .ok (.istore_n 3, 1) := by decide +kernel
theorem dX5_hasSignature_5 : decode cX5_hasSignature 5 = .ok (.aload_n 0, 1) := by decide +kernel
theorem dX5_hasSignature_6 : decode cX5_hasSignature 6 = .ok (.iload_n 3, 1) := by decide +kernel
theorem dX5_hasSignature_7 : decode cX5_hasSignature 7 = .ok (.aload_n 0, 1) := by decide +kernel
theorem dX5_hasSignature_8 : decode cX5_hasSignature 8 = .ok (.getfield 86, 3) := by decide +kernel
theorem dX5_hasSignature_11 : decode cX5_hasSignature 11 = .ok (.iload_n 3, 1) := by decide +kernel
theorem dX5_hasSignature_12 : decode cX5_hasSignature 12 = .ok (.isub, 1) := by decide +kernel
theorem dX5_hasSignature_13 : decode cX5_hasSignature 13 = .ok (.iload_n 2, 1) := by decide +kernel
theorem dX5_hasSignature_14 : decode cX5_hasSignature 14 = .ok (.iconst 1, 1) := by decide +kernel
theorem dX5_hasSignature_15 : decode cX5_hasSignature 15 = .ok (.iadd, 1) := by decide +kernel
theorem dX5_hasSignature_16 : decode cX5_hasSignature 16 = .ok (.invokevirtual 38, 3) := by decide +kernel
theorem dX5_hasSignature_19 : decode cX5_hasSignature 19 = .ok (.istore 4, 2) := by decide +kernel
theorem dX5_hasSignature_21 : decode cX5_hasSignature 21 = .ok (.iconst 0, 1) := by decide +kernel
theorem dX5_hasSignature_22 : decode cX5_hasSignature 22 = .ok (.istore 5, 2) := by decide +kernel
theorem dX5_hasSignature_24 : decode cX5_hasSignature 24 = .ok (.iconst 0, 1) := by decide +kernel
theorem dX5_hasSignature_25 : decode cX5_hasSignature 25 = .ok (.istore 6, 2) := by decide +kernel
theorem dX5_hasSignature_27 : decode cX5_hasSignature 27 = .ok (.iload 6, 2) := by decide +kernel
theorem dX5_hasSignature_29 : decode cX5_hasSignature 29 = .ok (.aload_n 0, 1) := by decide +kernel
theorem dX5_hasSignature_30 : decode cX5_hasSignature 30 = .ok (.getfield 7, 3) := by decide +kernel
theorem dX5_hasSignature_33 : decode cX5_hasSignature 33 = .ok (.aload_n 0, 1) := by decide +kernel
theorem dX5_hasSignature_34 : decode cX5_hasSignature 34 = .ok (.getfield 86, 3) := by decide +kernel
theorem dX5_hasSignature_37 : decode cX5_hasSignature 37 = .ok (.iaload, 1) := by decide +kernel
theorem dX5_hasSignature_38 : decode cX5_hasSignature 38 = .ok (.if_icmp .ge 58, 3) := by decide +kernel
theorem dX5_hasSignature_41 : decode cX5_hasSignature 41 = .ok (.aload_n 0, 1) := by decide +kernel
theorem dX5_hasSignature_42 : decode cX5_hasSignature 42 = .ok (.getfield 86, 3) := by decide +kernel
theorem dX5_hasSignature_45 : decode cX5_hasSignature 45 = .ok (.iconst 1, 1) := by decide +kernel
theorem dX5_hasSignature_46 : decode cX5_hasSignature 46 = .ok (.iadd, 1) := by decide +kernel
theorem dX5_hasSignature_47 : decode cX5_hasSignature 47 = .ok (.iconst 5, 1) := by decide +kernel
theorem dX5_hasSignature_48 : decode cX5_hasSignature 48 = .ok (.iload 6, 2) := by decide +kernel
theorem dX5_hasSignature_50 : decode cX5_hasSignature 50 = .ok (.imul, 1) := by decide +kernel
theorem dX5_hasSignature_51 : decode cX5_hasSignature 51 = .ok (.iadd, 1) := by decide +kernel
theorem dX5_hasSignature_52 : decode cX5_hasSignature 52 = .ok (.istore 7, 2) := by decide +kernel
theorem dX5_hasSignature_54 : decode cX5_hasSignature 54 = .ok (.iload 5, 2) := by decide +kernel
theorem dX5_hasSignature_56 : decode cX5_hasSignature 56 = .ok (.ifCond .ne 27, 3) := by decide +kernel
theorem dX5_hasSignature_59 : decode cX5_hasSignature 59 = .ok (.aload_n 0, 1) := by decide +kernel
theorem dX5_hasSignature_60 : decode cX5_hasSignature 60 = .ok (.getfield 7, 3) := by decide +kernel
theorem dX5_hasSignature_63 : decode cX5_hasSignature 63 = .ok (.iload 7, 2) := by decide +kernel
theorem dX5_hasSignature_65 : decode cX5_hasSignature 65 = .ok (.iaload, 1) := by decide +kernel
theorem dX5_hasSignature_66 : decode cX5_hasSignature 66 = .ok (.iload_n 2, 1) := by decide +kernel
theorem dX5_hasSignature_67 : decode cX5_hasSignature 67 = .ok (.if_icmp .ne 20, 3) := by decide +kernel
theorem dX5_hasSignature_70 : decode cX5_hasSignature 70 = .ok (.aload_n 0, 1) := by decide +kernel
theorem dX5_hasSignature_71 : decode cX5_hasSignature 71 = .ok (.iload 7, 2) := by decide +kernel
theorem dX5_hasSignature_73 : decode cX5_hasSignature 73 = .ok (.iconst 1, 1) := by decide +kernel
theorem dX5_hasSignature_74 : decode cX5_hasSignature 74 = .ok (.iadd, 1) := by decide +kernel
theorem dX5_hasSignature_75 : decode cX5_hasSignature 75 = .ok (.invokevirtual 93, 3) := by decide +kernel
theorem dX5_hasSignature_78 : decode cX5_hasSignature 78 = .ok (.iload 4, 2) := by decide +kernel
theorem dX5_hasSignature_80 : decode cX5_hasSignature 80 = .ok (.if_icmp .ne 7, 3) := by decide +kernel
theorem dX5_hasSignature_83 : decode cX5_hasSignature 83 = .ok (.iconst 1, 1) := by decide +kernel
theorem dX5_hasSignature_84 : decode cX5_hasSignature 84 = .ok (.goto 4, 3) := by decide +kernel
theorem dX5_hasSignature_87 : decode cX5_hasSignature 87 = .ok (.iconst 0, 1) := by decide +kernel
theorem dX5_hasSignature_88 : decode cX5_hasSignature 88 = .ok (.istore 5, 2) := by decide +kernel
theorem dX5_hasSignature_90 : decode cX5_hasSignature 90 = .ok (.iinc 6 1, 3) := by decide +kernel
theorem dX5_hasSignature_93 : decode cX5_hasSignature 93 = .ok (.goto (-66), 3) := by decide +kernel
theorem dX5_hasSignature_96 : decode cX5_hasSignature 96 = .ok (.iload 5, 2) := by decide +kernel
theorem dX5_hasSignature_98 : decode cX5_hasSignature 98 = .ok (.ireturn, 1) := by decide +kernel
set_option maxRecDepth 20000 in
theorem ggX5_isSigned_X5_isDocument : GoodIn wsX5_isSigned wsX5_isDocument := goodIn_r _ [6, 7, 8, 9, 10, 11, 12, 5, 13, 14, 15, 16, 17, 18, 19, 20, 21, 22, 23, 1, 24, 25, 26, 27, 28, 29, 30, 31, 32, 33, 34, 35, 36, 37, 38, 39, 40, 41, 42, 43, 44, 45, 46, 47, 48, 63, 64, 65, 66, 67, 68, 69, 70, 71, 72, 73, 74, 75, 76, 77, 78, 79, 80] (by decide +kernel) (by decide +kernel)
set_option maxRecDepth 20000 in
theorem gX5_isSigned_X5_isDocument : GoodIn wsX5_isSigned (wsV RX5 97 RX5 yX5_isDocument wsX5_isDocument) := goodIn_app (goodIn_of _ (by decide +kernel)) ggX5_isSigned_X5_isDocument
set_option maxRecDepth 20000 in
theorem ggX5_isSigned_X5_hasSignature : GoodIn wsX5_isSigned wsX5_hasSignature := goodIn_r _ [52, 15, 1, 53, 54, 55, 5, 56, 57, 58, 59, 60, 61, 62, 63, 64, 65, 66, 67, 68, 69, 70, 71, 72, 73, 74, 75, 76, 77, 78, 79, 80] (by decide +kernel) (by decide +kernel)
set_option maxRecDepth 20000 in
theorem gX5_isSigned_X5_hasSignature : GoodIn wsX5_isSigned (wsV RX5 100 RX5 yX5_hasSignature wsX5_hasSignature) := goodIn_app (goodIn_of _ (by decide +kernel)) ggX5_isSigned_X5_hasSignature
theorem dX5_isSigned_0 : decode cX5_isSigned 0 = .ok (.aload_n 0, 1) := by decide +kernel
theorem dX5_isSigned_1 : decode cX5_isSigned 1 = .ok (.iload_n 1, 1) := by decide +kernel
theorem dX5_isSigned_2 : decode cX5_isSigned 2 = .ok (.invokevirtual 97, 3) := by decide +kernel
theorem dX5_isSigned_5 : decode cX5_isSigned 5 = .ok (.istore_n 3, 1) := by decide +kernel
theorem dX5_isSigned_6 : decode cX5_isSigned 6 = .ok (.iconst 0, 1) := by decide +kernel
theorem dX5_isSigned_7 : decode cX5_isSigned 7 = .ok (.istore 4, 2) := by decide +kernel
theorem dX5_isSigned_9 : decode cX5_isSigned 9 = .ok (.iconst 0, 1) := by decide +kernel
theorem dX5_isSigned_10 : decode cX5_isSigned 10 = .ok (.istore 5, 2) := by decide +kernel
theorem dX5_isSigned_12 : decode cX5_isSigned 12 = .ok (.iload 5, 2) := by decide +kernel
theorem dX5_isSigned_14 : decode cX5_isSigned 14 = .ok (.aload_n 0, 1) := by decide +kernel
theorem dX5_isSigned_15 : decode cX5_isSigned 15 = .ok (.getfield 7, 3) := by decide +kernel
theorem dX5_isSigned_18 : decode cX5_isSigned 18 = .ok (.iload_n 2, 1) := by decide +kernel
theorem dX5_isSigned_19 : decode cX5_isSigned 19 = .ok (.iconst 1, 1) := by decide +kernel
theorem dX5_isSigned_20 : decode cX5_isSigned 20 = .ok (.iadd, 1) := by decide +kernel
theorem dX5_isSigned_21 : decode cX5_isSigned 21 = .ok (.iaload, 1) := by decide +kernel
theorem dX5_isSigned_22 : decode cX5_isSigned 22 = .ok (.if_icmp .ge 43, 3) := by decide +kernel
theorem dX5_isSigned_25 : decode cX5_isSigned 25 = .ok (.iload_n 3, 1) := by decide +kernel
theorem dX5_isSigned_26 : decode cX5_isSigned 26 = .ok (.ifCond .eq 39, 3) := by decide +kernel
theorem dX5_isSigned_29 : decode cX5_isSigned 29 = .ok (.aload_n 0, 1) := by decide +kernel
theorem dX5_isSigned_30 : decode cX5_isSigned 30 = .ok (.iload_n 1, 1) := by decide +kernel
theorem dX5_isSigned_31 : decode cX5_isSigned 31 = .ok (.aload_n 0, 1) := by decide +kernel
theorem dX5_isSigned_32 : decode cX5_isSigned 32 = .ok (.getfield 7, 3) := by decide +kernel
theorem dX5_isSigned_35 : decode cX5_isSigned 35 = .ok (.iload_n 2, 1) := by decide +kernel
theorem dX5_isSigned_36 : decode cX5_isSigned 36 = .ok (.iconst 2, 1) := by decide +kernel
theorem dX5_isSigned_37 : decode cX5_isSigned 37 = .ok (.iadd, 1) := by decide +kernel
theorem dX5_isSigned_38 : decode cX5_isSigned 38 = .ok (.iload 5, 2) := by decide +kernel
theorem dX5_isSigned_40 : decode cX5_isSigned 40 = .ok (.iadd, 1) := by decide +kernel
theorem dX5_isSigned_41 : decode cX5_isSigned 41 = .ok (.iaload, 1) := by decide +kernel
theorem dX5_isSigned_42 : decode cX5_isSigned 42 = .ok (.invokevirtual 100, 3) := by decide +kernel
theorem dX5_isSigned_45 : decode cX5_isSigned 45 = .ok (.ifCond .eq 10, 3) := by decide +kernel
theorem dX5_isSigned_48 : decode cX5_isSigned 48 = .ok (.iload 4, 2) := by decide +kernel
end
section
theorem dX5_isSigned_50 : decode cX5_isSigned 50 = .ok (.iconst 1, 1) := by decide +kernel
theorem dX5_isSigned_51 : decode cX5_isSigned 51 = .ok (.iadd, 1) := by decide +kernel
theorem dX5_isSigned_52 : decode cX5_isSigned 52 = .ok (.goto 5, 3) := by decide +kernel
theorem dX5_isSigned_55 : decode cX5_isSigned 55 = .ok (.iload 4, 2) := by decide +kernel
theorem dX5_isSigned_57 : decode cX5_isSigned 57 = .ok (.istore 4, 2) := by decide +kernel
theorem dX5_isSigned_59 : decode cX5_isSigned 59 = .ok (.iinc 5 1, 3) := by decide +kernel
theorem dX5_isSigned_62 : decode cX5_isSigned 62 = .ok (.goto (-50), 3) := by decide +kernel
theorem dX5_isSigned_65 : decode cX5_isSigned 65 = .ok (.iload_n 3, 1) := by decide +kernel
theorem dX5_isSigned_66 : decode cX5_isSigned 66 = .ok (.ifCond .eq 18, 3) := by decide +kernel
theorem dX5_isSigned_69 : decode cX5_isSigned 69 = .ok (.iload 4, 2) := by decide +kernel
theorem dX5_isSigned_71 : decode cX5_isSigned 71 = .ok (.aload_n 0, 1) := by decide +kernel
theorem dX5_isSigned_72 : decode cX5_isSigned 72 = .ok (.getfield 7, 3) := by decide +kernel
theorem dX5_isSigned_75 : decode cX5_isSigned 75 = .ok (.iload_n 2, 1) := by decide +kernel
theorem dX5_isSigned_76 : decode cX5_isSigned 76 = .ok (.iaload, 1) := by decide +kernel
theorem dX5_isSigned_77 : decode cX5_isSigned 77 = .ok (.if_icmp .lt 7, 3) := by decide +kernel
theorem dX5_isSigned_80 : decode cX5_isSigned 80 = .ok (.iconst 1, 1) := by decide +kernel
theorem dX5_isSigned_81 : decode cX5_isSigned 81 = .ok (.goto 4, 3) := by decide +kernel
theorem dX5_isSigned_84 : decode cX5_isSigned 84 = .ok (.iconst 0, 1) := by decide +kernel
theorem dX5_isSigned_85 : decode cX5_isSigned 85 = .ok (.ireturn, 1) := by decide +kernel
theorem dX5_keysOf_0 : decode cX5_keysOf 0 = .ok (.bipush 120, 2) := by decide +kernel
theorem dX5_keysOf_2 : decode cX5_keysOf 2 = .ok (.iload_n 1, 1) := by decide +kernel
theorem dX5_keysOf_3 : decode cX5_keysOf 3 = .ok (.imul, 1) := by decide +kernel
theorem dX5_keysOf_4 : decode cX5_keysOf 4 = .ok (.iconst 4, 1) := by decide +kernel
theorem dX5_keysOf_5 : decode cX5_keysOf 5 = .ok (.iadd, 1) := by decide +kernel
theorem dX5_keysOf_6 : decode cX5_keysOf 6 = .ok (.istore_n 3, 1) := by decide +kernel
theorem dX5_keysOf_7 : decode cX5_keysOf 7 = .ok (.iconst 0, 1) := by decide +kernel
theorem dX5_keysOf_8 : decode cX5_keysOf 8 = .ok (.istore 4, 2) := by decide +kernel
theorem dX5_keysOf_10 : decode cX5_keysOf 10 = .ok (.iload 4, 2) := by decide +kernel
theorem dX5_keysOf_12 : decode cX5_keysOf 12 = .ok (.iload_n 2, 1) := by decide +kernel
theorem dX5_keysOf_13 : decode cX5_keysOf 13 = .ok (.if_icmp .ge 22, 3) := by decide +kernel
theorem dX5_keysOf_16 : decode cX5_keysOf 16 = .ok (.iload_n 3, 1) := by decide +kernel
theorem dX5_keysOf_17 : decode cX5_keysOf 17 = .ok (.iconst 2, 1) := by decide +kernel
theorem dX5_keysOf_18 : decode cX5_keysOf 18 = .ok (.iadd, 1) := by decide +kernel
theorem dX5_keysOf_19 : decode cX5_keysOf 19 = .ok (.aload_n 0, 1) := by decide +kernel
theorem dX5_keysOf_20 : decode cX5_keysOf 20 = .ok (.getfield 7, 3) := by decide +kernel
theorem dX5_keysOf_23 : decode cX5_keysOf 23 = .ok (.iload_n 3, 1) := by decide +kernel
theorem dX5_keysOf_24 : decode cX5_keysOf 24 = .ok (.iconst 1, 1) := by decide +kernel
theorem dX5_keysOf_25 : decode cX5_keysOf 25 = .ok (.iadd, 1) := by decide +kernel
theorem dX5_keysOf_26 : decode cX5_keysOf 26 = .ok (.iaload, 1) := by decide +kernel
theorem dX5_keysOf_27 : decode cX5_keysOf 27 = .ok (.iadd, 1) := by decide +kernel
theorem dX5_keysOf_28 : decode cX5_keysOf 28 = .ok (.istore_n 3, 1) := by decide +kernel
theorem dX5_keysOf_29 : decode cX5_keysOf 29 = .ok (.iinc 4 1, 3) := by decide +kernel
theorem dX5_keysOf_32 : decode cX5_keysOf 32 = .ok (.goto (-22), 3) := by decide +kernel
theorem dX5_keysOf_35 : decode cX5_keysOf 35 = .ok (.iload_n 3, 1) := by decide +kernel
theorem dX5_keysOf_36 : decode cX5_keysOf 36 = .ok (.ireturn, 1) := by decide +kernel
theorem dX5_versionOf_0 : decode cX5_versionOf 0 = .ok (.aload_n 0, 1) := by decide +kernel
theorem dX5_versionOf_1 : decode cX5_versionOf 1 = .ok (.getfield 7, 3) := by decide +kernel
theorem dX5_versionOf_4 : decode cX5_versionOf 4 = .ok (.bipush 120, 2) := by decide +kernel
theorem dX5_versionOf_6 : decode cX5_versionOf 6 = .ok (.iload_n 1, 1) := by decide +kernel
theorem dX5_versionOf_7 : decode cX5_versionOf 7 = .ok (.imul, 1) := by decide +kernel
theorem dX5_versionOf_8 : decode cX5_versionOf 8 = .ok (.iconst 1, 1) := by decide +kernel
theorem dX5_versionOf_9 : decode cX5_versionOf 9 = .ok (.iadd, 1) := by decide +kernel
theorem dX5_versionOf_10 : decode cX5_versionOf 10 = .ok (.iaload, 1) := by decide +kernel
theorem dX5_versionOf_11 : decode cX5_versionOf 11 = .ok (.ireturn, 1) := by decide +kernel
theorem dX5_endOf_0 : decode cX5_endOf 0 = .ok (.sipush 256, 3) := by decide +kernel
theorem dX5_endOf_3 : decode cX5_endOf 3 = .ok (.aload_n 0, 1) := by decide +kernel
theorem dX5_endOf_4 : decode cX5_endOf 4 = .ok (.getfield 7, 3) := by decide +kernel
theorem dX5_endOf_7 : decode cX5_endOf 7 = .ok (.bipush 120, 2) := by decide +kernel
theorem dX5_endOf_9 : decode cX5_endOf 9 = .ok (.iload_n 1, 1) := by decide +kernel
theorem dX5_endOf_10 : decode cX5_endOf 10 = .ok (.imul, 1) := by decide +kernel
theorem dX5_endOf_11 : decode cX5_endOf 11 = .ok (.iconst 2, 1) := by decide +kernel
theorem dX5_endOf_12 : decode cX5_endOf 12 = .ok (.iadd, 1) := by decide +kernel
theorem dX5_endOf_13 : decode cX5_endOf 13 = .ok (.iaload, 1) := by decide +kernel
theorem dX5_endOf_14 : decode cX5_endOf 14 = .ok (.imul, 1) := by decide +kernel
theorem dX5_endOf_15 : decode cX5_endOf 15 = .ok (.aload_n 0, 1) := by decide +kernel
theorem dX5_endOf_16 : decode cX5_endOf 16 = .ok (.getfield 7, 3) := by decide +kernel
theorem dX5_endOf_19 : decode cX5_endOf 19 = .ok (.bipush 120, 2) := by decide +kernel
theorem dX5_endOf_21 : decode cX5_endOf 21 = .ok (.iload_n 1, 1) := by decide +kernel
theorem dX5_endOf_22 : decode cX5_endOf 22 = .ok (.imul, 1) := by decide +kernel
theorem dX5_endOf_23 : decode cX5_endOf 23 = .ok (.iconst 3, 1) := by decide +kernel
theorem dX5_endOf_24 : decode cX5_endOf 24 = .ok (.iadd, 1) := by decide +kernel
theorem dX5_endOf_25 : decode cX5_endOf 25 = .ok (.iaload, 1) := by decide +kernel
theorem dX5_endOf_26 : decode cX5_endOf 26 = .ok (.iadd, 1) := by decide +kernel
theorem dX5_endOf_27 : decode cX5_endOf 27 = .ok (.ireturn, 1) := by decide +kernel
set_option maxRecDepth 20000 in
theorem ggX5_isOver_X5_endOf : GoodIn wsX5_isOver wsX5_endOf := goodIn_r _ [6, 7, 8, 9, 10, 11, 12, 13, 14, 15, 16, 17, 18, 19, 20, 21, 22, 23, 24, 25] (by decide +kernel) (by decide +kernel)
set_option maxRecDepth 20000 in
theorem gX5_isOver_X5_endOf : GoodIn wsX5_isOver (wsV RX5 103 RX5 yX5_endOf wsX5_endOf) := goodIn_app (goodIn_of _ (by decide +kernel)) ggX5_isOver_X5_endOf
theorem dX5_isOver_0 : decode cX5_isOver 0 = .ok (.aload_n 0, 1) := by decide +kernel
theorem dX5_isOver_1 : decode cX5_isOver 1 = .ok (.iload_n 1, 1) := by decide +kernel
theorem dX5_isOver_2 : decode cX5_isOver 2 = .ok (.invokevirtual 103, 3) := by decide +kernel
theorem dX5_isOver_5 : decode cX5_isOver 5 = .ok (.aload_n 0, 1) := by decide +kernel
theorem dX5_isOver_6 : decode cX5_isOver 6 = .ok (.getfield 106, 3) := by decide +kernel
theorem dX5_isOver_9 : decode cX5_isOver 9 = .ok (.if_icmp .gt 7, 3) := by decide +kernel
theorem dX5_isOver_12 : decode cX5_isOver 12 = .ok (.iconst 1, 1) := by decide +kernel
theorem dX5_isOver_13 : decode cX5_isOver 13 = .ok (.goto 4, 3) := by decide +kernel
theorem dX5_isOver_16 : decode cX5_isOver 16 = .ok (.iconst 0, 1) := by decide +kernel
theorem dX5_isOver_17 : decode cX5_isOver 17 = .ok (.ireturn, 1) := by decide +kernel
set_option maxRecDepth 20000 in
theorem ggX5_stands_X5_isOver : GoodIn wsX5_stands wsX5_isOver := goodIn_r _ [6, 7, 8, 9, 10, 5, 11, 12, 13, 14, 15, 16, 17, 18, 19, 20, 21, 22, 23, 24, 25, 26, 27, 28, 29, 30] (by decide +kernel) (by decide +kernel)
set_option maxRecDepth 20000 in
theorem gX5_stands_X5_isOver : GoodIn wsX5_stands (wsV RX5 109 RX5 yX5_isOver wsX5_isOver) := goodIn_app (goodIn_of _ (by decide +kernel)) ggX5_stands_X5_isOver
theorem dX5_stands_0 : decode cX5_stands 0 = .ok (.aload_n 0, 1) := by decide +kernel
theorem dX5_stands_1 : decode cX5_stands 1 = .ok (.getfield 16, 3) := by decide +kernel
theorem dX5_stands_4 : decode cX5_stands 4 = .ok (.iload_n 1, 1) := by decide +kernel
theorem dX5_stands_5 : decode cX5_stands 5 = .ok (.baload, 1) := by decide +kernel
theorem dX5_stands_6 : decode cX5_stands 6 = .ok (.ifCond .eq 15, 3) := by decide +kernel
theorem dX5_stands_9 : decode cX5_stands 9 = .ok (.aload_n 0, 1) := by decide +kernel
theorem dX5_stands_10 : decode cX5_stands 10 = .ok (.iload_n 1, 1) := by decide +kernel
theorem dX5_stands_11 : decode cX5_stands 11 = .ok (.invokevirtual 109, 3) := by decide +kernel
theorem dX5_stands_14 : decode cX5_stands 14 = .ok (.ifCond .ne 7, 3) := by decide +kernel
theorem dX5_stands_17 : decode cX5_stands 17 = .ok (.iconst 1, 1) := by decide +kernel
theorem dX5_stands_18 : decode cX5_stands 18 = .ok (.goto 4, 3) := by decide +kernel
theorem dX5_stands_21 : decode cX5_stands 21 = .ok (.iconst 0, 1) := by decide +kernel
theorem dX5_stands_22 : decode cX5_stands 22 = .ok (.ireturn, 1) := by decide +kernel
theorem dX5_said_0 : decode cX5_said 0 = .ok (.iconst 0, 1) := by decide +kernel
theorem dX5_said_1 : decode cX5_said 1 = .ok (.istore_n 3, 1) := by decide +kernel
theorem dX5_said_2 : decode cX5_said 2 = .ok (.iconst 0, 1) := by decide +kernel
theorem dX5_said_3 : decode cX5_said 3 = .ok (.istore 4, 2) := by decide +kernel
theorem dX5_said_5 : decode cX5_said 5 = .ok (.iload 4, 2) := by decide +kernel
theorem dX5_said_7 : decode cX5_said 7 = .ok (.aload_n 0, 1) := by decide +kernel
theorem dX5_said_8 : decode cX5_said 8 = .ok (.getfield 7, 3) := by decide +kernel
theorem dX5_said_11 : decode cX5_said 11 = .ok (.bipush 120, 2) := by decide +kernel
theorem dX5_said_13 : decode cX5_said 13 = .ok (.iload_n 1, 1) := by decide +kernel
theorem dX5_said_14 : decode cX5_said 14 = .ok (.imul, 1) := by decide +kernel
theorem dX5_said_15 : decode cX5_said 15 = .ok (.iconst 4, 1) := by decide +kernel
theorem dX5_said_16 : decode cX5_said 16 = .ok (.iadd, 1) := by decide +kernel
theorem dX5_said_17 : decode cX5_said 17 = .ok (.iaload, 1) := by decide +kernel
theorem dX5_said_18 : decode cX5_said 18 = .ok (.if_icmp .ge 47, 3) := by decide +kernel
theorem dX5_said_21 : decode cX5_said 21 = .ok (.bipush 120, 2) := by decide +kernel
theorem dX5_said_23 : decode cX5_said 23 = .ok (.iload_n 1, 1) := by decide +kernel
theorem dX5_said_24 : decode cX5_said 24 = .ok (.imul, 1) := by decide +kernel
theorem dX5_said_25 : decode cX5_said 25 = .ok (.iconst 5, 1) := by decide +kernel
theorem dX5_said_26 : decode cX5_said 26 = .ok (.iadd, 1) := by decide +kernel
theorem dX5_said_27 : decode cX5_said 27 = .ok (.iconst 2, 1) := by decide +kernel
theorem dX5_said_28 : decode cX5_said 28 = .ok (.iload 4, 2) := by decide +kernel
theorem dX5_said_30 : decode cX5_said 30 = .ok (.imul, 1) := by decide +kernel
theorem dX5_said_31 : decode cX5_said 31 = .ok (.iadd, 1) := by decide +kernel
theorem dX5_said_32 : decode cX5_said 32 = .ok (.istore 5, 2) := by decide +kernel
theorem dX5_said_34 : decode cX5_said 34 = .ok (.aload_n 0, 1) := by decide +kernel
theorem dX5_said_35 : decode cX5_said 35 = .ok (.getfield 7, 3) := by decide +kernel
theorem dX5_said_38 : decode cX5_said 38 = .ok (.iload 5, 2) := by decide +kernel
theorem dX5_said_40 : decode cX5_said 40 = .ok (.iaload, 1) := by decide +kernel
theorem dX5_said_41 : decode cX5_said 41 = .ok (.iload_n 2, 1) := by decide +kernel
theorem dX5_said_42 : decode cX5_said 42 = .ok (.if_icmp .ne 15, 3) := by decide +kernel
theorem dX5_said_45 : decode cX5_said 45 = .ok (.aload_n 0, 1) := by decide +kernel
theorem dX5_said_46 : decode cX5_said 46 = .ok (.getfield 7, 3) := by decide +kernel
theorem dX5_said_49 : decode cX5_said 49 = .ok (.iload 5, 2) := by decide +kernel
theorem dX5_said_51 : decode cX5_said 51 = .ok (.iconst 1, 1) := by decide +kernel
theorem dX5_said_52 : decode cX5_said 52 = .ok (.iadd, 1) := by decide +kernel
theorem dX5_said_53 : decode cX5_said 53 = .ok (.iaload, 1) := by decide +kernel
theorem dX5_said_54 : decode cX5_said 54 = .ok (.goto 4, 3) := by decide +kernel
theorem dX5_said_57 : decode cX5_said 57 = .ok (.iload_n 3, 1) := by decide +kernel
theorem dX5_said_58 : decode cX5_said 58 = .ok (.istore_n 3, 1) := by decide +kernel
theorem dX5_said_59 : decode cX5_said 59 = .ok (.iinc 4 1, 3) := by decide +kernel
theorem dX5_said_62 : decode cX5_said 62 = .ok (.goto (-57), 3) := by decide +kernel
theorem dX5_said_65 : decode cX5_said 65 = .ok (.iload_n 3, 1) := by decide +kernel
theorem dX5_said_66 : decode cX5_said 66 = .ok (.ireturn, 1) := by decide +kernel
set_option maxRecDepth 20000 in
theorem ggX5_sign_X5_isDocument : GoodIn wsX5_sign wsX5_isDocument := goodIn_r _ [11, 12, 2, 3, 13, 14, 15, 10, 16, 6, 5, 17, 18, 19, 20, 21, 22, 23, 24, 4, 25, 26, 27, 28, 29, 30, 31, 32, 33, 34, 35, 36, 37, 38, 39, 40, 41, 42, 43, 44, 45, 46, 47, 48, 49, 68, 69, 70, 71, 72, 73, 74, 75, 76, 77, 78, 79, 80, 81, 82, 83, 84, 85] (by decide +kernel) (by decide +kernel)
set_option maxRecDepth 20000 in
theorem gX5_sign_X5_isDocument : GoodIn wsX5_sign (wsV RX5 97 RX5 yX5_isDocument wsX5_isDocument) := goodIn_app (goodIn_of _ (by decide +kernel)) ggX5_sign_X5_isDocument
set_option maxRecDepth 20000 in
theorem ggX5_sign_X5_passSigned : GoodIn wsX5_sign wsX5_passSigned := goodIn_r _ [16, 2, 6, 3, 12, 5, 17, 18, 19, 10, 20, 21, 22, 23, 24, 4, 25, 26, 27, 28, 29, 30, 31, 32, 33, 34, 35, 36, 37, 38, 39, 40, 41, 42, 43, 44, 45, 46, 47, 48, 49, 68, 69, 70, 71, 72, 73, 74, 75, 76, 77, 78, 79, 80, 81, 82, 83, 84, 85] (by decide +kernel) (by decide +kernel)
set_option maxRecDepth 20000 in
theorem gX5_sign_X5_passSigned : GoodIn wsX5_sign (wsV RX5 89 RX5 yX5_passSigned wsX5_passSigned) := goodIn_app (goodIn_of _ (by decide +kernel)) ggX5_sign_X5_passSigned
set_option maxRecDepth 20000 in
theorem ggX5_sign_X5_fail : GoodIn wsX5_sign wsX5_fail := goodIn_r _ [53, 1, 68, 69, 70, 71, 72, 73, 74, 75, 76, 77, 78, 79, 80, 81, 82, 83, 84, 85] (by decide +kernel) (by decide +kernel)
set_option maxRecDepth 20000 in
theorem gX5_sign_X5_fail : GoodIn wsX5_sign (wsV RX5 112 RX5 yX5_fail wsX5_fail) := goodIn_app (goodIn_of _ (by decide +kernel)) ggX5_sign_X5_fail
set_option maxRecDepth 20000 in
theorem ggX5_sign_X5_mixOf : GoodIn wsX5_sign wsX5_mixOf := goodIn_r _ [57, 58, 4, 59, 68, 69, 70, 71, 72, 73, 74, 75, 76, 77, 78, 79, 80, 81, 82, 83, 84, 85] (by decide +kernel) (by decide +kernel)
set_option maxRecDepth 20000 in
theorem gX5_sign_X5_mixOf : GoodIn wsX5_sign (wsV RX5 38 RX5 yX5_mixOf wsX5_mixOf) := goodIn_app (goodIn_of _ (by decide +kernel)) ggX5_sign_X5_mixOf
set_option maxRecDepth 20000 in
theorem ggX5_sign_X5_add : GoodIn wsX5_sign wsX5_add := goodIn_r _ [63, 4, 6, 68, 69, 70, 71, 72, 73, 74, 75, 76, 77, 78, 79, 80, 81, 82, 83, 84, 85] (by decide +kernel) (by decide +kernel)
set_option maxRecDepth 20000 in
theorem gX5_sign_X5_add : GoodIn wsX5_sign (wsV RX5 32 RX5 yX5_add wsX5_add) := goodIn_app (goodIn_of _ (by decide +kernel)) ggX5_sign_X5_add
set_option maxRecDepth 20000 in
theorem ggX5_sign_X5_addFour : GoodIn wsX5_sign wsX5_addFour := goodIn_r _ [67, 60, 61, 62, 10, 63, 4, 6, 68, 69, 70, 71, 72, 73, 74, 75, 76, 77, 78, 79, 80, 81, 82, 83, 84, 85] (by decide +kernel) (by decide +kernel)
set_option maxRecDepth 20000 in
theorem gX5_sign_X5_addFour : GoodIn wsX5_sign (wsV RX5 42 RX5 yX5_addFour wsX5_addFour) := goodIn_app (goodIn_of _ (by decide +kernel)) ggX5_sign_X5_addFour
theorem dX5_sign_0 : decode cX5_sign 0 = .ok (.aload_n 0, 1) := by decide +kernel
theorem dX5_sign_1 : decode cX5_sign 1 = .ok (.iload_n 1, 1) := by decide +kernel
theorem dX5_sign_2 : decode cX5_sign 2 = .ok (.ifCond .lt 9, 3) := by decide +kernel
theorem dX5_sign_5 : decode cX5_sign 5 = .ok (.iload_n 1, 1) := by decide +kernel
theorem dX5_sign_6 : decode cX5_sign 6 = .ok (.bipush 9, 2) := by decide +kernel
theorem dX5_sign_8 : decode cX5_sign 8 = .ok (.if_icmp .le 7, 3) := by decide +kernel
theorem dX5_sign_11 : decode cX5_sign 11 = .ok (.iconst 1, 1) := by decide +kernel
theorem dX5_sign_12 : decode cX5_sign 12 = .ok (.goto 4, 3) := by decide +kernel
theorem dX5_sign_15 : decode cX5_sign 15 = .ok (.iconst 0, 1) := by decide +kernel
theorem dX5_sign_16 : decode cX5_sign 16 = .ok (.putfield 26, 3) := by decide +kernel
theorem dX5_sign_19 : decode cX5_sign 19 = .ok (.aload_n 0, 1) := by decide +kernel
theorem dX5_sign_20 : decode cX5_sign 20 = .ok (.getfield 26, 3) := by decide +kernel
theorem dX5_sign_23 : decode cX5_sign 23 = .ok (.ifCond .le 5, 3) := by decide +kernel
theorem dX5_sign_26 : decode cX5_sign 26 = .ok (.iconst 0, 1) := by decide +kernel
theorem dX5_sign_27 : decode cX5_sign 27 = .ok (.ireturn, 1) := by decide +kernel
theorem dX5_sign_28 : decode cX5_sign 28 = .ok (.aload_n 0, 1) := by decide +kernel
theorem dX5_sign_29 : decode cX5_sign 29 = .ok (.bipush 7, 2) := by decide +kernel
theorem dX5_sign_31 : decode cX5_sign 31 = .ok (.invokevirtual 97, 3) := by decide +kernel
theorem dX5_sign_34 : decode cX5_sign 34 = .ok (.istore_n 2, 1) := by decide +kernel
theorem dX5_sign_35 : decode cX5_sign 35 = .ok (.aload_n 0, 1) := by decide +kernel
theorem dX5_sign_36 : decode cX5_sign 36 = .ok (.bipush 7, 2) := by decide +kernel
theorem dX5_sign_38 : decode cX5_sign 38 = .ok (.invokevirtual 89, 3) := by decide +kernel
theorem dX5_sign_41 : decode cX5_sign 41 = .ok (.ifCond .eq 18, 3) := by decide +kernel
theorem dX5_sign_44 : decode cX5_sign 44 = .ok (.aload_n 0, 1) := by decide +kernel
theorem dX5_sign_45 : decode cX5_sign 45 = .ok (.getfield 49, 3) := by decide +kernel
theorem dX5_sign_48 : decode cX5_sign 48 = .ok (.aload_n 0, 1) := by decide +kernel
theorem dX5_sign_49 : decode cX5_sign 49 = .ok (.getfield 52, 3) := by decide +kernel
theorem dX5_sign_52 : decode cX5_sign 52 = .ok (.if_icmp .ne 7, 3) := by decide +kernel
theorem dX5_sign_55 : decode cX5_sign 55 = .ok (.iconst 1, 1) := by decide +kernel
theorem dX5_sign_56 : decode cX5_sign 56 = .ok (.goto 4, 3) := by decide +kernel
theorem dX5_sign_59 : decode cX5_sign 59 = .ok (.iconst 0, 1) := by decide +kernel
theorem dX5_sign_60 : decode cX5_sign 60 = .ok (.istore_n 3, 1) := by decide +kernel
theorem dX5_sign_61 : decode cX5_sign 61 = .ok (.iload_n 2, 1) := by decide +kernel
theorem dX5_sign_62 : decode cX5_sign 62 = .ok (.ifCond .ne 13, 3) := by decide +kernel
theorem dX5_sign_65 : decode cX5_sign 65 = .ok (.iload_n 3, 1) := by decide +kernel
theorem dX5_sign_66 : decode cX5_sign 66 = .ok (.ifCond .ne 9, 3) := by decide +kernel
theorem dX5_sign_69 : decode cX5_sign 69 = .ok (.aload_n 0, 1) := by decide +kernel
theorem dX5_sign_70 : decode cX5_sign 70 = .ok (.iconst 2, 1) := by decide +kernel
theorem dX5_sign_71 : decode cX5_sign 71 = .ok (.invokevirtual 112, 3) := by decide +kernel
theorem dX5_sign_74 : decode cX5_sign 74 = .ok (.ireturn, 1) := by decide +kernel
theorem dX5_sign_75 : decode cX5_sign 75 = .ok (.iload_n 3, 1) := by decide +kernel
theorem dX5_sign_76 : decode cX5_sign 76 = .ok (.ifCond .eq 7, 3) := by decide +kernel
theorem dX5_sign_79 : decode cX5_sign 79 = .ok (.iconst 0, 1) := by decide +kernel
theorem dX5_sign_80 : decode cX5_sign 80 = .ok (.goto 12, 3) := by decide +kernel
theorem dX5_sign_83 : decode cX5_sign 83 = .ok (.aload_n 0, 1) := by decide +kernel
theorem dX5_sign_84 : decode cX5_sign 84 = .ok (.getfield 7, 3) := by decide +kernel
theorem dX5_sign_87 : decode cX5_sign 87 = .ok (.aload_n 0, 1) := by decide +kernel
theorem dX5_sign_88 : decode cX5_sign 88 = .ok (.getfield 86, 3) := by decide +kernel
theorem dX5_sign_91 : decode cX5_sign 91 = .ok (.iaload, 1) := by decide +kernel
theorem dX5_sign_92 : decode cX5_sign 92 = .ok (.istore 4, 2) := by decide +kernel
theorem dX5_sign_94 : decode cX5_sign 94 = .ok (.iload 4, 2) := by decide +kernel
theorem dX5_sign_96 : decode cX5_sign 96 = .ok (.bipush 6, 2) := by decide +kernel
theorem dX5_sign_98 : decode cX5_sign 98 = .ok (.if_icmp .eq 26, 3) := by decide +kernel
theorem dX5_sign_101 : decode cX5_sign 101 = .ok (.aload_n 0, 1) := by decide +kernel
theorem dX5_sign_102 : decode cX5_sign 102 = .ok (.getfield 13, 3) := by decide +kernel
theorem dX5_sign_105 : decode cX5_sign 105 = .ok (.bipush 7, 2) := by decide +kernel
theorem dX5_sign_107 : decode cX5_sign 107 = .ok (.iaload, 1) := by decide +kernel
theorem dX5_sign_108 : decode cX5_sign 108 = .ok (.iload_n 3, 1) := by decide +kernel
theorem dX5_sign_109 : decode cX5_sign 109 = .ok (.ifCond .eq 8, 3) := by decide +kernel
theorem dX5_sign_112 : decode cX5_sign 112 = .ok (.bipush 6, 2) := by decide +kernel
theorem dX5_sign_114 : decode cX5_sign 114 = .ok (.goto 4, 3) := by decide +kernel
theorem dX5_sign_117 : decode cX5_sign 117 = .ok (.iconst 5, 1) := by decide +kernel
theorem dX5_sign_118 : decode cX5_sign 118 = .ok (.iadd, 1) := by decide +kernel
theorem dX5_sign_119 : decode cX5_sign 119 = .ok (.bipush 120, 2) := by decide +kernel
theorem dX5_sign_121 : decode cX5_sign 121 = .ok (.if_icmp .le 9, 3) := by decide +kernel
theorem dX5_sign_124 : decode cX5_sign 124 = .ok (.aload_n 0, 1) := by decide +kernel
theorem dX5_sign_125 : decode cX5_sign 125 = .ok (.iconst 3, 1) := by decide +kernel
theorem dX5_sign_126 : decode cX5_sign 126 = .ok (.invokevirtual 112, 3) := by decide +kernel
theorem dX5_sign_129 : decode cX5_sign 129 = .ok (.ireturn, 1) := by decide +kernel
theorem dX5_sign_130 : decode cX5_sign 130 = .ok (.aload_n 0, 1) := by decide +kernel
theorem dX5_sign_131 : decode cX5_sign 131 = .ok (.sipush 840, 3) := by decide +kernel
theorem dX5_sign_134 : decode cX5_sign 134 = .ok (.aload_n 0, 1) := by decide +kernel
theorem dX5_sign_135 : decode cX5_sign 135 = .ok (.getfield 86, 3) := by decide +kernel
theorem dX5_sign_138 : decode cX5_sign 138 = .ok (.sipush 840, 3) := by decide +kernel
theorem dX5_sign_141 : decode cX5_sign 141 = .ok (.isub, 1) := by decide +kernel
theorem dX5_sign_142 : decode cX5_sign 142 = .ok (.iload_n 1, 1) := by decide +kernel
theorem dX5_sign_143 : decode cX5_sign 143 = .ok (.iconst 1, 1) := by decide +kernel
theorem dX5_sign_144 : decode cX5_sign 144 = .ok (.iadd, 1) := by decide +kernel
theorem dX5_sign_145 : decode cX5_sign 145 = .ok (.invokevirtual 38, 3) := by decide +kernel
theorem dX5_sign_148 : decode cX5_sign 148 = .ok (.istore 5, 2) := by decide +kernel
theorem dX5_sign_150 : decode cX5_sign 150 = .ok (.iload_n 3, 1) := by decide +kernel
theorem dX5_sign_151 : decode cX5_sign 151 = .ok (.ifCond .eq 8, 3) := by decide +kernel
theorem dX5_sign_154 : decode cX5_sign 154 = .ok (.aload_n 0, 1) := by decide +kernel
theorem dX5_sign_155 : decode cX5_sign 155 = .ok (.iconst 0, 1) := by decide +kernel
theorem dX5_sign_156 : decode cX5_sign 156 = .ok (.invokevirtual 32, 3) := by decide +kernel
theorem dX5_sign_159 : decode cX5_sign 159 = .ok (.aload_n 0, 1) := by decide +kernel
theorem dX5_sign_160 : decode cX5_sign 160 = .ok (.getfield 7, 3) := by decide +kernel
theorem dX5_sign_163 : decode cX5_sign 163 = .ok (.aload_n 0, 1) := by decide +kernel
theorem dX5_sign_164 : decode cX5_sign 164 = .ok (.getfield 86, 3) := by decide +kernel
theorem dX5_sign_167 : decode cX5_sign 167 = .ok (.iload 4, 2) := by decide +kernel
theorem dX5_sign_169 : decode cX5_sign 169 = .ok (.iconst 1, 1) := by decide +kernel
theorem dX5_sign_170 : decode cX5_sign 170 = .ok (.iadd, 1) := by decide +kernel
theorem dX5_sign_171 : decode cX5_sign 171 = .ok (.iastore, 1) := by decide +kernel
theorem dX5_sign_172 : decode cX5_sign 172 = .ok (.aload_n 0, 1) := by decide +kernel
theorem dX5_sign_173 : decode cX5_sign 173 = .ok (.iload_n 1, 1) := by decide +kernel
theorem dX5_sign_174 : decode cX5_sign 174 = .ok (.invokevirtual 32, 3) := by decide +kernel
theorem dX5_sign_177 : decode cX5_sign 177 = .ok (.aload_n 0, 1) := by decide +kernel
theorem dX5_sign_178 : decode cX5_sign 178 = .ok (.iload 5, 2) := by decide +kernel
theorem dX5_sign_180 : decode cX5_sign 180 = .ok (.invokevirtual 42, 3) := by decide +kernel
theorem dX5_sign_183 : decode cX5_sign 183 = .ok (.iload 4, 2) := by decide +kernel
theorem dX5_sign_185 : decode cX5_sign 185 = .ok (.iconst 1, 1) := by decide +kernel
theorem dX5_sign_186 : decode cX5_sign 186 = .ok (.iadd, 1) := by decide +kernel
theorem dX5_sign_187 : decode cX5_sign 187 = .ok (.ireturn, 1) := by decide +kernel
theorem dX5_copy_0 : decode cX5_copy 0 = .ok (.aload_n 0, 1) := by decide +kernel
theorem dX5_copy_1 : decode cX5_copy 1 = .ok (.getfield 13, 3) := by decide +kernel
theorem dX5_copy_4 : decode cX5_copy 4 = .ok (.iload_n 2, 1) := by decide +kernel
theorem dX5_copy_5 : decode cX5_copy 5 = .ok (.aload_n 0, 1) := by decide +kernel
theorem dX5_copy_6 : decode cX5_copy 6 = .ok (.getfield 13, 3) := by decide +kernel
theorem dX5_copy_9 : decode cX5_copy 9 = .ok (.iload_n 1, 1) := by decide +kernel
theorem dX5_copy_10 : decode cX5_copy 10 = .ok (.iaload, 1) := by decide +kernel
theorem dX5_copy_11 : decode cX5_copy 11 = .ok (.iastore, 1) := by decide +kernel
theorem dX5_copy_12 : decode cX5_copy 12 = .ok (.iconst 0, 1) := by decide +kernel
theorem dX5_copy_13 : decode cX5_copy 13 = .ok (.istore_n 3, 1) := by decide +kernel
theorem dX5_copy_14 : decode cX5_copy 14 = .ok (.iload_n 3, 1) := by decide +kernel
theorem dX5_copy_15 : decode cX5_copy 15 = .ok (.aload_n 0, 1) := by decide +kernel
theorem dX5_copy_16 : decode cX5_copy 16 = .ok (.getfield 13, 3) := by decide +kernel
theorem dX5_copy_19 : decode cX5_copy 19 = .ok (.iload_n 1, 1) := by decide +kernel
theorem dX5_copy_20 : decode cX5_copy 20 = .ok (.iaload, 1) := by decide +kernel
theorem dX5_copy_21 : decode cX5_copy 21 = .ok (.if_icmp .ge 31, 3) := by decide +kernel
theorem dX5_copy_24 : decode cX5_copy 24 = .ok (.aload_n 0, 1) := by decide +kernel
theorem dX5_copy_25 : decode cX5_copy 25 = .ok (.getfield 7, 3) := by decide +kernel
theorem dX5_copy_28 : decode cX5_copy 28 = .ok (.bipush 120, 2) := by decide +kernel
theorem dX5_copy_30 : decode cX5_copy 30 = .ok (.iload_n 2, 1) := by decide +kernel
theorem dX5_copy_31 : decode cX5_copy 31 = .ok (.imul, 1) := by decide +kernel
theorem dX5_copy_32 : decode cX5_copy 32 = .ok (.iload_n 3, 1) := by decide +kernel
theorem dX5_copy_33 : decode cX5_copy 33 = .ok (.iadd, 1) := by decide +kernel
theorem dX5_copy_34 : decode cX5_copy 34 = .ok (.aload_n 0, 1) := by decide +kernel
theorem dX5_copy_35 : decode cX5_copy 35 = .ok (.getfield 7, 3) := by decide +kernel
theorem dX5_copy_38 : decode cX5_copy 38 = .ok (.bipush 120, 2) := by decide +kernel
theorem dX5_copy_40 : decode cX5_copy 40 = .ok (.iload_n 1, 1) := by decide +kernel
theorem dX5_copy_41 : decode cX5_copy 41 = .ok (.imul, 1) := by decide +kernel
theorem dX5_copy_42 : decode cX5_copy 42 = .ok (.iload_n 3, 1) := by decide +kernel
theorem dX5_copy_43 : decode cX5_copy 43 = .ok (.iadd, 1) := by decide +kernel
theorem dX5_copy_44 : decode cX5_copy 44 = .ok (.iaload, 1) := by decide +kernel
theorem dX5_copy_45 : decode cX5_copy 45 = .ok (.iastore, 1) := by decide +kernel
theorem dX5_copy_46 : decode cX5_copy 46 = .ok (.iinc 3 1, 3) := by decide +kernel
theorem dX5_copy_49 : decode cX5_copy 49 = .ok (.goto (-35), 3) := by decide +kernel
theorem dX5_copy_52 : decode cX5_copy 52 = .ok (.return_, 1) := by decide +kernel
set_option maxRecDepth 20000 in
theorem ggX5_content_X5_copy : GoodIn wsX5_content wsX5_copy := goodIn_r _ [7, 2, 8, 9, 10, 11, 12, 13, 14, 15, 16, 17, 18, 19, 20, 21, 22, 23, 24, 25, 26] (by decide +kernel) (by decide +kernel)
set_option maxRecDepth 20000 in
theorem gX5_content_X5_copy : GoodIn wsX5_content (wsV RX5 115 RX5 yX5_copy wsX5_copy) := goodIn_app (goodIn_of _ (by decide +kernel)) ggX5_content_X5_copy
theorem dX5_content_0 : decode cX5_content 0 = .ok (.aload_n 0, 1) := by decide +kernel
theorem dX5_content_1 : decode cX5_content 1 = .ok (.iconst 0, 1) := by decide +kernel
theorem dX5_content_2 : decode cX5_content 2 = .ok (.putfield 26, 3) := by decide +kernel
theorem dX5_content_5 : decode cX5_content 5 = .ok (.aload_n 0, 1) := by decide +kernel
theorem dX5_content_6 : decode cX5_content 6 = .ok (.bipush 7, 2) := by decide +kernel
theorem dX5_content_8 : decode cX5_content 8 = .ok (.bipush 8, 2) := by decide +kernel
theorem dX5_content_10 : decode cX5_content 10 = .ok (.invokevirtual 115, 3) := by decide +kernel
theorem dX5_content_13 : decode cX5_content 13 = .ok (.aload_n 0, 1) := by decide +kernel
theorem dX5_content_14 : decode cX5_content 14 = .ok (.getfield 13, 3) := by decide +kernel
theorem dX5_content_17 : decode cX5_content 17 = .ok (.bipush 8, 2) := by decide +kernel
theorem dX5_content_19 : decode cX5_content 19 = .ok (.iaload, 1) := by decide +kernel
theorem dX5_content_20 : decode cX5_content 20 = .ok (.ireturn, 1) := by decide +kernel
theorem dX5_tick_0 : decode cX5_tick 0 = .ok (.aload_n 0, 1) := by decide +kernel
theorem dX5_tick_1 : decode cX5_tick 1 = .ok (.iload_n 1, 1) := by decide +kernel
theorem dX5_tick_2 : decode cX5_tick 2 = .ok (.ifCond .lt 10, 3) := by decide +kernel
theorem dX5_tick_5 : decode cX5_tick 5 = .ok (.iload_n 1, 1) := by decide +kernel
theorem dX5_tick_6 : decode cX5_tick 6 = .ok (.sipush 10000, 3) := by decide +kernel
theorem dX5_tick_9 : decode cX5_tick 9 = .ok (.if_icmp .le 7, 3) := by decide +kernel
theorem dX5_tick_12 : decode cX5_tick 12 = .ok (.iconst 1, 1) := by decide +kernel
theorem dX5_tick_13 : decode cX5_tick 13 = .ok (.goto 4, 3) := by decide +kernel
theorem dX5_tick_16 : decode cX5_tick 16 = .ok (.iconst 0, 1) := by decide +kernel
theorem dX5_tick_17 : decode cX5_tick 17 = .ok (.putfield 26, 3) := by decide +kernel
theorem dX5_tick_20 : decode cX5_tick 20 = .ok (.aload_n 0, 1) := by decide +kernel
theorem dX5_tick_21 : decode cX5_tick 21 = .ok (.aload_n 0, 1) := by decide +kernel
theorem dX5_tick_22 : decode cX5_tick 22 = .ok (.getfield 26, 3) := by decide +kernel
theorem dX5_tick_25 : decode cX5_tick 25 = .ok (.ifCond .le 10, 3) := by decide +kernel
theorem dX5_tick_28 : decode cX5_tick 28 = .ok (.aload_n 0, 1) := by decide +kernel
theorem dX5_tick_29 : decode cX5_tick 29 = .ok (.getfield 106, 3) := by decide +kernel
theorem dX5_tick_32 : decode cX5_tick 32 = .ok (.goto 9, 3) := by decide +kernel
theorem dX5_tick_35 : decode cX5_tick 35 = .ok (.aload_n 0, 1) := by decide +kernel
theorem dX5_tick_36 : decode cX5_tick 36 = .ok (.getfield 106, 3) := by decide +kernel
theorem dX5_tick_39 : decode cX5_tick 39 = .ok (.iload_n 1, 1) := by decide +kernel
theorem dX5_tick_40 : decode cX5_tick 40 = .ok (.iadd, 1) := by decide +kernel
theorem dX5_tick_41 : decode cX5_tick 41 = .ok (.putfield 106, 3) := by decide +kernel
theorem dX5_tick_44 : decode cX5_tick 44 = .ok (.aload_n 0, 1) := by decide +kernel
theorem dX5_tick_45 : decode cX5_tick 45 = .ok (.getfield 26, 3) := by decide +kernel
theorem dX5_tick_48 : decode cX5_tick 48 = .ok (.ifCond .le 7, 3) := by decide +kernel
theorem dX5_tick_51 : decode cX5_tick 51 = .ok (.iconst 0, 1) := by decide +kernel
theorem dX5_tick_52 : decode cX5_tick 52 = .ok (.goto 7, 3) := by decide +kernel
theorem dX5_tick_55 : decode cX5_tick 55 = .ok (.aload_n 0, 1) := by decide +kernel
theorem dX5_tick_56 : decode cX5_tick 56 = .ok (.getfield 106, 3) := by decide +kernel
theorem dX5_tick_59 : decode cX5_tick 59 = .ok (.ireturn, 1) := by decide +kernel
theorem dX5_roleOfDraft_0 : decode cX5_roleOfDraft 0 = .ok (.aload_n 0, 1) := by decide +kernel
theorem dX5_roleOfDraft_1 : decode cX5_roleOfDraft 1 = .ok (.getfield 7, 3) := by decide +kernel
theorem dX5_roleOfDraft_4 : decode cX5_roleOfDraft 4 = .ok (.sipush 840, 3) := by decide +kernel
theorem dX5_roleOfDraft_7 : decode cX5_roleOfDraft 7 = .ok (.iaload, 1) := by decide +kernel
theorem dX5_roleOfDraft_8 : decode cX5_roleOfDraft 8 = .ok (.ireturn, 1) := by decide +kernel
set_option maxRecDepth 20000 in
theorem ggX5_trust_X5_copy : GoodIn wsX5_trust wsX5_copy := goodIn_r _ [6, 7, 8, 9, 10, 11, 12, 13, 14, 15, 16, 17, 18, 19, 20, 21, 22, 23, 24, 25, 26] (by decide +kernel) (by decide +kernel)
set_option maxRecDepth 20000 in
theorem gX5_trust_X5_copy : GoodIn wsX5_trust (wsV RX5 115 RX5 yX5_copy wsX5_copy) := goodIn_app (goodIn_of _ (by decide +kernel)) ggX5_trust_X5_copy
theorem dX5_trust_0 : decode cX5_trust 0 = .ok (.aload_n 0, 1) := by decide +kernel
theorem dX5_trust_1 : decode cX5_trust 1 = .ok (.bipush 7, 2) := by decide +kernel
theorem dX5_trust_3 : decode cX5_trust 3 = .ok (.iload_n 1, 1) := by decide +kernel
theorem dX5_trust_4 : decode cX5_trust 4 = .ok (.invokevirtual 115, 3) := by decide +kernel
theorem dX5_trust_7 : decode cX5_trust 7 = .ok (.aload_n 0, 1) := by decide +kernel
theorem dX5_trust_8 : decode cX5_trust 8 = .ok (.getfield 16, 3) := by decide +kernel
theorem dX5_trust_11 : decode cX5_trust 11 = .ok (.iload_n 1, 1) := by decide +kernel
theorem dX5_trust_12 : decode cX5_trust 12 = .ok (.iconst 1, 1) := by decide +kernel
theorem dX5_trust_13 : decode cX5_trust 13 = .ok (.bastore, 1) := by decide +kernel
theorem dX5_trust_14 : decode cX5_trust 14 = .ok (.return_, 1) := by decide +kernel
set_option maxRecDepth 20000 in
theorem ggX5_begin_X5_isDocument : GoodIn wsX5_begin wsX5_isDocument := goodIn_r _ [7, 8, 9, 10, 11, 12, 13, 6, 14, 15, 16, 17, 18, 19, 20, 21, 22, 23, 24, 25, 26, 27, 28, 29, 30, 31, 32, 33, 34, 35, 36, 37, 38, 39, 40, 41, 42, 43, 44, 45, 46, 47, 48, 49, 50, 63, 64, 65, 66, 67, 68, 69, 70, 71, 72, 73, 74, 75, 76, 77, 78, 79, 80] (by decide +kernel) (by decide +kernel)
set_option maxRecDepth 20000 in
theorem gX5_begin_X5_isDocument : GoodIn wsX5_begin (wsV RX5 97 RX5 yX5_isDocument wsX5_isDocument) := goodIn_app (goodIn_of _ (by decide +kernel)) ggX5_begin_X5_isDocument
set_option maxRecDepth 20000 in
theorem ggX5_begin_X5_roleOfDraft : GoodIn wsX5_begin wsX5_roleOfDraft := goodIn_r _ [54, 25, 63, 64, 65, 66, 67, 68, 69, 70, 71, 72, 73, 74, 75, 76, 77, 78, 79, 80] (by decide +kernel) (by decide +kernel)
set_option maxRecDepth 20000 in
theorem gX5_begin_X5_roleOfDraft : GoodIn wsX5_begin (wsV RX5 118 RX5 yX5_roleOfDraft wsX5_roleOfDraft) := goodIn_app (goodIn_of _ (by decide +kernel)) ggX5_begin_X5_roleOfDraft
set_option maxRecDepth 20000 in
theorem ggX5_begin_X5_trust : GoodIn wsX5_begin wsX5_trust := goodIn_r _ [58, 2, 59, 60, 61, 6, 62, 15, 25, 63, 64, 65, 66, 67, 68, 69, 70, 71, 72, 73, 74, 75, 76, 77, 78, 79, 80] (by decide +kernel) (by decide +kernel)
set_option maxRecDepth 20000 in
theorem gX5_begin_X5_trust : GoodIn wsX5_begin (wsV RX5 121 RX5 yX5_trust wsX5_trust) := goodIn_app (goodIn_of _ (by decide +kernel)) ggX5_begin_X5_trust
theorem dX5_begin_0 : decode cX5_begin 0 = .ok (.aload_n 0, 1) := by decide +kernel
theorem dX5_begin_1 : decode cX5_begin 1 = .ok (.aload_n 0, 1) := by decide +kernel
theorem dX5_begin_2 : decode cX5_begin 2 = .ok (.bipush 7, 2) := by decide +kernel
theorem dX5_begin_4 : decode cX5_begin 4 = .ok (.invokevirtual 97, 3) := by decide +kernel
theorem dX5_begin_7 : decode cX5_begin 7 = .ok (.ifCond .eq 14, 3) := by decide +kernel
theorem dX5_begin_10 : decode cX5_begin 10 = .ok (.aload_n 0, 1) := by decide +kernel
theorem dX5_begin_11 : decode cX5_begin 11 = .ok (.invokevirtual 118, 3) := by decide +kernel
theorem dX5_begin_14 : decode cX5_begin 14 = .ok (.ifCond .ne 7, 3) := by decide +kernel
theorem dX5_begin_17 : decode cX5_begin 17 = .ok (.iconst 0, 1) := by decide +kernel
theorem dX5_begin_18 : decode cX5_begin 18 = .ok (.goto 4, 3) := by decide +kernel
theorem dX5_begin_21 : decode cX5_begin 21 = .ok (.iconst 1, 1) := by decide +kernel
theorem dX5_begin_22 : decode cX5_begin 22 = .ok (.putfield 26, 3) := by decide +kernel
theorem dX5_begin_25 : decode cX5_begin 25 = .ok (.aload_n 0, 1) := by decide +kernel
theorem dX5_begin_26 : decode cX5_begin 26 = .ok (.getfield 26, 3) := by decide +kernel
theorem dX5_begin_29 : decode cX5_begin 29 = .ok (.ifCond .le 4, 3) := by decide +kernel
theorem dX5_begin_32 : decode cX5_begin 32 = .ok (.return_, 1) := by decide +kernel
theorem dX5_begin_33 : decode cX5_begin 33 = .ok (.iconst 0, 1) := by decide +kernel
theorem dX5_begin_34 : decode cX5_begin 34 = .ok (.istore_n 1, 1) := by decide +kernel
theorem dX5_begin_35 : decode cX5_begin 35 = .ok (.iload_n 1, 1) := by decide +kernel
theorem dX5_begin_36 : decode cX5_begin 36 = .ok (.bipush 7, 2) := by decide +kernel
theorem dX5_begin_38 : decode cX5_begin 38 = .ok (.if_icmp .ge 16, 3) := by decide +kernel
theorem dX5_begin_41 : decode cX5_begin 41 = .ok (.aload_n 0, 1) := by decide +kernel
theorem dX5_begin_42 : decode cX5_begin 42 = .ok (.getfield 16, 3) := by decide +kernel
theorem dX5_begin_45 : decode cX5_begin 45 = .ok (.iload_n 1, 1) := by decide +kernel
theorem dX5_begin_46 : decode cX5_begin 46 = .ok (.iconst 0, 1) := by decide +kernel
theorem dX5_begin_47 : decode cX5_begin 47 = .ok (.bastore, 1) := by decide +kernel
theorem dX5_begin_48 : decode cX5_begin 48 = .ok (.iinc 1 1, 3) := by decide +kernel
theorem dX5_begin_51 : decode cX5_begin 51 = .ok (.goto (-16), 3) := by decide +kernel
theorem dX5_begin_54 : decode cX5_begin 54 = .ok (.aload_n 0, 1) := by decide +kernel
theorem dX5_begin_55 : decode cX5_begin 55 = .ok (.iconst 0, 1) := by decide +kernel
theorem dX5_begin_56 : decode cX5_begin 56 = .ok (.invokevirtual 121, 3) := by decide +kernel
theorem dX5_begin_59 : decode cX5_begin 59 = .ok (.return_, 1) := by decide +kernel
set_option maxRecDepth 20000 in
theorem ggX5_areSameKeys_X5_keysOf : GoodIn wsX5_areSameKeys wsX5_keysOf := goodIn_r _ [6, 1, 7, 8, 9, 10, 11, 12, 13, 14, 15, 16, 17, 18, 19, 20, 21, 22, 23, 24] (by decide +kernel) (by decide +kernel)
set_option maxRecDepth 20000 in
theorem gX5_areSameKeys_X5_keysOf : GoodIn wsX5_areSameKeys (wsV RX5 124 RX5 yX5_keysOf wsX5_keysOf) := goodIn_app (goodIn_of _ (by decide +kernel)) ggX5_areSameKeys_X5_keysOf
theorem dX5_areSameKeys_0 : decode cX5_areSameKeys 0 = .ok (.aload_n 0, 1) := by decide +kernel
theorem dX5_areSameKeys_1 : decode cX5_areSameKeys 1 = .ok (.iconst 0, 1) := by decide +kernel
theorem dX5_areSameKeys_2 : decode cX5_areSameKeys 2 = .ok (.iload_n 1, 1) := by decide +kernel
theorem dX5_areSameKeys_3 : decode cX5_areSameKeys 3 = .ok (.invokevirtual 124, 3) := by decide +kernel
theorem dX5_areSameKeys_6 : decode cX5_areSameKeys 6 = .ok (.istore_n 2, 1) := by decide +kernel
theorem dX5_areSameKeys_7 : decode cX5_areSameKeys 7 = .ok (.aload_n 0, 1) := by decide +kernel
theorem dX5_areSameKeys_8 : decode cX5_areSameKeys 8 = .ok (.bipush 7, 2) := by decide +kernel
theorem dX5_areSameKeys_10 : decode cX5_areSameKeys 10 = .ok (.iload_n 1, 1) := by decide +kernel
theorem dX5_areSameKeys_11 : decode cX5_areSameKeys 11 = .ok (.invokevirtual 124, 3) := by decide +kernel
theorem dX5_areSameKeys_14 : decode cX5_areSameKeys 14 = .ok (.istore_n 3, 1) := by decide +kernel
theorem dX5_areSameKeys_15 : decode cX5_areSameKeys 15 = .ok (.iconst 1, 1) := by decide +kernel
theorem dX5_areSameKeys_16 : decode cX5_areSameKeys 16 = .ok (.istore 4, 2) := by decide +kernel
theorem dX5_areSameKeys_18 : decode cX5_areSameKeys 18 = .ok (.iconst 0, 1) := by decide +kernel
theorem dX5_areSameKeys_19 : decode cX5_areSameKeys 19 = .ok (.istore 5, 2) := by decide +kernel
theorem dX5_areSameKeys_21 : decode cX5_areSameKeys 21 = .ok (.iload 5, 2) := by decide +kernel
theorem dX5_areSameKeys_23 : decode cX5_areSameKeys 23 = .ok (.iconst 2, 1) := by decide +kernel
theorem dX5_areSameKeys_24 : decode cX5_areSameKeys 24 = .ok (.aload_n 0, 1) := by decide +kernel
theorem dX5_areSameKeys_25 : decode cX5_areSameKeys 25 = .ok (.getfield 7, 3) := by decide +kernel
theorem dX5_areSameKeys_28 : decode cX5_areSameKeys 28 = .ok (.iload_n 2, 1) := by decide +kernel
theorem dX5_areSameKeys_29 : decode cX5_areSameKeys 29 = .ok (.iconst 1, 1) := by decide +kernel
theorem dX5_areSameKeys_30 : decode cX5_areSameKeys 30 = .ok (.iadd, 1) := by decide +kernel
theorem dX5_areSameKeys_31 : decode cX5_areSameKeys 31 = .ok (.iaload, 1) := by decide +kernel
theorem dX5_areSameKeys_32 : decode cX5_areSameKeys 32 = .ok (.iadd, 1) := by decide +kernel
theorem dX5_areSameKeys_33 : decode cX5_areSameKeys 33 = .ok (.if_icmp .ge 42, 3) := by decide +kernel
theorem dX5_areSameKeys_36 : decode cX5_areSameKeys 36 = .ok (.iload 4, 2) := by decide +kernel
theorem dX5_areSameKeys_38 : decode cX5_areSameKeys 38 = .ok (.ifCond .eq 28, 3) := by decide +kernel
theorem dX5_areSameKeys_41 : decode cX5_areSameKeys 41 = .ok (.aload_n 0, 1) := by decide +kernel
theorem dX5_areSameKeys_42 : decode cX5_areSameKeys 42 = .ok (.getfield 7, 3) := by decide +kernel
theorem dX5_areSameKeys_45 : decode cX5_areSameKeys 45 = .ok (.iload_n 2, 1) := by decide +kernel
theorem dX5_areSameKeys_46 : decode cX5_areSameKeys 46 = .ok (.iload 5, 2) := by decide +kernel
theorem dX5_areSameKeys_48 : decode cX5_areSameKeys 48 = .ok (.iadd, 1) := by decide +kernel
theorem dX5_areSameKeys_49 : decode cX5_areSameKeys 49 = .ok (.iaload, 1) := by decide +kernel
theorem dX5_areSameKeys_50 : decode cX5_areSameKeys 50 = .ok (.aload_n 0, 1) := by decide +kernel
theorem dX5_areSameKeys_51 : decode cX5_areSameKeys 51 = .ok (.getfield 7, 3) := by decide +kernel
theorem dX5_areSameKeys_54 : decode cX5_areSameKeys 54 = .ok (.iload_n 3, 1) := by decide +kernel
theorem dX5_areSameKeys_55 : decode cX5_areSameKeys 55 = .ok (.iload 5, 2) := by decide +kernel
theorem dX5_areSameKeys_57 : decode cX5_areSameKeys 57 = .ok (.iadd, 1) := by decide +kernel
theorem dX5_areSameKeys_58 : decode cX5_areSameKeys 58 = .ok (.iaload, 1) := by decide +kernel
theorem dX5_areSameKeys_59 : decode cX5_areSameKeys 59 = .ok (.if_icmp .ne 7, 3) := by decide +kernel
theorem dX5_areSameKeys_62 : decode cX5_areSameKeys 62 = .ok (.iconst 1, 1) := by decide +kernel
theorem dX5_areSameKeys_63 : decode cX5_areSameKeys 63 = .ok (.goto 4, 3) := by decide +kernel
theorem dX5_areSameKeys_66 : decode cX5_areSameKeys 66 = .ok (.iconst 0, 1) := by decide +kernel
theorem dX5_areSameKeys_67 : decode cX5_areSameKeys 67 = .ok (.istore 4, 2) := by decide +kernel
theorem dX5_areSameKeys_69 : decode cX5_areSameKeys 69 = .ok (.iinc 5 1, 3) := by decide +kernel
theorem dX5_areSameKeys_72 : decode cX5_areSameKeys 72 = .ok (.goto (-51), 3) := by decide +kernel
theorem dX5_areSameKeys_75 : decode cX5_areSameKeys 75 = .ok (.iload 4, 2) := by decide +kernel
theorem dX5_areSameKeys_77 : decode cX5_areSameKeys 77 = .ok (.ireturn, 1) := by decide +kernel
set_option maxRecDepth 20000 in
theorem ggX5_offerRoot_X5_keysOf : GoodIn wsX5_offerRoot wsX5_keysOf := goodIn_r _ [6, 7, 80, 81, 82, 83, 84, 85, 86, 87, 88, 89, 90, 91, 92, 93, 94, 95, 96, 97] (by decide +kernel) (by decide +kernel)
set_option maxRecDepth 20000 in
theorem gX5_offerRoot_X5_keysOf : GoodIn wsX5_offerRoot (wsV RX5 124 RX5 yX5_keysOf wsX5_keysOf) := goodIn_app (goodIn_of _ (by decide +kernel)) ggX5_offerRoot_X5_keysOf
set_option maxRecDepth 20000 in
theorem ggX5_offerRoot_X5_isSigned : GoodIn wsX5_offerRoot wsX5_isSigned := goodIn_r _ [11, 7, 12, 13, 14, 5, 15, 16, 17, 18, 19, 20, 21, 22, 23, 24, 25, 26, 27, 28, 29, 30, 31, 32, 33, 34, 35, 36, 37, 38, 39, 40, 41, 42, 43, 44, 45, 46, 47, 48, 49, 50, 51, 52, 53, 54, 55, 56, 57, 58, 59, 60, 61, 62, 63, 64, 65, 66, 67, 68, 69, 70, 71, 80, 81, 82, 83, 84, 85, 86, 87, 88, 89, 90, 91, 92, 93, 94, 95, 96, 97] (by decide +kernel) (by decide +kernel)
set_option maxRecDepth 20000 in
theorem gX5_offerRoot_X5_isSigned : GoodIn wsX5_offerRoot (wsV RX5 127 RX5 yX5_isSigned wsX5_isSigned) := goodIn_app (goodIn_of _ (by decide +kernel)) ggX5_offerRoot_X5_isSigned
set_option maxRecDepth 20000 in
theorem ggX5_offerRoot_X5_versionOf : GoodIn wsX5_offerRoot wsX5_versionOf := goodIn_r _ [75, 7, 80, 81, 82, 83, 84, 85, 86, 87, 88, 89, 90, 91, 92, 93, 94, 95, 96, 97] (by decide +kernel) (by decide +kernel)
set_option maxRecDepth 20000 in
theorem gX5_offerRoot_X5_versionOf : GoodIn wsX5_offerRoot (wsV RX5 130 RX5 yX5_versionOf wsX5_versionOf) := goodIn_app (goodIn_of _ (by decide +kernel)) ggX5_offerRoot_X5_versionOf
set_option maxRecDepth 20000 in
theorem ggX5_offerRoot_X5_areSameKeys : GoodIn wsX5_offerRoot wsX5_areSameKeys := goodIn_r _ [79, 7, 2, 3, 4, 5, 6, 80, 81, 82, 83, 84, 85, 86, 87, 88, 89, 90, 91, 92, 93, 94, 95, 96, 97] (by decide +kernel) (by decide +kernel)
set_option maxRecDepth 20000 in
theorem gX5_offerRoot_X5_areSameKeys : GoodIn wsX5_offerRoot (wsV RX5 133 RX5 yX5_areSameKeys wsX5_areSameKeys) := goodIn_app (goodIn_of _ (by decide +kernel)) ggX5_offerRoot_X5_areSameKeys
theorem dX5_offerRoot_0 : decode cX5_offerRoot 0 = .ok (.aload_n 0, 1) := by decide +kernel
theorem dX5_offerRoot_1 : decode cX5_offerRoot 1 = .ok (.getfield 16, 3) := by decide +kernel
theorem dX5_offerRoot_4 : decode cX5_offerRoot 4 = .ok (.iconst 0, 1) := by decide +kernel
theorem dX5_offerRoot_5 : decode cX5_offerRoot 5 = .ok (.baload, 1) := by decide +kernel
theorem dX5_offerRoot_6 : decode cX5_offerRoot 6 = .ok (.ifCond .ne 5, 3) := by decide +kernel
theorem dX5_offerRoot_9 : decode cX5_offerRoot 9 = .ok (.iconst 2, 1) := by decide +kernel
theorem dX5_offerRoot_10 : decode cX5_offerRoot 10 = .ok (.ireturn, 1) := by decide +kernel
theorem dX5_offerRoot_11 : decode cX5_offerRoot 11 = .ok (.aload_n 0, 1) := by decide +kernel
theorem dX5_offerRoot_12 : decode cX5_offerRoot 12 = .ok (.bipush 7, 2) := by decide +kernel
theorem dX5_offerRoot_14 : decode cX5_offerRoot 14 = .ok (.aload_n 0, 1) := by decide +kernel
theorem dX5_offerRoot_15 : decode cX5_offerRoot 15 = .ok (.iconst 0, 1) := by decide +kernel
theorem dX5_offerRoot_16 : decode cX5_offerRoot 16 = .ok (.iconst 0, 1) := by decide +kernel
theorem dX5_offerRoot_17 : decode cX5_offerRoot 17 = .ok (.invokevirtual 124, 3) := by decide +kernel
theorem dX5_offerRoot_20 : decode cX5_offerRoot 20 = .ok (.invokevirtual 127, 3) := by decide +kernel
theorem dX5_offerRoot_23 : decode cX5_offerRoot 23 = .ok (.ifCond .eq 19, 3) := by decide +kernel
theorem dX5_offerRoot_26 : decode cX5_offerRoot 26 = .ok (.aload_n 0, 1) := by decide +kernel
theorem dX5_offerRoot_27 : decode cX5_offerRoot 27 = .ok (.bipush 7, 2) := by decide +kernel
theorem dX5_offerRoot_29 : decode cX5_offerRoot 29 = .ok (.aload_n 0, 1) := by decide +kernel
theorem dX5_offerRoot_30 : decode cX5_offerRoot 30 = .ok (.bipush 7, 2) := by decide +kernel
theorem dX5_offerRoot_32 : decode cX5_offerRoot 32 = .ok (.iconst 0, 1) := by decide +kernel
theorem dX5_offerRoot_33 : decode cX5_offerRoot 33 = .ok (.invokevirtual 124, 3) := by decide +kernel
theorem dX5_offerRoot_36 : decode cX5_offerRoot 36 = .ok (.invokevirtual 127, 3) := by decide +kernel
theorem dX5_offerRoot_39 : decode cX5_offerRoot 39 = .ok (.ifCond .ne 5, 3) := by decide +kernel
theorem dX5_offerRoot_42 : decode cX5_offerRoot 42 = .ok (.iconst 3, 1) := by decide +kernel
theorem dX5_offerRoot_43 : decode cX5_offerRoot 43 = .ok (.ireturn, 1) := by decide +kernel
theorem dX5_offerRoot_44 : decode cX5_offerRoot 44 = .ok (.aload_n 0, 1) := by decide +kernel
theorem dX5_offerRoot_45 : decode cX5_offerRoot 45 = .ok (.bipush 7, 2) := by decide +kernel
theorem dX5_offerRoot_47 : decode cX5_offerRoot 47 = .ok (.invokevirtual 130, 3) := by decide +kernel
theorem dX5_offerRoot_50 : decode cX5_offerRoot 50 = .ok (.aload_n 0, 1) := by decide +kernel
theorem dX5_offerRoot_51 : decode cX5_offerRoot 51 = .ok (.iconst 0, 1) := by decide +kernel
theorem dX5_offerRoot_52 : decode cX5_offerRoot 52 = .ok (.invokevirtual 130, 3) := by decide +kernel
theorem dX5_offerRoot_55 : decode cX5_offerRoot 55 = .ok (.iconst 1, 1) := by decide +kernel
theorem dX5_offerRoot_56 : decode cX5_offerRoot 56 = .ok (.iadd, 1) := by decide +kernel
theorem dX5_offerRoot_57 : decode cX5_offerRoot 57 = .ok (.if_icmp .eq 5, 3) := by decide +kernel
theorem dX5_offerRoot_60 : decode cX5_offerRoot 60 = .ok (.iconst 4, 1) := by decide +kernel
theorem dX5_offerRoot_61 : decode cX5_offerRoot 61 = .ok (.ireturn, 1) := by decide +kernel
theorem dX5_offerRoot_62 : decode cX5_offerRoot 62 = .ok (.aload_n 0, 1) := by decide +kernel
theorem dX5_offerRoot_63 : decode cX5_offerRoot 63 = .ok (.iconst 1, 1) := by decide +kernel
theorem dX5_offerRoot_64 : decode cX5_offerRoot 64 = .ok (.invokevirtual 133, 3) := by decide +kernel
theorem dX5_offerRoot_67 : decode cX5_offerRoot 67 = .ok (.ifCond .eq 11, 3) := by decide +kernel
theorem dX5_offerRoot_70 : decode cX5_offerRoot 70 = .ok (.aload_n 0, 1) := by decide +kernel
theorem dX5_offerRoot_71 : decode cX5_offerRoot 71 = .ok (.iconst 2, 1) := by decide +kernel
theorem dX5_offerRoot_72 : decode cX5_offerRoot 72 = .ok (.invokevirtual 133, 3) := by decide +kernel
theorem dX5_offerRoot_75 : decode cX5_offerRoot 75 = .ok (.ifCond .ne 17, 3) := by decide +kernel
theorem dX5_offerRoot_78 : decode cX5_offerRoot 78 = .ok (.aload_n 0, 1) := by decide +kernel
theorem dX5_offerRoot_79 : decode cX5_offerRoot 79 = .ok (.getfield 16, 3) := by decide +kernel
theorem dX5_offerRoot_82 : decode cX5_offerRoot 82 = .ok (.iconst 1, 1) := by decide +kernel
theorem dX5_offerRoot_83 : decode cX5_offerRoot 83 = .ok (.iconst 0, 1) := by decide +kernel
theorem dX5_offerRoot_84 : decode cX5_offerRoot 84 = .ok (.bastore, 1) := by decide +kernel
theorem dX5_offerRoot_85 : decode cX5_offerRoot 85 = .ok (.aload_n 0, 1) := by decide +kernel
theorem dX5_offerRoot_86 : decode cX5_offerRoot 86 = .ok (.getfield 16, 3) := by decide +kernel
theorem dX5_offerRoot_89 : decode cX5_offerRoot 89 = .ok (.iconst 2, 1) := by decide +kernel
theorem dX5_offerRoot_90 : decode cX5_offerRoot 90 = .ok (.iconst 0, 1) := by decide +kernel
theorem dX5_offerRoot_91 : decode cX5_offerRoot 91 = .ok (.bastore, 1) := by decide +kernel
theorem dX5_offerRoot_92 : decode cX5_offerRoot 92 = .ok (.iconst 0, 1) := by decide +kernel
theorem dX5_offerRoot_93 : decode cX5_offerRoot 93 = .ok (.ireturn, 1) := by decide +kernel
set_option maxRecDepth 20000 in
theorem ggX5_offerStamp_X5_stands : GoodIn wsX5_offerStamp wsX5_stands := goodIn_r _ [7, 1, 8, 9, 10, 6, 11, 12, 13, 14, 15, 16, 2, 89, 90, 91, 92, 93, 94, 95, 96, 97, 98, 99, 100, 101, 102, 103, 104, 105, 106] (by decide +kernel) (by decide +kernel)
set_option maxRecDepth 20000 in
theorem gX5_offerStamp_X5_stands : GoodIn wsX5_offerStamp (wsV RX5 136 RX5 yX5_stands wsX5_stands) := goodIn_app (goodIn_of _ (by decide +kernel)) ggX5_offerStamp_X5_stands
set_option maxRecDepth 20000 in
theorem ggX5_offerStamp_X5_keysOf : GoodIn wsX5_offerStamp wsX5_keysOf := goodIn_r _ [20, 2, 89, 90, 91, 92, 93, 94, 95, 96, 97, 98, 99, 100, 101, 102, 103, 104, 105, 106] (by decide +kernel) (by decide +kernel)
set_option maxRecDepth 20000 in
theorem gX5_offerStamp_X5_keysOf : GoodIn wsX5_offerStamp (wsV RX5 124 RX5 yX5_keysOf wsX5_keysOf) := goodIn_app (goodIn_of _ (by decide +kernel)) ggX5_offerStamp_X5_keysOf
set_option maxRecDepth 20000 in
theorem ggX5_offerStamp_X5_isSigned : GoodIn wsX5_offerStamp wsX5_isSigned := goodIn_r _ [24, 2, 25, 26, 27, 6, 28, 29, 30, 31, 32, 33, 34, 35, 36, 37, 38, 39, 40, 41, 42, 43, 44, 45, 46, 47, 48, 49, 50, 51, 52, 53, 54, 55, 56, 57, 58, 59, 60, 61, 62, 63, 64, 65, 66, 67, 68, 69, 70, 71, 72, 73, 74, 75, 76, 77, 78, 79, 80, 81, 82, 83, 84, 89, 90, 91, 92, 93, 94, 95, 96, 97, 98, 99, 100, 101, 102, 103, 104, 105, 106] (by decide +kernel) (by decide +kernel)
set_option maxRecDepth 20000 in
theorem gX5_offerStamp_X5_isSigned : GoodIn wsX5_offerStamp (wsV RX5 127 RX5 yX5_isSigned wsX5_isSigned) := goodIn_app (goodIn_of _ (by decide +kernel)) ggX5_offerStamp_X5_isSigned
set_option maxRecDepth 20000 in
theorem ggX5_offerStamp_X5_versionOf : GoodIn wsX5_offerStamp wsX5_versionOf := goodIn_r _ [88, 2, 89, 90, 91, 92, 93, 94, 95, 96, 97, 98, 99, 100, 101, 102, 103, 104, 105, 106] (by decide +kernel) (by decide +kernel)
set_option maxRecDepth 20000 in
theorem gX5_offerStamp_X5_versionOf : GoodIn wsX5_offerStamp (wsV RX5 130 RX5 yX5_versionOf wsX5_versionOf) := goodIn_app (goodIn_of _ (by decide +kernel)) ggX5_offerStamp_X5_versionOf
set_option maxRecDepth 20000 in
theorem ggX5_offerStamp_X5_isOver : GoodIn wsX5_offerStamp wsX5_isOver := goodIn_r _ [11, 12, 13, 14, 15, 6, 16, 2, 89, 90, 91, 92, 93, 94, 95, 96, 97, 98, 99, 100, 101, 102, 103, 104, 105, 106] (by decide +kernel) (by decide +kernel)
set_option maxRecDepth 20000 in
theorem gX5_offerStamp_X5_isOver : GoodIn wsX5_offerStamp (wsV RX5 109 RX5 yX5_isOver wsX5_isOver) := goodIn_app (goodIn_of _ (by decide +kernel)) ggX5_offerStamp_X5_isOver
theorem dX5_offerStamp_0 : decode cX5_offerStamp 0 = .ok (.aload_n 0, 1) := by decide +kernel
theorem dX5_offerStamp_1 : decode cX5_offerStamp 1 = .ok (.iconst 0, 1) := by decide +kernel
theorem dX5_offerStamp_2 : decode cX5_offerStamp 2 = .ok (.invokevirtual 136, 3) := by decide +kernel
theorem dX5_offerStamp_5 : decode cX5_offerStamp 5 = .ok (.ifCond .ne 5, 3) := by decide +kernel
theorem dX5_offerStamp_8 : decode cX5_offerStamp 8 = .ok (.iconst 2, 1) := by decide +kernel
theorem dX5_offerStamp_9 : decode cX5_offerStamp 9 = .ok (.ireturn, 1) := by decide +kernel
theorem dX5_offerStamp_10 : decode cX5_offerStamp 10 = .ok (.aload_n 0, 1) := by decide +kernel
theorem dX5_offerStamp_11 : decode cX5_offerStamp 11 = .ok (.bipush 7, 2) := by decide +kernel
theorem dX5_offerStamp_13 : decode cX5_offerStamp 13 = .ok (.aload_n 0, 1) := by decide +kernel
theorem dX5_offerStamp_14 : decode cX5_offerStamp 14 = .ok (.iconst 0, 1) := by decide +kernel
theorem dX5_offerStamp_15 : decode cX5_offerStamp 15 = .ok (.iconst 1, 1) := by decide +kernel
theorem dX5_offerStamp_16 : decode cX5_offerStamp 16 = .ok (.invokevirtual 124, 3) := by decide +kernel
theorem dX5_offerStamp_19 : decode cX5_offerStamp 19 = .ok (.invokevirtual 127, 3) := by decide +kernel
theorem dX5_offerStamp_22 : decode cX5_offerStamp 22 = .ok (.ifCond .ne 5, 3) := by decide +kernel
theorem dX5_offerStamp_25 : decode cX5_offerStamp 25 = .ok (.iconst 3, 1) := by decide +kernel
theorem dX5_offerStamp_26 : decode cX5_offerStamp 26 = .ok (.ireturn, 1) := by decide +kernel
theorem dX5_offerStamp_27 : decode cX5_offerStamp 27 = .ok (.aload_n 0, 1) := by decide +kernel
theorem dX5_offerStamp_28 : decode cX5_offerStamp 28 = .ok (.getfield 16, 3) := by decide +kernel
theorem dX5_offerStamp_31 : decode cX5_offerStamp 31 = .ok (.iconst 1, 1) := by decide +kernel
theorem dX5_offerStamp_32 : decode cX5_offerStamp 32 = .ok (.baload, 1) := by decide +kernel
theorem dX5_offerStamp_33 : decode cX5_offerStamp 33 = .ok (.ifCond .eq 39, 3) := by decide +kernel
theorem dX5_offerStamp_36 : decode cX5_offerStamp 36 = .ok (.aload_n 0, 1) := by decide +kernel
theorem dX5_offerStamp_37 : decode cX5_offerStamp 37 = .ok (.bipush 7, 2) := by decide +kernel
theorem dX5_offerStamp_39 : decode cX5_offerStamp 39 = .ok (.invokevirtual 130, 3) := by decide +kernel
theorem dX5_offerStamp_42 : decode cX5_offerStamp 42 = .ok (.aload_n 0, 1) := by decide +kernel
theorem dX5_offerStamp_43 : decode cX5_offerStamp 43 = .ok (.iconst 1, 1) := by decide +kernel
theorem dX5_offerStamp_44 : decode cX5_offerStamp 44 = .ok (.invokevirtual 130, 3) := by decide +kernel
theorem dX5_offerStamp_47 : decode cX5_offerStamp 47 = .ok (.if_icmp .lt 21, 3) := by decide +kernel
theorem dX5_offerStamp_50 : decode cX5_offerStamp 50 = .ok (.aload_n 0, 1) := by decide +kernel
theorem dX5_offerStamp_51 : decode cX5_offerStamp 51 = .ok (.getfield 7, 3) := by decide +kernel
theorem dX5_offerStamp_54 : decode cX5_offerStamp 54 = .ok (.sipush 844, 3) := by decide +kernel
theorem dX5_offerStamp_57 : decode cX5_offerStamp 57 = .ok (.iaload, 1) := by decide +kernel
theorem dX5_offerStamp_58 : decode cX5_offerStamp 58 = .ok (.aload_n 0, 1) := by decide +kernel
theorem dX5_offerStamp_59 : decode cX5_offerStamp 59 = .ok (.getfield 7, 3) := by decide +kernel
theorem dX5_offerStamp_62 : decode cX5_offerStamp 62 = .ok (.bipush 124, 2) := by decide +kernel
theorem dX5_offerStamp_64 : decode cX5_offerStamp 64 = .ok (.iaload, 1) := by decide +kernel
theorem dX5_offerStamp_65 : decode cX5_offerStamp 65 = .ok (.if_icmp .ge 7, 3) := by decide +kernel
theorem dX5_offerStamp_68 : decode cX5_offerStamp 68 = .ok (.iconst 1, 1) := by decide +kernel
theorem dX5_offerStamp_69 : decode cX5_offerStamp 69 = .ok (.goto 4, 3) := by decide +kernel
theorem dX5_offerStamp_72 : decode cX5_offerStamp 72 = .ok (.iconst 0, 1) := by decide +kernel
theorem dX5_offerStamp_73 : decode cX5_offerStamp 73 = .ok (.istore_n 1, 1) := by decide +kernel
theorem dX5_offerStamp_74 : decode cX5_offerStamp 74 = .ok (.iload_n 1, 1) := by decide +kernel
theorem dX5_offerStamp_75 : decode cX5_offerStamp 75 = .ok (.ifCond .eq 7, 3) := by decide +kernel
theorem dX5_offerStamp_78 : decode cX5_offerStamp 78 = .ok (.iconst 4, 1) := by decide +kernel
theorem dX5_offerStamp_79 : decode cX5_offerStamp 79 = .ok (.goto 17, 3) := by decide +kernel
theorem dX5_offerStamp_82 : decode cX5_offerStamp 82 = .ok (.aload_n 0, 1) := by decide +kernel
theorem dX5_offerStamp_83 : decode cX5_offerStamp 83 = .ok (.bipush 7, 2) := by decide +kernel
theorem dX5_offerStamp_85 : decode cX5_offerStamp 85 = .ok (.invokevirtual 109, 3) := by decide +kernel
theorem dX5_offerStamp_88 : decode cX5_offerStamp 88 = .ok (.ifCond .eq 7, 3) := by decide +kernel
theorem dX5_offerStamp_91 : decode cX5_offerStamp 91 = .ok (.iconst 5, 1) := by decide +kernel
theorem dX5_offerStamp_92 : decode cX5_offerStamp 92 = .ok (.goto 4, 3) := by decide +kernel
theorem dX5_offerStamp_95 : decode cX5_offerStamp 95 = .ok (.iconst 0, 1) := by decide +kernel
theorem dX5_offerStamp_96 : decode cX5_offerStamp 96 = .ok (.ireturn, 1) := by decide +kernel
set_option maxRecDepth 20000 in
theorem ggX5_offerSnapshot_X5_stands : GoodIn wsX5_offerSnapshot wsX5_stands := goodIn_r _ [8, 3, 9, 10, 11, 7, 12, 13, 14, 15, 16, 17, 1, 93, 94, 95, 96, 97, 98, 99, 100, 101, 102, 103, 104, 105, 106, 107, 108, 109, 110] (by decide +kernel) (by decide +kernel)
set_option maxRecDepth 20000 in
theorem gX5_offerSnapshot_X5_stands : GoodIn wsX5_offerSnapshot (wsV RX5 136 RX5 yX5_stands wsX5_stands) := goodIn_app (goodIn_of _ (by decide +kernel)) ggX5_offerSnapshot_X5_stands
set_option maxRecDepth 20000 in
theorem ggX5_offerSnapshot_X5_keysOf : GoodIn wsX5_offerSnapshot wsX5_keysOf := goodIn_r _ [21, 1, 93, 94, 95, 96, 97, 98, 99, 100, 101, 102, 103, 104, 105, 106, 107, 108, 109, 110] (by decide +kernel) (by decide +kernel)
set_option maxRecDepth 20000 in
theorem gX5_offerSnapshot_X5_keysOf : GoodIn wsX5_offerSnapshot (wsV RX5 124 RX5 yX5_keysOf wsX5_keysOf) := goodIn_app (goodIn_of _ (by decide +kernel)) ggX5_offerSnapshot_X5_keysOf
set_option maxRecDepth 20000 in
theorem ggX5_offerSnapshot_X5_isSigned : GoodIn wsX5_offerSnapshot wsX5_isSigned := goodIn_r _ [25, 1, 26, 27, 28, 7, 29, 30, 31, 32, 33, 34, 35, 36, 2, 37, 38, 39, 40, 41, 42, 43, 44, 45, 46, 47, 48, 49, 50, 51, 52, 53, 54, 55, 56, 57, 58, 59, 60, 61, 62, 63, 64, 65, 66, 67, 68, 69, 70, 71, 72, 73, 74, 75, 76, 77, 78, 79, 80, 81, 82, 83, 84, 93, 94, 95, 96, 97, 98, 99, 100, 101, 102, 103, 104, 105, 106, 107, 108, 109, 110] (by decide +kernel) (by decide +kernel)
set_option maxRecDepth 20000 in
theorem gX5_offerSnapshot_X5_isSigned : GoodIn wsX5_offerSnapshot (wsV RX5 127 RX5 yX5_isSigned wsX5_isSigned) := goodIn_app (goodIn_of _ (by decide +kernel)) ggX5_offerSnapshot_X5_isSigned
set_option maxRecDepth 20000 in
theorem ggX5_offerSnapshot_X5_versionOf : GoodIn wsX5_offerSnapshot wsX5_versionOf := goodIn_r _ [88, 1, 93, 94, 95, 96, 97, 98, 99, 100, 101, 102, 103, 104, 105, 106, 107, 108, 109, 110] (by decide +kernel) (by decide +kernel)
set_option maxRecDepth 20000 in
theorem gX5_offerSnapshot_X5_versionOf : GoodIn wsX5_offerSnapshot (wsV RX5 130 RX5 yX5_versionOf wsX5_versionOf) := goodIn_app (goodIn_of _ (by decide +kernel)) ggX5_offerSnapshot_X5_versionOf
set_option maxRecDepth 20000 in
theorem ggX5_offerSnapshot_X5_mixOf : GoodIn wsX5_offerSnapshot wsX5_mixOf := goodIn_r _ [78, 79, 1, 80, 93, 94, 95, 96, 97, 98, 99, 100, 101, 102, 103, 104, 105, 106, 107, 108, 109, 110] (by decide +kernel) (by decide +kernel)
set_option maxRecDepth 20000 in
theorem gX5_offerSnapshot_X5_mixOf : GoodIn wsX5_offerSnapshot (wsV RX5 38 RX5 yX5_mixOf wsX5_mixOf) := goodIn_app (goodIn_of _ (by decide +kernel)) ggX5_offerSnapshot_X5_mixOf
set_option maxRecDepth 20000 in
theorem ggX5_offerSnapshot_X5_four : GoodIn wsX5_offerSnapshot wsX5_four := goodIn_r _ [84, 1, 93, 94, 95, 96, 97, 98, 99, 100, 101, 102, 103, 104, 105, 106, 107, 108, 109, 110] (by decide +kernel) (by decide +kernel)
set_option maxRecDepth 20000 in
theorem gX5_offerSnapshot_X5_four : GoodIn wsX5_offerSnapshot (wsV RX5 93 RX5 yX5_four wsX5_four) := goodIn_app (goodIn_of _ (by decide +kernel)) ggX5_offerSnapshot_X5_four
set_option maxRecDepth 20000 in
theorem ggX5_offerSnapshot_X5_said : GoodIn wsX5_offerSnapshot wsX5_said := goodIn_r _ [92, 1, 93, 94, 95, 96, 97, 98, 99, 100, 101, 102, 103, 104, 105, 106, 107, 108, 109, 110] (by decide +kernel) (by decide +kernel)
set_option maxRecDepth 20000 in
theorem gX5_offerSnapshot_X5_said : GoodIn wsX5_offerSnapshot (wsV RX5 139 RX5 yX5_said wsX5_said) := goodIn_app (goodIn_of _ (by decide +kernel)) ggX5_offerSnapshot_X5_said
set_option maxRecDepth 20000 in
theorem ggX5_offerSnapshot_X5_isOver : GoodIn wsX5_offerSnapshot wsX5_isOver := goodIn_r _ [12, 13, 14, 15, 16, 7, 17, 1, 93, 94, 95, 96, 97, 98, 99, 100, 101, 102, 103, 104, 105, 106, 107, 108, 109, 110] (by decide +kernel) (by decide +kernel)
set_option maxRecDepth 20000 in
theorem gX5_offerSnapshot_X5_isOver : GoodIn wsX5_offerSnapshot (wsV RX5 109 RX5 yX5_isOver wsX5_isOver) := goodIn_app (goodIn_of _ (by decide +kernel)) ggX5_offerSnapshot_X5_isOver
theorem dX5_offerSnapshot_0 : decode cX5_offerSnapshot 0 = .ok (.aload_n 0, 1) := by decide +kernel
theorem dX5_offerSnapshot_1 : decode cX5_offerSnapshot 1 = .ok (.iconst 0, 1) := by decide +kernel
theorem dX5_offerSnapshot_2 : decode cX5_offerSnapshot 2 = .ok (.invokevirtual 136, 3) := by decide +kernel
theorem dX5_offerSnapshot_5 : decode cX5_offerSnapshot 5 = .ok (.ifCond .eq 11, 3) := by decide +kernel
theorem dX5_offerSnapshot_8 : decode cX5_offerSnapshot 8 = .ok (.aload_n 0, 1) := by decide +kernel
theorem dX5_offerSnapshot_9 : decode cX5_offerSnapshot 9 = .ok (.iconst 1, 1) := by decide +kernel
theorem dX5_offerSnapshot_10 : decode cX5_offerSnapshot 10 = .ok (.invokevirtual 136, 3) := by decide +kernel
theorem dX5_offerSnapshot_13 : decode cX5_offerSnapshot 13 = .ok (.ifCond .ne 5, 3) := by decide +kernel
theorem dX5_offerSnapshot_16 : decode cX5_offerSnapshot 16 = .ok (.iconst 2, 1) := by decide +kernel
theorem dX5_offerSnapshot_17 : decode cX5_offerSnapshot 17 = .ok (.ireturn, 1) := by decide +kernel
theorem dX5_offerSnapshot_18 : decode cX5_offerSnapshot 18 = .ok (.aload_n 0, 1) := by decide +kernel
theorem dX5_offerSnapshot_19 : decode cX5_offerSnapshot 19 = .ok (.bipush 7, 2) := by decide +kernel
theorem dX5_offerSnapshot_21 : decode cX5_offerSnapshot 21 = .ok (.aload_n 0, 1) := by decide +kernel
theorem dX5_offerSnapshot_22 : decode cX5_offerSnapshot 22 = .ok (.iconst 0, 1) := by decide +kernel
theorem dX5_offerSnapshot_23 : decode cX5_offerSnapshot 23 = .ok (.iconst 2, 1) := by decide +kernel
theorem dX5_offerSnapshot_24 : decode cX5_offerSnapshot 24 = .ok (.invokevirtual 124, 3) := by decide +kernel
theorem dX5_offerSnapshot_27 : decode cX5_offerSnapshot 27 = .ok (.invokevirtual 127, 3) := by decide +kernel
theorem dX5_offerSnapshot_30 : decode cX5_offerSnapshot 30 = .ok (.ifCond .ne 5, 3) := by decide +kernel
theorem dX5_offerSnapshot_33 : decode cX5_offerSnapshot 33 = .ok (.iconst 3, 1) := by decide +kernel
theorem dX5_offerSnapshot_34 : decode cX5_offerSnapshot 34 = .ok (.ireturn, 1) := by decide +kernel
theorem dX5_offerSnapshot_35 : decode cX5_offerSnapshot 35 = .ok (.aload_n 0, 1) := by decide +kernel
theorem dX5_offerSnapshot_36 : decode cX5_offerSnapshot 36 = .ok (.bipush 7, 2) := by decide +kernel
theorem dX5_offerSnapshot_38 : decode cX5_offerSnapshot 38 = .ok (.invokevirtual 130, 3) := by decide +kernel
theorem dX5_offerSnapshot_41 : decode cX5_offerSnapshot 41 = .ok (.aload_n 0, 1) := by decide +kernel
theorem dX5_offerSnapshot_42 : decode cX5_offerSnapshot 42 = .ok (.getfield 7, 3) := by decide +kernel
theorem dX5_offerSnapshot_45 : decode cX5_offerSnapshot 45 = .ok (.bipush 124, 2) := by decide +kernel
theorem dX5_offerSnapshot_47 : decode cX5_offerSnapshot 47 = .ok (.iaload, 1) := by decide +kernel
theorem dX5_offerSnapshot_48 : decode cX5_offerSnapshot 48 = .ok (.if_icmp .ne 27, 3) := by decide +kernel
theorem dX5_offerSnapshot_51 : decode cX5_offerSnapshot 51 = .ok (.aload_n 0, 1) := by decide +kernel
theorem dX5_offerSnapshot_52 : decode cX5_offerSnapshot 52 = .ok (.sipush 840, 3) := by decide +kernel
theorem dX5_offerSnapshot_55 : decode cX5_offerSnapshot 55 = .ok (.aload_n 0, 1) := by decide +kernel
theorem dX5_offerSnapshot_56 : decode cX5_offerSnapshot 56 = .ok (.getfield 13, 3) := by decide +kernel
theorem dX5_offerSnapshot_59 : decode cX5_offerSnapshot 59 = .ok (.bipush 7, 2) := by decide +kernel
theorem dX5_offerSnapshot_61 : decode cX5_offerSnapshot 61 = .ok (.iaload, 1) := by decide +kernel
theorem dX5_offerSnapshot_62 : decode cX5_offerSnapshot 62 = .ok (.iconst 0, 1) := by decide +kernel
theorem dX5_offerSnapshot_63 : decode cX5_offerSnapshot 63 = .ok (.invokevirtual 38, 3) := by decide +kernel
theorem dX5_offerSnapshot_66 : decode cX5_offerSnapshot 66 = .ok (.aload_n 0, 1) := by decide +kernel
theorem dX5_offerSnapshot_67 : decode cX5_offerSnapshot 67 = .ok (.bipush 125, 2) := by decide +kernel
theorem dX5_offerSnapshot_69 : decode cX5_offerSnapshot 69 = .ok (.invokevirtual 93, 3) := by decide +kernel
theorem dX5_offerSnapshot_72 : decode cX5_offerSnapshot 72 = .ok (.if_icmp .eq 5, 3) := by decide +kernel
theorem dX5_offerSnapshot_75 : decode cX5_offerSnapshot 75 = .ok (.iconst 4, 1) := by decide +kernel
theorem dX5_offerSnapshot_76 : decode cX5_offerSnapshot 76 = .ok (.ireturn, 1) := by decide +kernel
theorem dX5_offerSnapshot_77 : decode cX5_offerSnapshot 77 = .ok (.iconst 3, 1) := by decide +kernel
theorem dX5_offerSnapshot_78 : decode cX5_offerSnapshot 78 = .ok (.istore_n 1, 1) := by decide +kernel
theorem dX5_offerSnapshot_79 : decode cX5_offerSnapshot 79 = .ok (.iload_n 1, 1) := by decide +kernel
theorem dX5_offerSnapshot_80 : decode cX5_offerSnapshot 80 = .ok (.bipush 7, 2) := by decide +kernel
theorem dX5_offerSnapshot_82 : decode cX5_offerSnapshot 82 = .ok (.if_icmp .ge 36, 3) := by decide +kernel
theorem dX5_offerSnapshot_85 : decode cX5_offerSnapshot 85 = .ok (.aload_n 0, 1) := by decide +kernel
theorem dX5_offerSnapshot_86 : decode cX5_offerSnapshot 86 = .ok (.getfield 16, 3) := by decide +kernel
theorem dX5_offerSnapshot_89 : decode cX5_offerSnapshot 89 = .ok (.iconst 2, 1) := by decide +kernel
theorem dX5_offerSnapshot_90 : decode cX5_offerSnapshot 90 = .ok (.baload, 1) := by decide +kernel
theorem dX5_offerSnapshot_91 : decode cX5_offerSnapshot 91 = .ok (.ifCond .eq 27, 3) := by decide +kernel
theorem dX5_offerSnapshot_94 : decode cX5_offerSnapshot 94 = .ok (.aload_n 0, 1) := by decide +kernel
theorem dX5_offerSnapshot_95 : decode cX5_offerSnapshot 95 = .ok (.bipush 7, 2) := by decide +kernel
theorem dX5_offerSnapshot_97 : decode cX5_offerSnapshot 97 = .ok (.iload_n 1, 1) := by decide +kernel
theorem dX5_offerSnapshot_98 : decode cX5_offerSnapshot 98 = .ok (.invokevirtual 139, 3) := by decide +kernel
theorem dX5_offerSnapshot_101 : decode cX5_offerSnapshot 101 = .ok (.aload_n 0, 1) := by decide +kernel
theorem dX5_offerSnapshot_102 : decode cX5_offerSnapshot 102 = .ok (.iconst 2, 1) := by decide +kernel
theorem dX5_offerSnapshot_103 : decode cX5_offerSnapshot 103 = .ok (.iload_n 1, 1) := by decide +kernel
theorem dX5_offerSnapshot_104 : decode cX5_offerSnapshot 104 = .ok (.invokevirtual 139, 3) := by decide +kernel
theorem dX5_offerSnapshot_107 : decode cX5_offerSnapshot 107 = .ok (.if_icmp .ge 5, 3) := by decide +kernel
theorem dX5_offerSnapshot_110 : decode cX5_offerSnapshot 110 = .ok (.iconst 4, 1) := by decide +kernel
theorem dX5_offerSnapshot_111 : decode cX5_offerSnapshot 111 = .ok (.ireturn, 1) := by decide +kernel
theorem dX5_offerSnapshot_112 : decode cX5_offerSnapshot 112 = .ok (.iinc 1 1, 3) := by decide +kernel
theorem dX5_offerSnapshot_115 : decode cX5_offerSnapshot 115 = .ok (.goto (-36), 3) := by decide +kernel
theorem dX5_offerSnapshot_118 : decode cX5_offerSnapshot 118 = .ok (.aload_n 0, 1) := by decide +kernel
theorem dX5_offerSnapshot_119 : decode cX5_offerSnapshot 119 = .ok (.bipush 7, 2) := by decide +kernel
theorem dX5_offerSnapshot_121 : decode cX5_offerSnapshot 121 = .ok (.invokevirtual 109, 3) := by decide +kernel
theorem dX5_offerSnapshot_124 : decode cX5_offerSnapshot 124 = .ok (.ifCond .eq 7, 3) := by decide +kernel
theorem dX5_offerSnapshot_127 : decode cX5_offerSnapshot 127 = .ok (.iconst 5, 1) := by decide +kernel
theorem dX5_offerSnapshot_128 : decode cX5_offerSnapshot 128 = .ok (.goto 4, 3) := by decide +kernel
theorem dX5_offerSnapshot_131 : decode cX5_offerSnapshot 131 = .ok (.iconst 0, 1) := by decide +kernel
theorem dX5_offerSnapshot_132 : decode cX5_offerSnapshot 132 = .ok (.ireturn, 1) := by decide +kernel
set_option maxRecDepth 20000 in
theorem ggX5_offerTargets_X5_stands : GoodIn wsX5_offerTargets wsX5_stands := goodIn_r _ [5, 6, 7, 8, 9, 4, 10, 11, 12, 13, 14, 15, 16, 93, 94, 95, 96, 97, 98, 99, 100, 101, 102, 103, 104, 105, 106, 107, 108, 109, 110] (by decide +kernel) (by decide +kernel)
set_option maxRecDepth 20000 in
theorem gX5_offerTargets_X5_stands : GoodIn wsX5_offerTargets (wsV RX5 136 RX5 yX5_stands wsX5_stands) := goodIn_app (goodIn_of _ (by decide +kernel)) ggX5_offerTargets_X5_stands
set_option maxRecDepth 20000 in
theorem ggX5_offerTargets_X5_said : GoodIn wsX5_offerTargets wsX5_said := goodIn_r _ [20, 16, 93, 94, 95, 96, 97, 98, 99, 100, 101, 102, 103, 104, 105, 106, 107, 108, 109, 110] (by decide +kernel) (by decide +kernel)
set_option maxRecDepth 20000 in
theorem gX5_offerTargets_X5_said : GoodIn wsX5_offerTargets (wsV RX5 139 RX5 yX5_said wsX5_said) := goodIn_app (goodIn_of _ (by decide +kernel)) ggX5_offerTargets_X5_said
set_option maxRecDepth 20000 in
theorem ggX5_offerTargets_X5_keysOf : GoodIn wsX5_offerTargets wsX5_keysOf := goodIn_r _ [24, 16, 93, 94, 95, 96, 97, 98, 99, 100, 101, 102, 103, 104, 105, 106, 107, 108, 109, 110] (by decide +kernel) (by decide +kernel)
set_option maxRecDepth 20000 in
theorem gX5_offerTargets_X5_keysOf : GoodIn wsX5_offerTargets (wsV RX5 124 RX5 yX5_keysOf wsX5_keysOf) := goodIn_app (goodIn_of _ (by decide +kernel)) ggX5_offerTargets_X5_keysOf
set_option maxRecDepth 20000 in
theorem ggX5_offerTargets_X5_isSigned : GoodIn wsX5_offerTargets wsX5_isSigned := goodIn_r _ [28, 16, 29, 30, 31, 4, 32, 33, 34, 35, 36, 37, 38, 39, 40, 41, 42, 43, 44, 45, 46, 47, 48, 49, 50, 51, 52, 53, 54, 55, 56, 57, 58, 59, 60, 61, 62, 63, 64, 65, 66, 67, 68, 69, 70, 71, 72, 73, 74, 75, 76, 77, 78, 79, 80, 81, 82, 83, 84, 85, 86, 87, 88, 93, 94, 95, 96, 97, 98, 99, 100, 101, 102, 103, 104, 105, 106, 107, 108, 109, 110] (by decide +kernel) (by decide +kernel)
set_option maxRecDepth 20000 in
theorem gX5_offerTargets_X5_isSigned : GoodIn wsX5_offerTargets (wsV RX5 127 RX5 yX5_isSigned wsX5_isSigned) := goodIn_app (goodIn_of _ (by decide +kernel)) ggX5_offerTargets_X5_isSigned
set_option maxRecDepth 20000 in
theorem ggX5_offerTargets_X5_versionOf : GoodIn wsX5_offerTargets wsX5_versionOf := goodIn_r _ [92, 16, 93, 94, 95, 96, 97, 98, 99, 100, 101, 102, 103, 104, 105, 106, 107, 108, 109, 110] (by decide +kernel) (by decide +kernel)
set_option maxRecDepth 20000 in
theorem gX5_offerTargets_X5_versionOf : GoodIn wsX5_offerTargets (wsV RX5 130 RX5 yX5_versionOf wsX5_versionOf) := goodIn_app (goodIn_of _ (by decide +kernel)) ggX5_offerTargets_X5_versionOf
set_option maxRecDepth 20000 in
theorem ggX5_offerTargets_X5_isOver : GoodIn wsX5_offerTargets wsX5_isOver := goodIn_r _ [10, 11, 12, 13, 14, 4, 15, 16, 93, 94, 95, 96, 97, 98, 99, 100, 101, 102, 103, 104, 105, 106, 107, 108, 109, 110] (by decide +kernel) (by decide +kernel)
set_option maxRecDepth 20000 in
theorem gX5_offerTargets_X5_isOver : GoodIn wsX5_offerTargets (wsV RX5 109 RX5 yX5_isOver wsX5_isOver) := goodIn_app (goodIn_of _ (by decide +kernel)) ggX5_offerTargets_X5_isOver
theorem dX5_offerTargets_0 : decode cX5_offerTargets 0 = .ok (.aload_n 0, 1) := by decide +kernel
theorem dX5_offerTargets_1 : decode cX5_offerTargets 1 = .ok (.iconst 0, 1) := by decide +kernel
theorem dX5_offerTargets_2 : decode cX5_offerTargets 2 = .ok (.invokevirtual 136, 3) := by decide +kernel
theorem dX5_offerTargets_5 : decode cX5_offerTargets 5 = .ok (.ifCond .eq 20, 3) := by decide +kernel
theorem dX5_offerTargets_8 : decode cX5_offerTargets 8 = .ok (.aload_n 0, 1) := by decide +kernel
theorem dX5_offerTargets_9 : decode cX5_offerTargets 9 = .ok (.iconst 2, 1) := by decide +kernel
theorem dX5_offerTargets_10 : decode cX5_offerTargets 10 = .ok (.invokevirtual 136, 3) := by decide +kernel
theorem dX5_offerTargets_13 : decode cX5_offerTargets 13 = .ok (.ifCond .eq 12, 3) := by decide +kernel
theorem dX5_offerTargets_16 : decode cX5_offerTargets 16 = .ok (.aload_n 0, 1) := by decide +kernel
theorem dX5_offerTargets_17 : decode cX5_offerTargets 17 = .ok (.iconst 2, 1) := by decide +kernel
theorem dX5_offerTargets_18 : decode cX5_offerTargets 18 = .ok (.iload_n 1, 1) := by decide +kernel
theorem dX5_offerTargets_19 : decode cX5_offerTargets 19 = .ok (.invokevirtual 139, 3) := by decide +kernel
theorem dX5_offerTargets_22 : decode cX5_offerTargets 22 = .ok (.ifCond .ne 5, 3) := by decide +kernel
theorem dX5_offerTargets_25 : decode cX5_offerTargets 25 = .ok (.iconst 2, 1) := by decide +kernel
theorem dX5_offerTargets_26 : decode cX5_offerTargets 26 = .ok (.ireturn, 1) := by decide +kernel
theorem dX5_offerTargets_27 : decode cX5_offerTargets 27 = .ok (.iload_n 1, 1) := by decide +kernel
theorem dX5_offerTargets_28 : decode cX5_offerTargets 28 = .ok (.iconst 3, 1) := by decide +kernel
theorem dX5_offerTargets_29 : decode cX5_offerTargets 29 = .ok (.if_icmp .ne 20, 3) := by decide +kernel
theorem dX5_offerTargets_32 : decode cX5_offerTargets 32 = .ok (.aload_n 0, 1) := by decide +kernel
theorem dX5_offerTargets_33 : decode cX5_offerTargets 33 = .ok (.bipush 7, 2) := by decide +kernel
theorem dX5_offerTargets_35 : decode cX5_offerTargets 35 = .ok (.aload_n 0, 1) := by decide +kernel
theorem dX5_offerTargets_36 : decode cX5_offerTargets 36 = .ok (.iconst 0, 1) := by decide +kernel
theorem dX5_offerTargets_37 : decode cX5_offerTargets 37 = .ok (.iconst 3, 1) := by decide +kernel
theorem dX5_offerTargets_38 : decode cX5_offerTargets 38 = .ok (.invokevirtual 124, 3) := by decide +kernel
theorem dX5_offerTargets_41 : decode cX5_offerTargets 41 = .ok (.invokevirtual 127, 3) := by decide +kernel
theorem dX5_offerTargets_44 : decode cX5_offerTargets 44 = .ok (.ifCond .ne 5, 3) := by decide +kernel
theorem dX5_offerTargets_47 : decode cX5_offerTargets 47 = .ok (.iconst 3, 1) := by decide +kernel
theorem dX5_offerTargets_48 : decode cX5_offerTargets 48 = .ok (.ireturn, 1) := by decide +kernel
theorem dX5_offerTargets_49 : decode cX5_offerTargets 49 = .ok (.aload_n 0, 1) := by decide +kernel
theorem dX5_offerTargets_50 : decode cX5_offerTargets 50 = .ok (.bipush 7, 2) := by decide +kernel
theorem dX5_offerTargets_52 : decode cX5_offerTargets 52 = .ok (.invokevirtual 130, 3) := by decide +kernel
theorem dX5_offerTargets_55 : decode cX5_offerTargets 55 = .ok (.aload_n 0, 1) := by decide +kernel
theorem dX5_offerTargets_56 : decode cX5_offerTargets 56 = .ok (.iconst 2, 1) := by decide +kernel
theorem dX5_offerTargets_57 : decode cX5_offerTargets 57 = .ok (.iload_n 1, 1) := by decide +kernel
theorem dX5_offerTargets_58 : decode cX5_offerTargets 58 = .ok (.invokevirtual 139, 3) := by decide +kernel
theorem dX5_offerTargets_61 : decode cX5_offerTargets 61 = .ok (.if_icmp .eq 7, 3) := by decide +kernel
theorem dX5_offerTargets_64 : decode cX5_offerTargets 64 = .ok (.iconst 4, 1) := by decide +kernel
theorem dX5_offerTargets_65 : decode cX5_offerTargets 65 = .ok (.goto 17, 3) := by decide +kernel
theorem dX5_offerTargets_68 : decode cX5_offerTargets 68 = .ok (.aload_n 0, 1) := by decide +kernel
theorem dX5_offerTargets_69 : decode cX5_offerTargets 69 = .ok (.bipush 7, 2) := by decide +kernel
theorem dX5_offerTargets_71 : decode cX5_offerTargets 71 = .ok (.invokevirtual 109, 3) := by decide +kernel
theorem dX5_offerTargets_74 : decode cX5_offerTargets 74 = .ok (.ifCond .eq 7, 3) := by decide +kernel
theorem dX5_offerTargets_77 : decode cX5_offerTargets 77 = .ok (.iconst 5, 1) := by decide +kernel
theorem dX5_offerTargets_78 : decode cX5_offerTargets 78 = .ok (.goto 4, 3) := by decide +kernel
theorem dX5_offerTargets_81 : decode cX5_offerTargets 81 = .ok (.iconst 0, 1) := by decide +kernel
theorem dX5_offerTargets_82 : decode cX5_offerTargets 82 = .ok (.ireturn, 1) := by decide +kernel
set_option maxRecDepth 20000 in
theorem ggX5_offer_X5_isDocument : GoodIn wsX5_offer wsX5_isDocument := goodIn_r _ [6, 7, 8, 9, 10, 11, 12, 5, 13, 14, 15, 16, 17, 18, 19, 20, 21, 22, 23, 24, 25, 26, 27, 28, 29, 30, 31, 32, 33, 34, 35, 36, 37, 38, 39, 40, 41, 42, 43, 44, 45, 46, 47, 48, 49, 126, 127, 128, 129, 130, 131, 132, 133, 134, 135, 136, 137, 138, 139, 140, 141, 142, 143] (by decide +kernel) (by decide +kernel)
set_option maxRecDepth 20000 in
theorem gX5_offer_X5_isDocument : GoodIn wsX5_offer (wsV RX5 97 RX5 yX5_isDocument wsX5_isDocument) := goodIn_app (goodIn_of _ (by decide +kernel)) ggX5_offer_X5_isDocument
set_option maxRecDepth 20000 in
theorem ggX5_offer_X5_roleOfDraft : GoodIn wsX5_offer wsX5_roleOfDraft := goodIn_r _ [53, 24, 126, 127, 128, 129, 130, 131, 132, 133, 134, 135, 136, 137, 138, 139, 140, 141, 142, 143] (by decide +kernel) (by decide +kernel)
set_option maxRecDepth 20000 in
theorem gX5_offer_X5_roleOfDraft : GoodIn wsX5_offer (wsV RX5 118 RX5 yX5_roleOfDraft wsX5_roleOfDraft) := goodIn_app (goodIn_of _ (by decide +kernel)) ggX5_offer_X5_roleOfDraft
set_option maxRecDepth 20000 in
theorem ggX5_offer_X5_offerRoot : GoodIn wsX5_offer wsX5_offerRoot := goodIn_r _ [57, 58, 59, 60, 61, 5, 62, 24, 63, 64, 65, 66, 2, 3, 4, 6, 7, 8, 9, 10, 11, 12, 13, 14, 15, 16, 17, 18, 19, 20, 21, 22, 23, 25, 26, 27, 28, 29, 30, 31, 32, 33, 34, 35, 36, 37, 38, 39, 40, 41, 42, 43, 44, 45, 46, 47, 48, 49, 67, 68, 69, 70, 71, 72, 73, 74, 75, 76, 77, 78, 79, 80, 81, 82, 83, 84, 85, 86, 87, 88, 126, 127, 128, 129, 130, 131, 132, 133, 134, 135, 136, 137, 138, 139, 140, 141, 142, 143] (by decide +kernel) (by decide +kernel)
set_option maxRecDepth 20000 in
theorem gX5_offer_X5_offerRoot : GoodIn wsX5_offer (wsV RX5 142 RX5 yX5_offerRoot wsX5_offerRoot) := goodIn_app (goodIn_of _ (by decide +kernel)) ggX5_offer_X5_offerRoot
set_option maxRecDepth 20000 in
theorem ggX5_offer_X5_offerStamp : GoodIn wsX5_offer wsX5_offerStamp := goodIn_r _ [92, 58, 24, 93, 94, 95, 5, 96, 97, 98, 99, 100, 101, 102, 103, 104, 105, 59, 60, 61, 62, 63, 64, 65, 66, 2, 3, 4, 6, 7, 8, 9, 10, 11, 12, 13, 14, 15, 16, 17, 18, 19, 20, 21, 22, 23, 25, 26, 27, 28, 29, 30, 31, 32, 33, 34, 35, 36, 37, 38, 39, 40, 41, 42, 43, 44, 45, 46, 47, 48, 49, 67, 68, 69, 70, 71, 72, 73, 74, 75, 76, 77, 78, 79, 80, 81, 82, 83, 84, 126, 127, 128, 129, 130, 131, 132, 133, 134, 135, 136, 137, 138, 139, 140, 141, 142, 143] (by decide +kernel) (by decide +kernel)
set_option maxRecDepth 20000 in
theorem gX5_offer_X5_offerStamp : GoodIn wsX5_offer (wsV RX5 145 RX5 yX5_offerStamp wsX5_offerStamp) := goodIn_app (goodIn_of _ (by decide +kernel)) ggX5_offer_X5_offerStamp
set_option maxRecDepth 20000 in
theorem ggX5_offer_X5_offerSnapshot : GoodIn wsX5_offer wsX5_offerSnapshot := goodIn_r _ [109, 24, 14, 58, 93, 94, 95, 5, 96, 97, 98, 99, 100, 101, 102, 103, 104, 105, 59, 60, 61, 62, 63, 64, 65, 66, 2, 3, 4, 6, 7, 8, 9, 10, 11, 12, 13, 15, 16, 17, 18, 19, 20, 21, 22, 23, 25, 26, 27, 28, 29, 30, 31, 32, 33, 34, 35, 36, 37, 38, 39, 40, 41, 42, 43, 44, 45, 46, 47, 48, 49, 67, 68, 69, 70, 71, 72, 73, 74, 75, 76, 77, 78, 79, 80, 81, 82, 83, 84, 110, 111, 112, 113, 126, 127, 128, 129, 130, 131, 132, 133, 134, 135, 136, 137, 138, 139, 140, 141, 142, 143] (by decide +kernel) (by decide +kernel)
set_option maxRecDepth 20000 in
theorem gX5_offer_X5_offerSnapshot : GoodIn wsX5_offer (wsV RX5 148 RX5 yX5_offerSnapshot wsX5_offerSnapshot) := goodIn_app (goodIn_of _ (by decide +kernel)) ggX5_offer_X5_offerSnapshot
set_option maxRecDepth 20000 in
theorem ggX5_offer_X5_offerTargets : GoodIn wsX5_offer wsX5_offerTargets := goodIn_r _ [117, 93, 94, 95, 5, 96, 58, 97, 98, 99, 100, 101, 102, 103, 104, 105, 24, 110, 111, 112, 113, 59, 60, 61, 62, 63, 64, 65, 66, 2, 3, 4, 6, 7, 8, 9, 10, 11, 12, 13, 14, 15, 16, 17, 18, 19, 20, 21, 22, 23, 25, 26, 27, 28, 29, 30, 31, 32, 33, 34, 35, 36, 37, 38, 39, 40, 41, 42, 43, 44, 45, 46, 47, 48, 49, 67, 68, 69, 70, 71, 72, 73, 74, 75, 76, 77, 78, 79, 80, 81, 82, 83, 84, 126, 127, 128, 129, 130, 131, 132, 133, 134, 135, 136, 137, 138, 139, 140, 141, 142, 143] (by decide +kernel) (by decide +kernel)
set_option maxRecDepth 20000 in
theorem gX5_offer_X5_offerTargets : GoodIn wsX5_offer (wsV RX5 151 RX5 yX5_offerTargets wsX5_offerTargets) := goodIn_app (goodIn_of _ (by decide +kernel)) ggX5_offer_X5_offerTargets
set_option maxRecDepth 20000 in
theorem ggX5_offer_X5_trust : GoodIn wsX5_offer wsX5_trust := goodIn_r _ [121, 58, 122, 123, 124, 5, 125, 14, 24, 126, 127, 128, 129, 130, 131, 132, 133, 134, 135, 136, 137, 138, 139, 140, 141, 142, 143] (by decide +kernel) (by decide +kernel)
set_option maxRecDepth 20000 in
theorem gX5_offer_X5_trust : GoodIn wsX5_offer (wsV RX5 121 RX5 yX5_trust wsX5_trust) := goodIn_app (goodIn_of _ (by decide +kernel)) ggX5_offer_X5_trust
theorem dX5_offer_0 : decode cX5_offer 0 = .ok (.aload_n 0, 1) := by decide +kernel
theorem dX5_offer_1 : decode cX5_offer 1 = .ok (.aload_n 0, 1) := by decide +kernel
theorem dX5_offer_2 : decode cX5_offer 2 = .ok (.bipush 7, 2) := by decide +kernel
theorem dX5_offer_4 : decode cX5_offer 4 = .ok (.invokevirtual 97, 3) := by decide +kernel
theorem dX5_offer_7 : decode cX5_offer 7 = .ok (.ifCond .eq 7, 3) := by decide +kernel
theorem dX5_offer_10 : decode cX5_offer 10 = .ok (.iconst 0, 1) := by decide +kernel
theorem dX5_offer_11 : decode cX5_offer 11 = .ok (.goto 4, 3) := by decide +kernel
theorem dX5_offer_14 : decode cX5_offer 14 = .ok (.iconst 1, 1) := by decide +kernel
theorem dX5_offer_15 : decode cX5_offer 15 = .ok (.putfield 26, 3) := by decide +kernel
theorem dX5_offer_18 : decode cX5_offer 18 = .ok (.aload_n 0, 1) := by decide +kernel
theorem dX5_offer_19 : decode cX5_offer 19 = .ok (.getfield 26, 3) := by decide +kernel
theorem dX5_offer_22 : decode cX5_offer 22 = .ok (.ifCond .le 5, 3) := by decide +kernel
theorem dX5_offer_25 : decode cX5_offer 25 = .ok (.iconst 0, 1) := by decide +kernel
theorem dX5_offer_26 : decode cX5_offer 26 = .ok (.ireturn, 1) := by decide +kernel
theorem dX5_offer_27 : decode cX5_offer 27 = .ok (.aload_n 0, 1) := by decide +kernel
theorem dX5_offer_28 : decode cX5_offer 28 = .ok (.invokevirtual 118, 3) := by decide +kernel
theorem dX5_offer_31 : decode cX5_offer 31 = .ok (.istore_n 1, 1) := by decide +kernel
theorem dX5_offer_32 : decode cX5_offer 32 = .ok (.aload_n 0, 1) := by decide +kernel
theorem dX5_offer_33 : decode cX5_offer 33 = .ok (.iload_n 1, 1) := by decide +kernel
theorem dX5_offer_34 : decode cX5_offer 34 = .ok (.ifCond .ne 10, 3) := by decide +kernel
theorem dX5_offer_37 : decode cX5_offer 37 = .ok (.aload_n 0, 1) := by decide +kernel
theorem dX5_offer_38 : decode cX5_offer 38 = .ok (.invokevirtual 142, 3) := by decide +kernel
theorem dX5_offer_41 : decode cX5_offer 41 = .ok (.goto 32, 3) := by decide +kernel
theorem dX5_offer_44 : decode cX5_offer 44 = .ok (.iload_n 1, 1) := by decide +kernel
theorem dX5_offer_45 : decode cX5_offer 45 = .ok (.iconst 1, 1) := by decide +kernel
theorem dX5_offer_46 : decode cX5_offer 46 = .ok (.if_icmp .ne 10, 3) := by decide +kernel
theorem dX5_offer_49 : decode cX5_offer 49 = .ok (.aload_n 0, 1) := by decide +kernel
theorem dX5_offer_50 : decode cX5_offer 50 = .ok (.invokevirtual 145, 3) := by decide +kernel
theorem dX5_offer_53 : decode cX5_offer 53 = .ok (.goto 20, 3) := by decide +kernel
theorem dX5_offer_56 : decode cX5_offer 56 = .ok (.iload_n 1, 1) := by decide +kernel
theorem dX5_offer_57 : decode cX5_offer 57 = .ok (.iconst 2, 1) := by decide +kernel
theorem dX5_offer_58 : decode cX5_offer 58 = .ok (.if_icmp .ne 10, 3) := by decide +kernel
theorem dX5_offer_61 : decode cX5_offer 61 = .ok (.aload_n 0, 1) := by decide +kernel
theorem dX5_offer_62 : decode cX5_offer 62 = .ok (.invokevirtual 148, 3) := by decide +kernel
theorem dX5_offer_65 : decode cX5_offer 65 = .ok (.goto 8, 3) := by decide +kernel
theorem dX5_offer_68 : decode cX5_offer 68 = .ok (.aload_n 0, 1) := by decide +kernel
theorem dX5_offer_69 : decode cX5_offer 69 = .ok (.iload_n 1, 1) := by decide +kernel
theorem dX5_offer_70 : decode cX5_offer 70 = .ok (.invokevirtual 151, 3) := by decide +kernel
theorem dX5_offer_73 : decode cX5_offer 73 = .ok (.putfield 26, 3) := by decide +kernel
theorem dX5_offer_76 : decode cX5_offer 76 = .ok (.aload_n 0, 1) := by decide +kernel
theorem dX5_offer_77 : decode cX5_offer 77 = .ok (.getfield 26, 3) := by decide +kernel
theorem dX5_offer_80 : decode cX5_offer 80 = .ok (.ifCond .le 5, 3) := by decide +kernel
theorem dX5_offer_83 : decode cX5_offer 83 = .ok (.iconst 0, 1) := by decide +kernel
theorem dX5_offer_84 : decode cX5_offer 84 = .ok (.ireturn, 1) := by decide +kernel
theorem dX5_offer_85 : decode cX5_offer 85 = .ok (.aload_n 0, 1) := by decide +kernel
theorem dX5_offer_86 : decode cX5_offer 86 = .ok (.iload_n 1, 1) := by decide +kernel
theorem dX5_offer_87 : decode cX5_offer 87 = .ok (.invokevirtual 121, 3) := by decide +kernel
theorem dX5_offer_90 : decode cX5_offer 90 = .ok (.iload_n 1, 1) := by decide +kernel
theorem dX5_offer_91 : decode cX5_offer 91 = .ok (.ireturn, 1) := by decide +kernel
set_option maxRecDepth 20000 in
theorem ggX5_trusted_X5_endOf : GoodIn wsX5_trusted wsX5_endOf := goodIn_r _ [7, 8, 13, 14, 15, 16, 17, 18, 19, 20, 21, 22, 23, 24, 25, 26, 27, 28, 29, 30] (by decide +kernel) (by decide +kernel)
set_option maxRecDepth 20000 in
theorem gX5_trusted_X5_endOf : GoodIn wsX5_trusted (wsV RX5 103 RX5 yX5_endOf wsX5_endOf) := goodIn_app (goodIn_of _ (by decide +kernel)) ggX5_trusted_X5_endOf
set_option maxRecDepth 20000 in
theorem ggX5_trusted_X5_versionOf : GoodIn wsX5_trusted wsX5_versionOf := goodIn_r _ [12, 8, 13, 14, 15, 16, 17, 18, 19, 20, 21, 22, 23, 24, 25, 26, 27, 28, 29, 30] (by decide +kernel) (by decide +kernel)
set_option maxRecDepth 20000 in
theorem gX5_trusted_X5_versionOf : GoodIn wsX5_trusted (wsV RX5 130 RX5 yX5_versionOf wsX5_versionOf) := goodIn_app (goodIn_of _ (by decide +kernel)) ggX5_trusted_X5_versionOf
theorem dX5_trusted_0 : decode cX5_trusted 0 = .ok (.aload_n 0, 1) := by decide +kernel
theorem dX5_trusted_1 : decode cX5_trusted 1 = .ok (.iload_n 1, 1) := by decide +kernel
theorem dX5_trusted_2 : decode cX5_trusted 2 = .ok (.ifCond .lt 9, 3) := by decide +kernel
theorem dX5_trusted_5 : decode cX5_trusted 5 = .ok (.iload_n 1, 1) := by decide +kernel
theorem dX5_trusted_6 : decode cX5_trusted 6 = .ok (.bipush 6, 2) := by decide +kernel
theorem dX5_trusted_8 : decode cX5_trusted 8 = .ok (.if_icmp .le 7, 3) := by decide +kernel
theorem dX5_trusted_11 : decode cX5_trusted 11 = .ok (.iconst 1, 1) := by decide +kernel
theorem dX5_trusted_12 : decode cX5_trusted 12 = .ok (.goto 4, 3) := by decide +kernel
theorem dX5_trusted_15 : decode cX5_trusted 15 = .ok (.iconst 0, 1) := by decide +kernel
theorem dX5_trusted_16 : decode cX5_trusted 16 = .ok (.putfield 26, 3) := by decide +kernel
theorem dX5_trusted_19 : decode cX5_trusted 19 = .ok (.aload_n 0, 1) := by decide +kernel
theorem dX5_trusted_20 : decode cX5_trusted 20 = .ok (.getfield 26, 3) := by decide +kernel
theorem dX5_trusted_23 : decode cX5_trusted 23 = .ok (.ifCond .le 7, 3) := by decide +kernel
theorem dX5_trusted_26 : decode cX5_trusted 26 = .ok (.iconst 0, 1) := by decide +kernel
theorem dX5_trusted_27 : decode cX5_trusted 27 = .ok (.goto 33, 3) := by decide +kernel
theorem dX5_trusted_30 : decode cX5_trusted 30 = .ok (.aload_n 0, 1) := by decide +kernel
theorem dX5_trusted_31 : decode cX5_trusted 31 = .ok (.getfield 16, 3) := by decide +kernel
end
section
theorem dX5_trusted_34 : decode cX5_trusted 34 = .ok (.iload_n 1, 1) := by decide +kernel
theorem dX5_trusted_35 : decode cX5_trusted 35 = .ok (.baload, 1) := by decide +kernel
theorem dX5_trusted_36 : decode cX5_trusted 36 = .ok (.ifCond .ne 7, 3) := by decide +kernel
theorem dX5_trusted_39 : decode cX5_trusted 39 = .ok (.iconst (-1), 1) := by decide +kernel
theorem dX5_trusted_40 : decode cX5_trusted 40 = .ok (.goto 20, 3) := by decide +kernel
theorem dX5_trusted_43 : decode cX5_trusted 43 = .ok (.iload_n 2, 1) := by decide +kernel
theorem dX5_trusted_44 : decode cX5_trusted 44 = .ok (.ifCond .eq 11, 3) := by decide +kernel
theorem dX5_trusted_47 : decode cX5_trusted 47 = .ok (.aload_n 0, 1) := by decide +kernel
theorem dX5_trusted_48 : decode cX5_trusted 48 = .ok (.iload_n 1, 1) := by decide +kernel
theorem dX5_trusted_49 : decode cX5_trusted 49 = .ok (.invokevirtual 103, 3) := by decide +kernel
theorem dX5_trusted_52 : decode cX5_trusted 52 = .ok (.goto 8, 3) := by decide +kernel
theorem dX5_trusted_55 : decode cX5_trusted 55 = .ok (.aload_n 0, 1) := by decide +kernel
theorem dX5_trusted_56 : decode cX5_trusted 56 = .ok (.iload_n 1, 1) := by decide +kernel
theorem dX5_trusted_57 : decode cX5_trusted 57 = .ok (.invokevirtual 130, 3) := by decide +kernel
theorem dX5_trusted_60 : decode cX5_trusted 60 = .ok (.ireturn, 1) := by decide +kernel
theorem dX5_letter_0 : decode cX5_letter 0 = .ok (.lload_n 0, 1) := by decide +kernel
theorem dX5_letter_1 : decode cX5_letter 1 = .ok (.bipush 8, 2) := by decide +kernel
theorem dX5_letter_3 : decode cX5_letter 3 = .ok (.iload_n 2, 1) := by decide +kernel
theorem dX5_letter_4 : decode cX5_letter 4 = .ok (.imul, 1) := by decide +kernel
theorem dX5_letter_5 : decode cX5_letter 5 = .ok (.lshr, 1) := by decide +kernel
theorem dX5_letter_6 : decode cX5_letter 6 = .ok (.ldc2_w 30, 3) := by decide +kernel
theorem dX5_letter_9 : decode cX5_letter 9 = .ok (.land, 1) := by decide +kernel
theorem dX5_letter_10 : decode cX5_letter 10 = .ok (.l2i, 1) := by decide +kernel
theorem dX5_letter_11 : decode cX5_letter 11 = .ok (.ireturn, 1) := by decide +kernel
set_option maxRecDepth 20000 in
theorem ggX5_isName_X5_letter : GoodIn wsX5_isName wsX5_letter := goodIn_r _ [4, 5] (by decide +kernel) (by decide +kernel)
set_option maxRecDepth 20000 in
theorem gX5_isName_X5_letter : GoodIn wsX5_isName (va_wsS RX5 154 yX5_letter wsX5_letter) := goodIn_app (goodIn_of _ (by decide +kernel)) ggX5_isName_X5_letter
theorem dX5_isName_0 : decode cX5_isName 0 = .ok (.iload_n 2, 1) := by decide +kernel
theorem dX5_isName_1 : decode cX5_isName 1 = .ok (.ifCond .le 12, 3) := by decide +kernel
theorem dX5_isName_4 : decode cX5_isName 4 = .ok (.iload_n 2, 1) := by decide +kernel
theorem dX5_isName_5 : decode cX5_isName 5 = .ok (.iconst 5, 1) := by decide +kernel
theorem dX5_isName_6 : decode cX5_isName 6 = .ok (.if_icmp .ge 7, 3) := by decide +kernel
theorem dX5_isName_9 : decode cX5_isName 9 = .ok (.iconst 1, 1) := by decide +kernel
theorem dX5_isName_10 : decode cX5_isName 10 = .ok (.goto 4, 3) := by decide +kernel
theorem dX5_isName_13 : decode cX5_isName 13 = .ok (.iconst 0, 1) := by decide +kernel
theorem dX5_isName_14 : decode cX5_isName 14 = .ok (.istore_n 3, 1) := by decide +kernel
theorem dX5_isName_15 : decode cX5_isName 15 = .ok (.iconst 0, 1) := by decide +kernel
theorem dX5_isName_16 : decode cX5_isName 16 = .ok (.istore 4, 2) := by decide +kernel
theorem dX5_isName_18 : decode cX5_isName 18 = .ok (.iload 4, 2) := by decide +kernel
theorem dX5_isName_20 : decode cX5_isName 20 = .ok (.iload_n 2, 1) := by decide +kernel
theorem dX5_isName_21 : decode cX5_isName 21 = .ok (.if_icmp .ge 41, 3) := by decide +kernel
theorem dX5_isName_24 : decode cX5_isName 24 = .ok (.iload_n 3, 1) := by decide +kernel
theorem dX5_isName_25 : decode cX5_isName 25 = .ok (.ifCond .eq 37, 3) := by decide +kernel
theorem dX5_isName_28 : decode cX5_isName 28 = .ok (.lload_n 0, 1) := by decide +kernel
theorem dX5_isName_29 : decode cX5_isName 29 = .ok (.iload 4, 2) := by decide +kernel
theorem dX5_isName_31 : decode cX5_isName 31 = .ok (.invokestatic 154, 3) := by decide +kernel
theorem dX5_isName_34 : decode cX5_isName 34 = .ok (.bipush 97, 2) := by decide +kernel
theorem dX5_isName_36 : decode cX5_isName 36 = .ok (.if_icmp .lt 18, 3) := by decide +kernel
theorem dX5_isName_39 : decode cX5_isName 39 = .ok (.lload_n 0, 1) := by decide +kernel
theorem dX5_isName_40 : decode cX5_isName 40 = .ok (.iload 4, 2) := by decide +kernel
theorem dX5_isName_42 : decode cX5_isName 42 = .ok (.invokestatic 154, 3) := by decide +kernel
theorem dX5_isName_45 : decode cX5_isName 45 = .ok (.bipush 122, 2) := by decide +kernel
theorem dX5_isName_47 : decode cX5_isName 47 = .ok (.if_icmp .gt 7, 3) := by decide +kernel
theorem dX5_isName_50 : decode cX5_isName 50 = .ok (.iconst 1, 1) := by decide +kernel
theorem dX5_isName_51 : decode cX5_isName 51 = .ok (.goto 4, 3) := by decide +kernel
theorem dX5_isName_54 : decode cX5_isName 54 = .ok (.iconst 0, 1) := by decide +kernel
theorem dX5_isName_55 : decode cX5_isName 55 = .ok (.istore_n 3, 1) := by decide +kernel
theorem dX5_isName_56 : decode cX5_isName 56 = .ok (.iinc 4 1, 3) := by decide +kernel
theorem dX5_isName_59 : decode cX5_isName 59 = .ok (.goto (-41), 3) := by decide +kernel
theorem dX5_isName_62 : decode cX5_isName 62 = .ok (.iload_n 3, 1) := by decide +kernel
theorem dX5_isName_63 : decode cX5_isName 63 = .ok (.ireturn, 1) := by decide +kernel
set_option maxRecDepth 20000 in
theorem ggX5_begins_X5_letter : GoodIn wsX5_begins wsX5_letter := goodIn_r _ [5, 6] (by decide +kernel) (by decide +kernel)
set_option maxRecDepth 20000 in
theorem gX5_begins_X5_letter : GoodIn wsX5_begins (va_wsS RX5 154 yX5_letter wsX5_letter) := goodIn_app (goodIn_of _ (by decide +kernel)) ggX5_begins_X5_letter
theorem dX5_begins_0 : decode cX5_begins 0 = .ok (.iconst 1, 1) := by decide +kernel
theorem dX5_begins_1 : decode cX5_begins 1 = .ok (.istore 5, 2) := by decide +kernel
theorem dX5_begins_3 : decode cX5_begins 3 = .ok (.iconst 0, 1) := by decide +kernel
theorem dX5_begins_4 : decode cX5_begins 4 = .ok (.istore 6, 2) := by decide +kernel
theorem dX5_begins_6 : decode cX5_begins 6 = .ok (.iload 6, 2) := by decide +kernel
theorem dX5_begins_8 : decode cX5_begins 8 = .ok (.iload_n 2, 1) := by decide +kernel
theorem dX5_begins_9 : decode cX5_begins 9 = .ok (.if_icmp .ge 39, 3) := by decide +kernel
theorem dX5_begins_12 : decode cX5_begins 12 = .ok (.iload 5, 2) := by decide +kernel
theorem dX5_begins_14 : decode cX5_begins 14 = .ok (.ifCond .eq 25, 3) := by decide +kernel
theorem dX5_begins_17 : decode cX5_begins 17 = .ok (.aload_n 0, 1) := by decide +kernel
theorem dX5_begins_18 : decode cX5_begins 18 = .ok (.getfield 7, 3) := by decide +kernel
theorem dX5_begins_21 : decode cX5_begins 21 = .ok (.iload_n 1, 1) := by decide +kernel
theorem dX5_begins_22 : decode cX5_begins 22 = .ok (.iload 6, 2) := by decide +kernel
theorem dX5_begins_24 : decode cX5_begins 24 = .ok (.iadd, 1) := by decide +kernel
theorem dX5_begins_25 : decode cX5_begins 25 = .ok (.iaload, 1) := by decide +kernel
theorem dX5_begins_26 : decode cX5_begins 26 = .ok (.lload_n 3, 1) := by decide +kernel
theorem dX5_begins_27 : decode cX5_begins 27 = .ok (.iload 6, 2) := by decide +kernel
theorem dX5_begins_29 : decode cX5_begins 29 = .ok (.invokestatic 154, 3) := by decide +kernel
theorem dX5_begins_32 : decode cX5_begins 32 = .ok (.if_icmp .ne 7, 3) := by decide +kernel
theorem dX5_begins_35 : decode cX5_begins 35 = .ok (.iconst 1, 1) := by decide +kernel
theorem dX5_begins_36 : decode cX5_begins 36 = .ok (.goto 4, 3) := by decide +kernel
theorem dX5_begins_39 : decode cX5_begins 39 = .ok (.iconst 0, 1) := by decide +kernel
theorem dX5_begins_40 : decode cX5_begins 40 = .ok (.istore 5, 2) := by decide +kernel
theorem dX5_begins_42 : decode cX5_begins 42 = .ok (.iinc 6 1, 3) := by decide +kernel
theorem dX5_begins_45 : decode cX5_begins 45 = .ok (.goto (-39), 3) := by decide +kernel
theorem dX5_begins_48 : decode cX5_begins 48 = .ok (.iload 5, 2) := by decide +kernel
theorem dX5_begins_50 : decode cX5_begins 50 = .ok (.ireturn, 1) := by decide +kernel
set_option maxRecDepth 20000 in
theorem ggX5_isFresh_X5_stands : GoodIn wsX5_isFresh wsX5_stands := goodIn_r _ [5, 6, 7, 8, 9, 4, 10, 11, 12, 13, 14, 15, 16, 25, 26, 27, 28, 29, 30, 31, 32, 33, 34, 35, 36, 37, 38, 39, 40, 41, 42] (by decide +kernel) (by decide +kernel)
set_option maxRecDepth 20000 in
theorem gX5_isFresh_X5_stands : GoodIn wsX5_isFresh (wsV RX5 136 RX5 yX5_stands wsX5_stands) := goodIn_app (goodIn_of _ (by decide +kernel)) ggX5_isFresh_X5_stands
set_option maxRecDepth 20000 in
theorem ggX5_isFresh_X5_versionOf : GoodIn wsX5_isFresh wsX5_versionOf := goodIn_r _ [20, 16, 25, 26, 27, 28, 29, 30, 31, 32, 33, 34, 35, 36, 37, 38, 39, 40, 41, 42] (by decide +kernel) (by decide +kernel)
set_option maxRecDepth 20000 in
theorem gX5_isFresh_X5_versionOf : GoodIn wsX5_isFresh (wsV RX5 130 RX5 yX5_versionOf wsX5_versionOf) := goodIn_app (goodIn_of _ (by decide +kernel)) ggX5_isFresh_X5_versionOf
set_option maxRecDepth 20000 in
theorem ggX5_isFresh_X5_said : GoodIn wsX5_isFresh wsX5_said := goodIn_r _ [24, 16, 25, 26, 27, 28, 29, 30, 31, 32, 33, 34, 35, 36, 37, 38, 39, 40, 41, 42] (by decide +kernel) (by decide +kernel)
set_option maxRecDepth 20000 in
theorem gX5_isFresh_X5_said : GoodIn wsX5_isFresh (wsV RX5 139 RX5 yX5_said wsX5_said) := goodIn_app (goodIn_of _ (by decide +kernel)) ggX5_isFresh_X5_said
theorem dX5_isFresh_0 : decode cX5_isFresh 0 = .ok (.aload_n 0, 1) := by decide +kernel
theorem dX5_isFresh_1 : decode cX5_isFresh 1 = .ok (.iload_n 1, 1) := by decide +kernel
theorem dX5_isFresh_2 : decode cX5_isFresh 2 = .ok (.invokevirtual 136, 3) := by decide +kernel
theorem dX5_isFresh_5 : decode cX5_isFresh 5 = .ok (.ifCond .eq 21, 3) := by decide +kernel
theorem dX5_isFresh_8 : decode cX5_isFresh 8 = .ok (.aload_n 0, 1) := by decide +kernel
theorem dX5_isFresh_9 : decode cX5_isFresh 9 = .ok (.iload_n 1, 1) := by decide +kernel
theorem dX5_isFresh_10 : decode cX5_isFresh 10 = .ok (.invokevirtual 130, 3) := by decide +kernel
theorem dX5_isFresh_13 : decode cX5_isFresh 13 = .ok (.aload_n 0, 1) := by decide +kernel
theorem dX5_isFresh_14 : decode cX5_isFresh 14 = .ok (.iconst 2, 1) := by decide +kernel
theorem dX5_isFresh_15 : decode cX5_isFresh 15 = .ok (.iload_n 1, 1) := by decide +kernel
theorem dX5_isFresh_16 : decode cX5_isFresh 16 = .ok (.invokevirtual 139, 3) := by decide +kernel
theorem dX5_isFresh_19 : decode cX5_isFresh 19 = .ok (.if_icmp .ne 7, 3) := by decide +kernel
theorem dX5_isFresh_22 : decode cX5_isFresh 22 = .ok (.iconst 1, 1) := by decide +kernel
theorem dX5_isFresh_23 : decode cX5_isFresh 23 = .ok (.goto 4, 3) := by decide +kernel
theorem dX5_isFresh_26 : decode cX5_isFresh 26 = .ok (.iconst 0, 1) := by decide +kernel
theorem dX5_isFresh_27 : decode cX5_isFresh 27 = .ok (.ireturn, 1) := by decide +kernel
set_option maxRecDepth 20000 in
theorem ggX5_hasTarget_X5_begins : GoodIn wsX5_hasTarget wsX5_begins := goodIn_r _ [8, 1, 9, 10, 7, 11, 12, 17, 18, 19, 20, 21, 22, 23, 24, 25, 26, 27, 28, 29, 30, 31, 32, 33, 34] (by decide +kernel) (by decide +kernel)
set_option maxRecDepth 20000 in
theorem gX5_hasTarget_X5_begins : GoodIn wsX5_hasTarget (wsV RX5 158 RX5 yX5_begins wsX5_begins) := goodIn_app (goodIn_of _ (by decide +kernel)) ggX5_hasTarget_X5_begins
set_option maxRecDepth 20000 in
theorem ggX5_hasTarget_X5_four : GoodIn wsX5_hasTarget wsX5_four := goodIn_r _ [16, 1, 17, 18, 19, 20, 21, 22, 23, 24, 25, 26, 27, 28, 29, 30, 31, 32, 33, 34] (by decide +kernel) (by decide +kernel)
set_option maxRecDepth 20000 in
theorem gX5_hasTarget_X5_four : GoodIn wsX5_hasTarget (wsV RX5 93 RX5 yX5_four wsX5_four) := goodIn_app (goodIn_of _ (by decide +kernel)) ggX5_hasTarget_X5_four
theorem dX5_hasTarget_0 : decode cX5_hasTarget 0 = .ok (.bipush 120, 2) := by decide +kernel
theorem dX5_hasTarget_2 : decode cX5_hasTarget 2 = .ok (.iload_n 1, 1) := by decide +kernel
theorem dX5_hasTarget_3 : decode cX5_hasTarget 3 = .ok (.imul, 1) := by decide +kernel
theorem dX5_hasTarget_4 : decode cX5_hasTarget 4 = .ok (.iconst 5, 1) := by decide +kernel
theorem dX5_hasTarget_5 : decode cX5_hasTarget 5 = .ok (.iadd, 1) := by decide +kernel
theorem dX5_hasTarget_6 : decode cX5_hasTarget 6 = .ok (.istore 5, 2) := by decide +kernel
theorem dX5_hasTarget_8 : decode cX5_hasTarget 8 = .ok (.iconst 0, 1) := by decide +kernel
theorem dX5_hasTarget_9 : decode cX5_hasTarget 9 = .ok (.istore 6, 2) := by decide +kernel
theorem dX5_hasTarget_11 : decode cX5_hasTarget 11 = .ok (.iload 6, 2) := by decide +kernel
theorem dX5_hasTarget_13 : decode cX5_hasTarget 13 = .ok (.aload_n 0, 1) := by decide +kernel
theorem dX5_hasTarget_14 : decode cX5_hasTarget 14 = .ok (.getfield 7, 3) := by decide +kernel
theorem dX5_hasTarget_17 : decode cX5_hasTarget 17 = .ok (.bipush 120, 2) := by decide +kernel
theorem dX5_hasTarget_19 : decode cX5_hasTarget 19 = .ok (.iload_n 1, 1) := by decide +kernel
theorem dX5_hasTarget_20 : decode cX5_hasTarget 20 = .ok (.imul, 1) := by decide +kernel
theorem dX5_hasTarget_21 : decode cX5_hasTarget 21 = .ok (.iconst 4, 1) := by decide +kernel
theorem dX5_hasTarget_22 : decode cX5_hasTarget 22 = .ok (.iadd, 1) := by decide +kernel
theorem dX5_hasTarget_23 : decode cX5_hasTarget 23 = .ok (.iaload, 1) := by decide +kernel
theorem dX5_hasTarget_24 : decode cX5_hasTarget 24 = .ok (.if_icmp .ge 83, 3) := by decide +kernel
theorem dX5_hasTarget_27 : decode cX5_hasTarget 27 = .ok (.aload_n 0, 1) := by decide +kernel
theorem dX5_hasTarget_28 : decode cX5_hasTarget 28 = .ok (.getfield 7, 3) := by decide +kernel
theorem dX5_hasTarget_31 : decode cX5_hasTarget 31 = .ok (.iload 5, 2) := by decide +kernel
theorem dX5_hasTarget_33 : decode cX5_hasTarget 33 = .ok (.iaload, 1) := by decide +kernel
theorem dX5_hasTarget_34 : decode cX5_hasTarget 34 = .ok (.iload 4, 2) := by decide +kernel
theorem dX5_hasTarget_36 : decode cX5_hasTarget 36 = .ok (.if_icmp .ne 50, 3) := by decide +kernel
theorem dX5_hasTarget_39 : decode cX5_hasTarget 39 = .ok (.aload_n 0, 1) := by decide +kernel
theorem dX5_hasTarget_40 : decode cX5_hasTarget 40 = .ok (.iload 5, 2) := by decide +kernel
theorem dX5_hasTarget_42 : decode cX5_hasTarget 42 = .ok (.iconst 1, 1) := by decide +kernel
theorem dX5_hasTarget_43 : decode cX5_hasTarget 43 = .ok (.iadd, 1) := by decide +kernel
theorem dX5_hasTarget_44 : decode cX5_hasTarget 44 = .ok (.iload 4, 2) := by decide +kernel
theorem dX5_hasTarget_46 : decode cX5_hasTarget 46 = .ok (.lload_n 2, 1) := by decide +kernel
theorem dX5_hasTarget_47 : decode cX5_hasTarget 47 = .ok (.invokevirtual 158, 3) := by decide +kernel
theorem dX5_hasTarget_50 : decode cX5_hasTarget 50 = .ok (.ifCond .eq 36, 3) := by decide +kernel
theorem dX5_hasTarget_53 : decode cX5_hasTarget 53 = .ok (.aload_n 0, 1) := by decide +kernel
theorem dX5_hasTarget_54 : decode cX5_hasTarget 54 = .ok (.aload_n 0, 1) := by decide +kernel
theorem dX5_hasTarget_55 : decode cX5_hasTarget 55 = .ok (.getfield 7, 3) := by decide +kernel
theorem dX5_hasTarget_58 : decode cX5_hasTarget 58 = .ok (.iload 5, 2) := by decide +kernel
theorem dX5_hasTarget_60 : decode cX5_hasTarget 60 = .ok (.iconst 1, 1) := by decide +kernel
theorem dX5_hasTarget_61 : decode cX5_hasTarget 61 = .ok (.iadd, 1) := by decide +kernel
theorem dX5_hasTarget_62 : decode cX5_hasTarget 62 = .ok (.iload 4, 2) := by decide +kernel
theorem dX5_hasTarget_64 : decode cX5_hasTarget 64 = .ok (.iadd, 1) := by decide +kernel
theorem dX5_hasTarget_65 : decode cX5_hasTarget 65 = .ok (.iaload, 1) := by decide +kernel
theorem dX5_hasTarget_66 : decode cX5_hasTarget 66 = .ok (.putfield 162, 3) := by decide +kernel
theorem dX5_hasTarget_69 : decode cX5_hasTarget 69 = .ok (.aload_n 0, 1) := by decide +kernel
theorem dX5_hasTarget_70 : decode cX5_hasTarget 70 = .ok (.aload_n 0, 1) := by decide +kernel
theorem dX5_hasTarget_71 : decode cX5_hasTarget 71 = .ok (.iload 5, 2) := by decide +kernel
theorem dX5_hasTarget_73 : decode cX5_hasTarget 73 = .ok (.iconst 2, 1) := by decide +kernel
theorem dX5_hasTarget_74 : decode cX5_hasTarget 74 = .ok (.iadd, 1) := by decide +kernel
theorem dX5_hasTarget_75 : decode cX5_hasTarget 75 = .ok (.iload 4, 2) := by decide +kernel
theorem dX5_hasTarget_77 : decode cX5_hasTarget 77 = .ok (.iadd, 1) := by decide +kernel
theorem dX5_hasTarget_78 : decode cX5_hasTarget 78 = .ok (.invokevirtual 93, 3) := by decide +kernel
theorem dX5_hasTarget_81 : decode cX5_hasTarget 81 = .ok (.putfield 165, 3) := by decide +kernel
theorem dX5_hasTarget_84 : decode cX5_hasTarget 84 = .ok (.iconst 1, 1) := by decide +kernel
theorem dX5_hasTarget_85 : decode cX5_hasTarget 85 = .ok (.ireturn, 1) := by decide +kernel
theorem dX5_hasTarget_86 : decode cX5_hasTarget 86 = .ok (.iload 5, 2) := by decide +kernel
theorem dX5_hasTarget_88 : decode cX5_hasTarget 88 = .ok (.aload_n 0, 1) := by decide +kernel
theorem dX5_hasTarget_89 : decode cX5_hasTarget 89 = .ok (.getfield 7, 3) := by decide +kernel
theorem dX5_hasTarget_92 : decode cX5_hasTarget 92 = .ok (.iload 5, 2) := by decide +kernel
theorem dX5_hasTarget_94 : decode cX5_hasTarget 94 = .ok (.iaload, 1) := by decide +kernel
theorem dX5_hasTarget_95 : decode cX5_hasTarget 95 = .ok (.iadd, 1) := by decide +kernel
theorem dX5_hasTarget_96 : decode cX5_hasTarget 96 = .ok (.bipush 6, 2) := by decide +kernel
theorem dX5_hasTarget_98 : decode cX5_hasTarget 98 = .ok (.iadd, 1) := by decide +kernel
theorem dX5_hasTarget_99 : decode cX5_hasTarget 99 = .ok (.istore 5, 2) := by decide +kernel
theorem dX5_hasTarget_101 : decode cX5_hasTarget 101 = .ok (.iinc 6 1, 3) := by decide +kernel
theorem dX5_hasTarget_104 : decode cX5_hasTarget 104 = .ok (.goto (-93), 3) := by decide +kernel
theorem dX5_hasTarget_107 : decode cX5_hasTarget 107 = .ok (.iconst 0, 1) := by decide +kernel
theorem dX5_hasTarget_108 : decode cX5_hasTarget 108 = .ok (.ireturn, 1) := by decide +kernel
theorem dX5_delegation_0 : decode cX5_delegation 0 = .ok (.bipush 120, 2) := by decide +kernel
theorem dX5_delegation_2 : decode cX5_delegation 2 = .ok (.iload_n 1, 1) := by decide +kernel
theorem dX5_delegation_3 : decode cX5_delegation 3 = .ok (.imul, 1) := by decide +kernel
theorem dX5_delegation_4 : decode cX5_delegation 4 = .ok (.iconst 5, 1) := by decide +kernel
theorem dX5_delegation_5 : decode cX5_delegation 5 = .ok (.iadd, 1) := by decide +kernel
theorem dX5_delegation_6 : decode cX5_delegation 6 = .ok (.istore_n 3, 1) := by decide +kernel
theorem dX5_delegation_7 : decode cX5_delegation 7 = .ok (.iconst 0, 1) := by decide +kernel
theorem dX5_delegation_8 : decode cX5_delegation 8 = .ok (.istore 4, 2) := by decide +kernel
theorem dX5_delegation_10 : decode cX5_delegation 10 = .ok (.iload 4, 2) := by decide +kernel
theorem dX5_delegation_12 : decode cX5_delegation 12 = .ok (.aload_n 0, 1) := by decide +kernel
theorem dX5_delegation_13 : decode cX5_delegation 13 = .ok (.getfield 7, 3) := by decide +kernel
theorem dX5_delegation_16 : decode cX5_delegation 16 = .ok (.bipush 120, 2) := by decide +kernel
theorem dX5_delegation_18 : decode cX5_delegation 18 = .ok (.iload_n 1, 1) := by decide +kernel
theorem dX5_delegation_19 : decode cX5_delegation 19 = .ok (.imul, 1) := by decide +kernel
theorem dX5_delegation_20 : decode cX5_delegation 20 = .ok (.iconst 4, 1) := by decide +kernel
theorem dX5_delegation_21 : decode cX5_delegation 21 = .ok (.iadd, 1) := by decide +kernel
theorem dX5_delegation_22 : decode cX5_delegation 22 = .ok (.iaload, 1) := by decide +kernel
theorem dX5_delegation_23 : decode cX5_delegation 23 = .ok (.if_icmp .ge 21, 3) := by decide +kernel
theorem dX5_delegation_26 : decode cX5_delegation 26 = .ok (.iload_n 3, 1) := by decide +kernel
theorem dX5_delegation_27 : decode cX5_delegation 27 = .ok (.aload_n 0, 1) := by decide +kernel
theorem dX5_delegation_28 : decode cX5_delegation 28 = .ok (.getfield 7, 3) := by decide +kernel
theorem dX5_delegation_31 : decode cX5_delegation 31 = .ok (.iload_n 3, 1) := by decide +kernel
theorem dX5_delegation_32 : decode cX5_delegation 32 = .ok (.iaload, 1) := by decide +kernel
theorem dX5_delegation_33 : decode cX5_delegation 33 = .ok (.iadd, 1) := by decide +kernel
theorem dX5_delegation_34 : decode cX5_delegation 34 = .ok (.bipush 6, 2) := by decide +kernel
theorem dX5_delegation_36 : decode cX5_delegation 36 = .ok (.iadd, 1) := by decide +kernel
theorem dX5_delegation_37 : decode cX5_delegation 37 = .ok (.istore_n 3, 1) := by decide +kernel
theorem dX5_delegation_38 : decode cX5_delegation 38 = .ok (.iinc 4 1, 3) := by decide +kernel
theorem dX5_delegation_41 : decode cX5_delegation 41 = .ok (.goto (-31), 3) := by decide +kernel
theorem dX5_delegation_44 : decode cX5_delegation 44 = .ok (.iload_n 2, 1) := by decide +kernel
theorem dX5_delegation_45 : decode cX5_delegation 45 = .ok (.aload_n 0, 1) := by decide +kernel
theorem dX5_delegation_46 : decode cX5_delegation 46 = .ok (.getfield 7, 3) := by decide +kernel
theorem dX5_delegation_49 : decode cX5_delegation 49 = .ok (.iload_n 3, 1) := by decide +kernel
theorem dX5_delegation_50 : decode cX5_delegation 50 = .ok (.iaload, 1) := by decide +kernel
theorem dX5_delegation_51 : decode cX5_delegation 51 = .ok (.if_icmp .lt 5, 3) := by decide +kernel
theorem dX5_delegation_54 : decode cX5_delegation 54 = .ok (.iconst (-1), 1) := by decide +kernel
theorem dX5_delegation_55 : decode cX5_delegation 55 = .ok (.ireturn, 1) := by decide +kernel
theorem dX5_delegation_56 : decode cX5_delegation 56 = .ok (.iinc 3 1, 3) := by decide +kernel
theorem dX5_delegation_59 : decode cX5_delegation 59 = .ok (.iconst 0, 1) := by decide +kernel
theorem dX5_delegation_60 : decode cX5_delegation 60 = .ok (.istore 4, 2) := by decide +kernel
theorem dX5_delegation_62 : decode cX5_delegation 62 = .ok (.iload 4, 2) := by decide +kernel
theorem dX5_delegation_64 : decode cX5_delegation 64 = .ok (.iload_n 2, 1) := by decide +kernel
theorem dX5_delegation_65 : decode cX5_delegation 65 = .ok (.if_icmp .ge 36, 3) := by decide +kernel
theorem dX5_delegation_68 : decode cX5_delegation 68 = .ok (.iload_n 3, 1) := by decide +kernel
theorem dX5_delegation_69 : decode cX5_delegation 69 = .ok (.iconst 4, 1) := by decide +kernel
theorem dX5_delegation_70 : decode cX5_delegation 70 = .ok (.iadd, 1) := by decide +kernel
theorem dX5_delegation_71 : decode cX5_delegation 71 = .ok (.aload_n 0, 1) := by decide +kernel
theorem dX5_delegation_72 : decode cX5_delegation 72 = .ok (.getfield 7, 3) := by decide +kernel
theorem dX5_delegation_75 : decode cX5_delegation 75 = .ok (.iload_n 3, 1) := by decide +kernel
theorem dX5_delegation_76 : decode cX5_delegation 76 = .ok (.iconst 3, 1) := by decide +kernel
theorem dX5_delegation_77 : decode cX5_delegation 77 = .ok (.iadd, 1) := by decide +kernel
theorem dX5_delegation_78 : decode cX5_delegation 78 = .ok (.iaload, 1) := by decide +kernel
theorem dX5_delegation_79 : decode cX5_delegation 79 = .ok (.iadd, 1) := by decide +kernel
theorem dX5_delegation_80 : decode cX5_delegation 80 = .ok (.istore 5, 2) := by decide +kernel
theorem dX5_delegation_82 : decode cX5_delegation 82 = .ok (.iload 5, 2) := by decide +kernel
theorem dX5_delegation_84 : decode cX5_delegation 84 = .ok (.iconst 1, 1) := by decide +kernel
theorem dX5_delegation_85 : decode cX5_delegation 85 = .ok (.iadd, 1) := by decide +kernel
theorem dX5_delegation_86 : decode cX5_delegation 86 = .ok (.aload_n 0, 1) := by decide +kernel
theorem dX5_delegation_87 : decode cX5_delegation 87 = .ok (.getfield 7, 3) := by decide +kernel
theorem dX5_delegation_90 : decode cX5_delegation 90 = .ok (.iload 5, 2) := by decide +kernel
theorem dX5_delegation_92 : decode cX5_delegation 92 = .ok (.iaload, 1) := by decide +kernel
theorem dX5_delegation_93 : decode cX5_delegation 93 = .ok (.iadd, 1) := by decide +kernel
theorem dX5_delegation_94 : decode cX5_delegation 94 = .ok (.istore_n 3, 1) := by decide +kernel
theorem dX5_delegation_95 : decode cX5_delegation 95 = .ok (.iinc 4 1, 3) := by decide +kernel
theorem dX5_delegation_98 : decode cX5_delegation 98 = .ok (.goto (-36), 3) := by decide +kernel
theorem dX5_delegation_101 : decode cX5_delegation 101 = .ok (.iload_n 3, 1) := by decide +kernel
theorem dX5_delegation_102 : decode cX5_delegation 102 = .ok (.ireturn, 1) := by decide +kernel
theorem dX5_visit_0 : decode cX5_visit 0 = .ok (.aload_n 0, 1) := by decide +kernel
theorem dX5_visit_1 : decode cX5_visit 1 = .ok (.getfield 20, 3) := by decide +kernel
theorem dX5_visit_4 : decode cX5_visit 4 = .ok (.aload_n 0, 1) := by decide +kernel
theorem dX5_visit_5 : decode cX5_visit 5 = .ok (.getfield 168, 3) := by decide +kernel
theorem dX5_visit_8 : decode cX5_visit 8 = .ok (.iload_n 1, 1) := by decide +kernel
theorem dX5_visit_9 : decode cX5_visit 9 = .ok (.iastore, 1) := by decide +kernel
theorem dX5_visit_10 : decode cX5_visit 10 = .ok (.aload_n 0, 1) := by decide +kernel
theorem dX5_visit_11 : decode cX5_visit 11 = .ok (.getfield 23, 3) := by decide +kernel
theorem dX5_visit_14 : decode cX5_visit 14 = .ok (.aload_n 0, 1) := by decide +kernel
theorem dX5_visit_15 : decode cX5_visit 15 = .ok (.getfield 168, 3) := by decide +kernel
theorem dX5_visit_18 : decode cX5_visit 18 = .ok (.iconst 0, 1) := by decide +kernel
theorem dX5_visit_19 : decode cX5_visit 19 = .ok (.iastore, 1) := by decide +kernel
theorem dX5_visit_20 : decode cX5_visit 20 = .ok (.aload_n 0, 1) := by decide +kernel
theorem dX5_visit_21 : decode cX5_visit 21 = .ok (.dup, 1) := by decide +kernel
theorem dX5_visit_22 : decode cX5_visit 22 = .ok (.getfield 168, 3) := by decide +kernel
theorem dX5_visit_25 : decode cX5_visit 25 = .ok (.iconst 1, 1) := by decide +kernel
theorem dX5_visit_26 : decode cX5_visit 26 = .ok (.iadd, 1) := by decide +kernel
theorem dX5_visit_27 : decode cX5_visit 27 = .ok (.putfield 168, 3) := by decide +kernel
theorem dX5_visit_30 : decode cX5_visit 30 = .ok (.aload_n 0, 1) := by decide +kernel
theorem dX5_visit_31 : decode cX5_visit 31 = .ok (.dup, 1) := by decide +kernel
theorem dX5_visit_32 : decode cX5_visit 32 = .ok (.getfield 171, 3) := by decide +kernel
theorem dX5_visit_35 : decode cX5_visit 35 = .ok (.iconst 1, 1) := by decide +kernel
theorem dX5_visit_36 : decode cX5_visit 36 = .ok (.iadd, 1) := by decide +kernel
theorem dX5_visit_37 : decode cX5_visit 37 = .ok (.putfield 171, 3) := by decide +kernel
theorem dX5_visit_40 : decode cX5_visit 40 = .ok (.aload_n 0, 1) := by decide +kernel
theorem dX5_visit_41 : decode cX5_visit 41 = .ok (.aload_n 0, 1) := by decide +kernel
theorem dX5_visit_42 : decode cX5_visit 42 = .ok (.getfield 174, 3) := by decide +kernel
theorem dX5_visit_45 : decode cX5_visit 45 = .ok (.iconst 1, 1) := by decide +kernel
theorem dX5_visit_46 : decode cX5_visit 46 = .ok (.iload_n 1, 1) := by decide +kernel
theorem dX5_visit_47 : decode cX5_visit 47 = .ok (.ishl, 1) := by decide +kernel
theorem dX5_visit_48 : decode cX5_visit 48 = .ok (.ior, 1) := by decide +kernel
theorem dX5_visit_49 : decode cX5_visit 49 = .ok (.putfield 174, 3) := by decide +kernel
theorem dX5_visit_52 : decode cX5_visit 52 = .ok (.return_, 1) := by decide +kernel
set_option maxRecDepth 20000 in
theorem ggX5_find_X5_visit : GoodIn wsX5_find wsX5_visit := goodIn_r _ [11, 4, 1, 5, 2, 3, 120, 121, 122, 123, 124, 125, 126, 127, 128, 129, 130, 131, 132, 133, 134, 135, 136, 137] (by decide +kernel) (by decide +kernel)
set_option maxRecDepth 20000 in
theorem gX5_find_X5_visit : GoodIn wsX5_find (wsV RX5 177 RX5 yX5_visit wsX5_visit) := goodIn_app (goodIn_of _ (by decide +kernel)) ggX5_find_X5_visit
set_option maxRecDepth 20000 in
theorem ggX5_find_X5_hasTarget : GoodIn wsX5_find wsX5_hasTarget := goodIn_r _ [15, 6, 16, 17, 18, 19, 20, 10, 21, 22, 23, 24, 25, 26, 27, 28, 29, 120, 121, 122, 123, 124, 125, 126, 127, 128, 129, 130, 131, 132, 133, 134, 135, 136, 137] (by decide +kernel) (by decide +kernel)
set_option maxRecDepth 20000 in
theorem gX5_find_X5_hasTarget : GoodIn wsX5_find (wsV RX5 180 RX5 yX5_hasTarget wsX5_hasTarget) := goodIn_app (goodIn_of _ (by decide +kernel)) ggX5_find_X5_hasTarget
set_option maxRecDepth 20000 in
theorem ggX5_find_X5_delegation : GoodIn wsX5_find wsX5_delegation := goodIn_r _ [33, 6, 120, 121, 122, 123, 124, 125, 126, 127, 128, 129, 130, 131, 132, 133, 134, 135, 136, 137] (by decide +kernel) (by decide +kernel)
set_option maxRecDepth 20000 in
theorem gX5_find_X5_delegation : GoodIn wsX5_find (wsV RX5 184 RX5 yX5_delegation wsX5_delegation) := goodIn_app (goodIn_of _ (by decide +kernel)) ggX5_find_X5_delegation
set_option maxRecDepth 20000 in
theorem ggX5_find_X5_begins : GoodIn wsX5_find wsX5_begins := goodIn_r _ [21, 6, 22, 23, 10, 24, 25, 120, 121, 122, 123, 124, 125, 126, 127, 128, 129, 130, 131, 132, 133, 134, 135, 136, 137] (by decide +kernel) (by decide +kernel)
set_option maxRecDepth 20000 in
theorem gX5_find_X5_begins : GoodIn wsX5_find (wsV RX5 158 RX5 yX5_begins wsX5_begins) := goodIn_app (goodIn_of _ (by decide +kernel)) ggX5_find_X5_begins
set_option maxRecDepth 20000 in
theorem ggX5_find_X5_isFresh : GoodIn wsX5_find wsX5_isFresh := goodIn_r _ [37, 38, 39, 40, 10, 41, 42, 43, 44, 45, 46, 47, 48, 49, 50, 51, 6, 52, 53, 54, 55, 56, 57, 58, 59, 120, 121, 122, 123, 124, 125, 126, 127, 128, 129, 130, 131, 132, 133, 134, 135, 136, 137] (by decide +kernel) (by decide +kernel)
set_option maxRecDepth 20000 in
theorem gX5_find_X5_isFresh : GoodIn wsX5_find (wsV RX5 187 RX5 yX5_isFresh wsX5_isFresh) := goodIn_app (goodIn_of _ (by decide +kernel)) ggX5_find_X5_isFresh
set_option maxRecDepth 20000 in
theorem ggX5_find_X5_isSigned : GoodIn wsX5_find wsX5_isSigned := goodIn_r _ [63, 6, 64, 65, 66, 10, 67, 68, 69, 70, 71, 72, 73, 74, 75, 76, 77, 78, 79, 80, 81, 82, 83, 84, 85, 86, 87, 88, 89, 90, 91, 92, 93, 94, 95, 96, 97, 98, 99, 100, 101, 102, 103, 104, 105, 106, 107, 108, 109, 110, 111, 112, 113, 114, 115, 116, 117, 118, 119, 26, 27, 28, 29, 120, 121, 122, 123, 124, 125, 126, 127, 128, 129, 130, 131, 132, 133, 134, 135, 136, 137] (by decide +kernel) (by decide +kernel)
set_option maxRecDepth 20000 in
theorem gX5_find_X5_isSigned : GoodIn wsX5_find (wsV RX5 127 RX5 yX5_isSigned wsX5_isSigned) := goodIn_app (goodIn_of _ (by decide +kernel)) ggX5_find_X5_isSigned
theorem dX5_find_0 : decode cX5_find 0 = .ok (.aload_n 0, 1) := by decide +kernel
theorem dX5_find_1 : decode cX5_find 1 = .ok (.iconst 0, 1) := by decide +kernel
theorem dX5_find_2 : decode cX5_find 2 = .ok (.putfield 168, 3) := by decide +kernel
theorem dX5_find_5 : decode cX5_find 5 = .ok (.aload_n 0, 1) := by decide +kernel
theorem dX5_find_6 : decode cX5_find 6 = .ok (.iconst 0, 1) := by decide +kernel
theorem dX5_find_7 : decode cX5_find 7 = .ok (.putfield 171, 3) := by decide +kernel
theorem dX5_find_10 : decode cX5_find 10 = .ok (.aload_n 0, 1) := by decide +kernel
theorem dX5_find_11 : decode cX5_find 11 = .ok (.iconst 0, 1) := by decide +kernel
theorem dX5_find_12 : decode cX5_find 12 = .ok (.putfield 174, 3) := by decide +kernel
theorem dX5_find_15 : decode cX5_find 15 = .ok (.aload_n 0, 1) := by decide +kernel
theorem dX5_find_16 : decode cX5_find 16 = .ok (.iconst 3, 1) := by decide +kernel
theorem dX5_find_17 : decode cX5_find 17 = .ok (.invokevirtual 177, 3) := by decide +kernel
theorem dX5_find_20 : decode cX5_find 20 = .ok (.aload_n 0, 1) := by decide +kernel
theorem dX5_find_21 : decode cX5_find 21 = .ok (.getfield 168, 3) := by decide +kernel
theorem dX5_find_24 : decode cX5_find 24 = .ok (.ifCond .le 279, 3) := by decide +kernel
theorem dX5_find_27 : decode cX5_find 27 = .ok (.aload_n 0, 1) := by decide +kernel
theorem dX5_find_28 : decode cX5_find 28 = .ok (.getfield 20, 3) := by decide +kernel
theorem dX5_find_31 : decode cX5_find 31 = .ok (.aload_n 0, 1) := by decide +kernel
theorem dX5_find_32 : decode cX5_find 32 = .ok (.getfield 168, 3) := by decide +kernel
theorem dX5_find_35 : decode cX5_find 35 = .ok (.iconst 1, 1) := by decide +kernel
theorem dX5_find_36 : decode cX5_find 36 = .ok (.isub, 1) := by decide +kernel
theorem dX5_find_37 : decode cX5_find 37 = .ok (.iaload, 1) := by decide +kernel
theorem dX5_find_38 : decode cX5_find 38 = .ok (.istore 4, 2) := by decide +kernel
theorem dX5_find_40 : decode cX5_find 40 = .ok (.aload_n 0, 1) := by decide +kernel
theorem dX5_find_41 : decode cX5_find 41 = .ok (.getfield 23, 3) := by decide +kernel
theorem dX5_find_44 : decode cX5_find 44 = .ok (.aload_n 0, 1) := by decide +kernel
theorem dX5_find_45 : decode cX5_find 45 = .ok (.getfield 168, 3) := by decide +kernel
theorem dX5_find_48 : decode cX5_find 48 = .ok (.iconst 1, 1) := by decide +kernel
theorem dX5_find_49 : decode cX5_find 49 = .ok (.isub, 1) := by decide +kernel
theorem dX5_find_50 : decode cX5_find 50 = .ok (.iaload, 1) := by decide +kernel
theorem dX5_find_51 : decode cX5_find 51 = .ok (.ifCond .ne 17, 3) := by decide +kernel
theorem dX5_find_54 : decode cX5_find 54 = .ok (.aload_n 0, 1) := by decide +kernel
theorem dX5_find_55 : decode cX5_find 55 = .ok (.iload 4, 2) := by decide +kernel
theorem dX5_find_57 : decode cX5_find 57 = .ok (.lload_n 1, 1) := by decide +kernel
theorem dX5_find_58 : decode cX5_find 58 = .ok (.iload_n 3, 1) := by decide +kernel
theorem dX5_find_59 : decode cX5_find 59 = .ok (.invokevirtual 180, 3) := by decide +kernel
theorem dX5_find_62 : decode cX5_find 62 = .ok (.ifCond .eq 6, 3) := by decide +kernel
theorem dX5_find_65 : decode cX5_find 65 = .ok (.iload 4, 2) := by decide +kernel
theorem dX5_find_67 : decode cX5_find 67 = .ok (.ireturn, 1) := by decide +kernel
theorem dX5_find_68 : decode cX5_find 68 = .ok (.aload_n 0, 1) := by decide +kernel
theorem dX5_find_69 : decode cX5_find 69 = .ok (.iload 4, 2) := by decide +kernel
theorem dX5_find_71 : decode cX5_find 71 = .ok (.aload_n 0, 1) := by decide +kernel
theorem dX5_find_72 : decode cX5_find 72 = .ok (.getfield 23, 3) := by decide +kernel
theorem dX5_find_75 : decode cX5_find 75 = .ok (.aload_n 0, 1) := by decide +kernel
theorem dX5_find_76 : decode cX5_find 76 = .ok (.getfield 168, 3) := by decide +kernel
theorem dX5_find_79 : decode cX5_find 79 = .ok (.iconst 1, 1) := by decide +kernel
theorem dX5_find_80 : decode cX5_find 80 = .ok (.isub, 1) := by decide +kernel
theorem dX5_find_81 : decode cX5_find 81 = .ok (.iaload, 1) := by decide +kernel
theorem dX5_find_82 : decode cX5_find 82 = .ok (.invokevirtual 184, 3) := by decide +kernel
theorem dX5_find_85 : decode cX5_find 85 = .ok (.istore 5, 2) := by decide +kernel
theorem dX5_find_87 : decode cX5_find 87 = .ok (.iload 5, 2) := by decide +kernel
theorem dX5_find_89 : decode cX5_find 89 = .ok (.ifCond .ge 78, 3) := by decide +kernel
theorem dX5_find_92 : decode cX5_find 92 = .ok (.aload_n 0, 1) := by decide +kernel
theorem dX5_find_93 : decode cX5_find 93 = .ok (.dup, 1) := by decide +kernel
theorem dX5_find_94 : decode cX5_find 94 = .ok (.getfield 168, 3) := by decide +kernel
theorem dX5_find_97 : decode cX5_find 97 = .ok (.iconst 1, 1) := by decide +kernel
theorem dX5_find_98 : decode cX5_find 98 = .ok (.isub, 1) := by decide +kernel
theorem dX5_find_99 : decode cX5_find 99 = .ok (.putfield 168, 3) := by decide +kernel
theorem dX5_find_102 : decode cX5_find 102 = .ok (.aload_n 0, 1) := by decide +kernel
theorem dX5_find_103 : decode cX5_find 103 = .ok (.getfield 168, 3) := by decide +kernel
theorem dX5_find_106 : decode cX5_find 106 = .ok (.ifCond .le 194, 3) := by decide +kernel
theorem dX5_find_109 : decode cX5_find 109 = .ok (.aload_n 0, 1) := by decide +kernel
theorem dX5_find_110 : decode cX5_find 110 = .ok (.aload_n 0, 1) := by decide +kernel
theorem dX5_find_111 : decode cX5_find 111 = .ok (.getfield 20, 3) := by decide +kernel
theorem dX5_find_114 : decode cX5_find 114 = .ok (.aload_n 0, 1) := by decide +kernel
theorem dX5_find_115 : decode cX5_find 115 = .ok (.getfield 168, 3) := by decide +kernel
theorem dX5_find_118 : decode cX5_find 118 = .ok (.iconst 1, 1) := by decide +kernel
theorem dX5_find_119 : decode cX5_find 119 = .ok (.isub, 1) := by decide +kernel
theorem dX5_find_120 : decode cX5_find 120 = .ok (.iaload, 1) := by decide +kernel
theorem dX5_find_121 : decode cX5_find 121 = .ok (.aload_n 0, 1) := by decide +kernel
theorem dX5_find_122 : decode cX5_find 122 = .ok (.getfield 23, 3) := by decide +kernel
theorem dX5_find_125 : decode cX5_find 125 = .ok (.aload_n 0, 1) := by decide +kernel
theorem dX5_find_126 : decode cX5_find 126 = .ok (.getfield 168, 3) := by decide +kernel
theorem dX5_find_129 : decode cX5_find 129 = .ok (.iconst 1, 1) := by decide +kernel
theorem dX5_find_130 : decode cX5_find 130 = .ok (.isub, 1) := by decide +kernel
theorem dX5_find_131 : decode cX5_find 131 = .ok (.iaload, 1) := by decide +kernel
theorem dX5_find_132 : decode cX5_find 132 = .ok (.iconst 1, 1) := by decide +kernel
theorem dX5_find_133 : decode cX5_find 133 = .ok (.isub, 1) := by decide +kernel
theorem dX5_find_134 : decode cX5_find 134 = .ok (.invokevirtual 184, 3) := by decide +kernel
theorem dX5_find_137 : decode cX5_find 137 = .ok (.istore 6, 2) := by decide +kernel
theorem dX5_find_139 : decode cX5_find 139 = .ok (.aload_n 0, 1) := by decide +kernel
theorem dX5_find_140 : decode cX5_find 140 = .ok (.aload_n 0, 1) := by decide +kernel
theorem dX5_find_141 : decode cX5_find 141 = .ok (.getfield 7, 3) := by decide +kernel
theorem dX5_find_144 : decode cX5_find 144 = .ok (.iload 6, 2) := by decide +kernel
theorem dX5_find_146 : decode cX5_find 146 = .ok (.iconst 1, 1) := by decide +kernel
theorem dX5_find_147 : decode cX5_find 147 = .ok (.iadd, 1) := by decide +kernel
theorem dX5_find_148 : decode cX5_find 148 = .ok (.iaload, 1) := by decide +kernel
theorem dX5_find_149 : decode cX5_find 149 = .ok (.iconst 1, 1) := by decide +kernel
theorem dX5_find_150 : decode cX5_find 150 = .ok (.if_icmp .ne 7, 3) := by decide +kernel
theorem dX5_find_153 : decode cX5_find 153 = .ok (.iconst 0, 1) := by decide +kernel
theorem dX5_find_154 : decode cX5_find 154 = .ok (.goto 7, 3) := by decide +kernel
theorem dX5_find_157 : decode cX5_find 157 = .ok (.aload_n 0, 1) := by decide +kernel
theorem dX5_find_158 : decode cX5_find 158 = .ok (.getfield 168, 3) := by decide +kernel
theorem dX5_find_161 : decode cX5_find 161 = .ok (.putfield 168, 3) := by decide +kernel
theorem dX5_find_164 : decode cX5_find 164 = .ok (.goto 136, 3) := by decide +kernel
theorem dX5_find_167 : decode cX5_find 167 = .ok (.aload_n 0, 1) := by decide +kernel
theorem dX5_find_168 : decode cX5_find 168 = .ok (.getfield 23, 3) := by decide +kernel
theorem dX5_find_171 : decode cX5_find 171 = .ok (.aload_n 0, 1) := by decide +kernel
theorem dX5_find_172 : decode cX5_find 172 = .ok (.getfield 168, 3) := by decide +kernel
theorem dX5_find_175 : decode cX5_find 175 = .ok (.iconst 1, 1) := by decide +kernel
theorem dX5_find_176 : decode cX5_find 176 = .ok (.isub, 1) := by decide +kernel
theorem dX5_find_177 : decode cX5_find 177 = .ok (.dup2, 1) := by decide +kernel
theorem dX5_find_178 : decode cX5_find 178 = .ok (.iaload, 1) := by decide +kernel
theorem dX5_find_179 : decode cX5_find 179 = .ok (.iconst 1, 1) := by decide +kernel
theorem dX5_find_180 : decode cX5_find 180 = .ok (.iadd, 1) := by decide +kernel
theorem dX5_find_181 : decode cX5_find 181 = .ok (.iastore, 1) := by decide +kernel
theorem dX5_find_182 : decode cX5_find 182 = .ok (.iload 5, 2) := by decide +kernel
theorem dX5_find_184 : decode cX5_find 184 = .ok (.iconst 4, 1) := by decide +kernel
theorem dX5_find_185 : decode cX5_find 185 = .ok (.iadd, 1) := by decide +kernel
theorem dX5_find_186 : decode cX5_find 186 = .ok (.aload_n 0, 1) := by decide +kernel
theorem dX5_find_187 : decode cX5_find 187 = .ok (.getfield 7, 3) := by decide +kernel
theorem dX5_find_190 : decode cX5_find 190 = .ok (.iload 5, 2) := by decide +kernel
theorem dX5_find_192 : decode cX5_find 192 = .ok (.iconst 3, 1) := by decide +kernel
theorem dX5_find_193 : decode cX5_find 193 = .ok (.iadd, 1) := by decide +kernel
theorem dX5_find_194 : decode cX5_find 194 = .ok (.iaload, 1) := by decide +kernel
theorem dX5_find_195 : decode cX5_find 195 = .ok (.iadd, 1) := by decide +kernel
theorem dX5_find_196 : decode cX5_find 196 = .ok (.istore 6, 2) := by decide +kernel
theorem dX5_find_198 : decode cX5_find 198 = .ok (.aload_n 0, 1) := by decide +kernel
theorem dX5_find_199 : decode cX5_find 199 = .ok (.getfield 7, 3) := by decide +kernel
theorem dX5_find_202 : decode cX5_find 202 = .ok (.iload 6, 2) := by decide +kernel
theorem dX5_find_204 : decode cX5_find 204 = .ok (.iaload, 1) := by decide +kernel
theorem dX5_find_205 : decode cX5_find 205 = .ok (.iload_n 3, 1) := by decide +kernel
theorem dX5_find_206 : decode cX5_find 206 = .ok (.if_icmp .gt 43, 3) := by decide +kernel
theorem dX5_find_209 : decode cX5_find 209 = .ok (.aload_n 0, 1) := by decide +kernel
theorem dX5_find_210 : decode cX5_find 210 = .ok (.iload 6, 2) := by decide +kernel
theorem dX5_find_212 : decode cX5_find 212 = .ok (.iconst 1, 1) := by decide +kernel
theorem dX5_find_213 : decode cX5_find 213 = .ok (.iadd, 1) := by decide +kernel
theorem dX5_find_214 : decode cX5_find 214 = .ok (.aload_n 0, 1) := by decide +kernel
theorem dX5_find_215 : decode cX5_find 215 = .ok (.getfield 7, 3) := by decide +kernel
theorem dX5_find_218 : decode cX5_find 218 = .ok (.iload 6, 2) := by decide +kernel
theorem dX5_find_220 : decode cX5_find 220 = .ok (.iaload, 1) := by decide +kernel
theorem dX5_find_221 : decode cX5_find 221 = .ok (.lload_n 1, 1) := by decide +kernel
theorem dX5_find_222 : decode cX5_find 222 = .ok (.invokevirtual 158, 3) := by decide +kernel
theorem dX5_find_225 : decode cX5_find 225 = .ok (.ifCond .eq 24, 3) := by decide +kernel
theorem dX5_find_228 : decode cX5_find 228 = .ok (.aload_n 0, 1) := by decide +kernel
theorem dX5_find_229 : decode cX5_find 229 = .ok (.getfield 174, 3) := by decide +kernel
theorem dX5_find_232 : decode cX5_find 232 = .ok (.aload_n 0, 1) := by decide +kernel
theorem dX5_find_233 : decode cX5_find 233 = .ok (.getfield 7, 3) := by decide +kernel
theorem dX5_find_236 : decode cX5_find 236 = .ok (.iload 5, 2) := by decide +kernel
theorem dX5_find_238 : decode cX5_find 238 = .ok (.iaload, 1) := by decide +kernel
theorem dX5_find_239 : decode cX5_find 239 = .ok (.ishr, 1) := by decide +kernel
theorem dX5_find_240 : decode cX5_find 240 = .ok (.iconst 1, 1) := by decide +kernel
theorem dX5_find_241 : decode cX5_find 241 = .ok (.iand, 1) := by decide +kernel
theorem dX5_find_242 : decode cX5_find 242 = .ok (.ifCond .ne 7, 3) := by decide +kernel
theorem dX5_find_245 : decode cX5_find 245 = .ok (.iconst 1, 1) := by decide +kernel
theorem dX5_find_246 : decode cX5_find 246 = .ok (.goto 4, 3) := by decide +kernel
theorem dX5_find_249 : decode cX5_find 249 = .ok (.iconst 0, 1) := by decide +kernel
theorem dX5_find_250 : decode cX5_find 250 = .ok (.istore 7, 2) := by decide +kernel
theorem dX5_find_252 : decode cX5_find 252 = .ok (.iload 7, 2) := by decide +kernel
theorem dX5_find_254 : decode cX5_find 254 = .ok (.ifCond .eq 46, 3) := by decide +kernel
theorem dX5_find_257 : decode cX5_find 257 = .ok (.aload_n 0, 1) := by decide +kernel
theorem dX5_find_258 : decode cX5_find 258 = .ok (.aload_n 0, 1) := by decide +kernel
theorem dX5_find_259 : decode cX5_find 259 = .ok (.getfield 7, 3) := by decide +kernel
theorem dX5_find_262 : decode cX5_find 262 = .ok (.iload 5, 2) := by decide +kernel
theorem dX5_find_264 : decode cX5_find 264 = .ok (.iaload, 1) := by decide +kernel
theorem dX5_find_265 : decode cX5_find 265 = .ok (.invokevirtual 187, 3) := by decide +kernel
theorem dX5_find_268 : decode cX5_find 268 = .ok (.ifCond .eq 32, 3) := by decide +kernel
theorem dX5_find_271 : decode cX5_find 271 = .ok (.aload_n 0, 1) := by decide +kernel
theorem dX5_find_272 : decode cX5_find 272 = .ok (.aload_n 0, 1) := by decide +kernel
theorem dX5_find_273 : decode cX5_find 273 = .ok (.getfield 7, 3) := by decide +kernel
theorem dX5_find_276 : decode cX5_find 276 = .ok (.iload 5, 2) := by decide +kernel
theorem dX5_find_278 : decode cX5_find 278 = .ok (.iaload, 1) := by decide +kernel
theorem dX5_find_279 : decode cX5_find 279 = .ok (.iload 5, 2) := by decide +kernel
theorem dX5_find_281 : decode cX5_find 281 = .ok (.iconst 2, 1) := by decide +kernel
theorem dX5_find_282 : decode cX5_find 282 = .ok (.iadd, 1) := by decide +kernel
theorem dX5_find_283 : decode cX5_find 283 = .ok (.invokevirtual 127, 3) := by decide +kernel
theorem dX5_find_286 : decode cX5_find 286 = .ok (.ifCond .eq 14, 3) := by decide +kernel
theorem dX5_find_289 : decode cX5_find 289 = .ok (.aload_n 0, 1) := by decide +kernel
theorem dX5_find_290 : decode cX5_find 290 = .ok (.aload_n 0, 1) := by decide +kernel
theorem dX5_find_291 : decode cX5_find 291 = .ok (.getfield 7, 3) := by decide +kernel
theorem dX5_find_294 : decode cX5_find 294 = .ok (.iload 5, 2) := by decide +kernel
theorem dX5_find_296 : decode cX5_find 296 = .ok (.iaload, 1) := by decide +kernel
theorem dX5_find_297 : decode cX5_find 297 = .ok (.invokevirtual 177, 3) := by decide +kernel
theorem dX5_find_300 : decode cX5_find 300 = .ok (.goto (-280), 3) := by decide +kernel
theorem dX5_find_303 : decode cX5_find 303 = .ok (.iconst (-1), 1) := by decide +kernel
theorem dX5_find_304 : decode cX5_find 304 = .ok (.ireturn, 1) := by decide +kernel
set_option maxRecDepth 20000 in
theorem ggX5_wrongSeek_X5_isName : GoodIn wsX5_wrongSeek wsX5_isName := goodIn_r _ [4, 5, 6, 3, 7, 8] (by decide +kernel) (by decide +kernel)
set_option maxRecDepth 20000 in
theorem gX5_wrongSeek_X5_isName : GoodIn wsX5_wrongSeek (va_wsS RX5 190 yX5_isName wsX5_isName) := goodIn_app (goodIn_of _ (by decide +kernel)) ggX5_wrongSeek_X5_isName
set_option maxRecDepth 20000 in
theorem ggX5_wrongSeek_X5_stands : GoodIn wsX5_wrongSeek wsX5_stands := goodIn_r _ [12, 13, 14, 15, 16, 3, 17, 18, 19, 20, 21, 22, 23, 36, 37, 38, 39, 40, 41, 42, 43, 44, 45, 46, 47, 48, 49, 50, 51, 52, 53] (by decide +kernel) (by decide +kernel)
set_option maxRecDepth 20000 in
theorem gX5_wrongSeek_X5_stands : GoodIn wsX5_wrongSeek (wsV RX5 136 RX5 yX5_stands wsX5_stands) := goodIn_app (goodIn_of _ (by decide +kernel)) ggX5_wrongSeek_X5_stands
set_option maxRecDepth 20000 in
theorem ggX5_wrongSeek_X5_isFresh : GoodIn wsX5_wrongSeek wsX5_isFresh := goodIn_r _ [27, 9, 10, 11, 3, 12, 13, 14, 15, 16, 17, 18, 19, 20, 21, 22, 23, 28, 29, 30, 31, 32, 33, 34, 35, 36, 37, 38, 39, 40, 41, 42, 43, 44, 45, 46, 47, 48, 49, 50, 51, 52, 53] (by decide +kernel) (by decide +kernel)
set_option maxRecDepth 20000 in
theorem gX5_wrongSeek_X5_isFresh : GoodIn wsX5_wrongSeek (wsV RX5 187 RX5 yX5_isFresh wsX5_isFresh) := goodIn_app (goodIn_of _ (by decide +kernel)) ggX5_wrongSeek_X5_isFresh
theorem dX5_wrongSeek_0 : decode cX5_wrongSeek 0 = .ok (.lload_n 1, 1) := by decide +kernel
theorem dX5_wrongSeek_1 : decode cX5_wrongSeek 1 = .ok (.iload_n 3, 1) := by decide +kernel
theorem dX5_wrongSeek_2 : decode cX5_wrongSeek 2 = .ok (.invokestatic 190, 3) := by decide +kernel
theorem dX5_wrongSeek_5 : decode cX5_wrongSeek 5 = .ok (.ifCond .ne 7, 3) := by decide +kernel
theorem dX5_wrongSeek_8 : decode cX5_wrongSeek 8 = .ok (.iconst 1, 1) := by decide +kernel
theorem dX5_wrongSeek_9 : decode cX5_wrongSeek 9 = .ok (.goto 40, 3) := by decide +kernel
theorem dX5_wrongSeek_12 : decode cX5_wrongSeek 12 = .ok (.aload_n 0, 1) := by decide +kernel
theorem dX5_wrongSeek_13 : decode cX5_wrongSeek 13 = .ok (.iconst 0, 1) := by decide +kernel
theorem dX5_wrongSeek_14 : decode cX5_wrongSeek 14 = .ok (.invokevirtual 136, 3) := by decide +kernel
theorem dX5_wrongSeek_17 : decode cX5_wrongSeek 17 = .ok (.ifCond .eq 27, 3) := by decide +kernel
theorem dX5_wrongSeek_20 : decode cX5_wrongSeek 20 = .ok (.aload_n 0, 1) := by decide +kernel
theorem dX5_wrongSeek_21 : decode cX5_wrongSeek 21 = .ok (.iconst 1, 1) := by decide +kernel
theorem dX5_wrongSeek_22 : decode cX5_wrongSeek 22 = .ok (.invokevirtual 136, 3) := by decide +kernel
theorem dX5_wrongSeek_25 : decode cX5_wrongSeek 25 = .ok (.ifCond .eq 19, 3) := by decide +kernel
theorem dX5_wrongSeek_28 : decode cX5_wrongSeek 28 = .ok (.aload_n 0, 1) := by decide +kernel
theorem dX5_wrongSeek_29 : decode cX5_wrongSeek 29 = .ok (.iconst 2, 1) := by decide +kernel
theorem dX5_wrongSeek_30 : decode cX5_wrongSeek 30 = .ok (.invokevirtual 136, 3) := by decide +kernel
theorem dX5_wrongSeek_33 : decode cX5_wrongSeek 33 = .ok (.ifCond .eq 11, 3) := by decide +kernel
theorem dX5_wrongSeek_36 : decode cX5_wrongSeek 36 = .ok (.aload_n 0, 1) := by decide +kernel
theorem dX5_wrongSeek_37 : decode cX5_wrongSeek 37 = .ok (.iconst 3, 1) := by decide +kernel
theorem dX5_wrongSeek_38 : decode cX5_wrongSeek 38 = .ok (.invokevirtual 187, 3) := by decide +kernel
theorem dX5_wrongSeek_41 : decode cX5_wrongSeek 41 = .ok (.ifCond .ne 7, 3) := by decide +kernel
theorem dX5_wrongSeek_44 : decode cX5_wrongSeek 44 = .ok (.iconst 2, 1) := by decide +kernel
theorem dX5_wrongSeek_45 : decode cX5_wrongSeek 45 = .ok (.goto 4, 3) := by decide +kernel
theorem dX5_wrongSeek_48 : decode cX5_wrongSeek 48 = .ok (.iconst 0, 1) := by decide +kernel
theorem dX5_wrongSeek_49 : decode cX5_wrongSeek 49 = .ok (.ireturn, 1) := by decide +kernel
set_option maxRecDepth 20000 in
theorem ggX5_seek_X5_wrongSeek : GoodIn wsX5_seek wsX5_wrongSeek := goodIn_r _ [6, 7, 8, 5, 9, 10, 11, 12, 13, 14, 15, 16, 17, 18, 19, 20, 21, 22, 23, 24, 25, 26, 27, 28, 29, 30, 31, 32, 33, 34, 35, 36, 37, 38, 39, 40, 132, 133, 134, 135, 136, 137, 138, 139, 140, 141, 142, 143, 144, 145, 146, 147, 148, 149] (by decide +kernel) (by decide +kernel)
set_option maxRecDepth 20000 in
theorem gX5_seek_X5_wrongSeek : GoodIn wsX5_seek (wsV RX5 194 RX5 yX5_wrongSeek wsX5_wrongSeek) := goodIn_app (goodIn_of _ (by decide +kernel)) ggX5_seek_X5_wrongSeek
set_option maxRecDepth 20000 in
theorem ggX5_seek_X5_find : GoodIn wsX5_seek wsX5_find := goodIn_r _ [44, 45, 46, 47, 48, 49, 28, 50, 51, 52, 5, 53, 54, 55, 56, 57, 58, 59, 60, 61, 62, 63, 10, 11, 12, 13, 64, 65, 66, 67, 68, 69, 70, 71, 29, 30, 31, 32, 14, 15, 16, 17, 18, 19, 20, 21, 22, 23, 24, 25, 26, 27, 33, 34, 35, 36, 37, 38, 39, 40, 72, 73, 74, 75, 76, 77, 78, 79, 80, 81, 82, 83, 84, 85, 86, 87, 88, 89, 90, 91, 92, 93, 94, 95, 96, 97, 98, 99, 100, 101, 102, 103, 104, 105, 106, 107, 108, 109, 110, 111, 112, 113, 114, 115, 116, 117, 118, 119, 120, 121, 122, 123, 124, 125, 126, 127, 128, 129, 130, 131, 132, 133, 134, 135, 136, 137, 138, 139, 140, 141, 142, 143, 144, 145, 146, 147, 148, 149] (by decide +kernel) (by decide +kernel)
set_option maxRecDepth 20000 in
theorem gX5_seek_X5_find : GoodIn wsX5_seek (wsV RX5 197 RX5 yX5_find wsX5_find) := goodIn_app (goodIn_of _ (by decide +kernel)) ggX5_seek_X5_find
theorem dX5_seek_0 : decode cX5_seek 0 = .ok (.aload_n 0, 1) := by decide +kernel
theorem dX5_seek_1 : decode cX5_seek 1 = .ok (.aload_n 0, 1) := by decide +kernel
theorem dX5_seek_2 : decode cX5_seek 2 = .ok (.lload_n 1, 1) := by decide +kernel
theorem dX5_seek_3 : decode cX5_seek 3 = .ok (.iload_n 3, 1) := by decide +kernel
theorem dX5_seek_4 : decode cX5_seek 4 = .ok (.invokevirtual 194, 3) := by decide +kernel
theorem dX5_seek_7 : decode cX5_seek 7 = .ok (.putfield 26, 3) := by decide +kernel
theorem dX5_seek_10 : decode cX5_seek 10 = .ok (.aload_n 0, 1) := by decide +kernel
theorem dX5_seek_11 : decode cX5_seek 11 = .ok (.getfield 26, 3) := by decide +kernel
theorem dX5_seek_14 : decode cX5_seek 14 = .ok (.ifCond .le 7, 3) := by decide +kernel
theorem dX5_seek_17 : decode cX5_seek 17 = .ok (.iconst 0, 1) := by decide +kernel
theorem dX5_seek_18 : decode cX5_seek 18 = .ok (.goto 9, 3) := by decide +kernel
theorem dX5_seek_21 : decode cX5_seek 21 = .ok (.aload_n 0, 1) := by decide +kernel
theorem dX5_seek_22 : decode cX5_seek 22 = .ok (.lload_n 1, 1) := by decide +kernel
theorem dX5_seek_23 : decode cX5_seek 23 = .ok (.iload_n 3, 1) := by decide +kernel
theorem dX5_seek_24 : decode cX5_seek 24 = .ok (.invokevirtual 197, 3) := by decide +kernel
theorem dX5_seek_27 : decode cX5_seek 27 = .ok (.ireturn, 1) := by decide +kernel
theorem dX5_visits_0 : decode cX5_visits 0 = .ok (.aload_n 0, 1) := by decide +kernel
theorem dX5_visits_1 : decode cX5_visits 1 = .ok (.iconst 0, 1) := by decide +kernel
theorem dX5_visits_2 : decode cX5_visits 2 = .ok (.putfield 26, 3) := by decide +kernel
theorem dX5_visits_5 : decode cX5_visits 5 = .ok (.aload_n 0, 1) := by decide +kernel
theorem dX5_visits_6 : decode cX5_visits 6 = .ok (.getfield 171, 3) := by decide +kernel
theorem dX5_visits_9 : decode cX5_visits 9 = .ok (.ireturn, 1) := by decide +kernel
set_option maxRecDepth 20000 in
theorem ggX5_install_X5_wrongSeek : GoodIn wsX5_install wsX5_wrongSeek := goodIn_r _ [11, 12, 13, 10, 14, 15, 16, 17, 18, 19, 20, 21, 22, 23, 24, 25, 26, 27, 28, 29, 30, 31, 32, 33, 34, 35, 36, 37, 38, 39, 40, 41, 42, 43, 44, 45, 133, 134, 135, 136, 137, 138, 139, 140, 141, 142, 143, 144, 145, 146, 147, 148, 149, 150] (by decide +kernel) (by decide +kernel)
set_option maxRecDepth 20000 in
theorem gX5_install_X5_wrongSeek : GoodIn wsX5_install (wsV RX5 194 RX5 yX5_wrongSeek wsX5_wrongSeek) := goodIn_app (goodIn_of _ (by decide +kernel)) ggX5_install_X5_wrongSeek
set_option maxRecDepth 20000 in
theorem ggX5_install_X5_find : GoodIn wsX5_install wsX5_find := goodIn_r _ [49, 50, 2, 51, 52, 53, 33, 54, 55, 56, 10, 57, 58, 59, 60, 61, 3, 5, 62, 63, 64, 65, 15, 16, 17, 18, 66, 67, 68, 69, 70, 71, 72, 73, 34, 35, 36, 37, 19, 20, 21, 22, 23, 24, 25, 26, 27, 28, 29, 30, 31, 32, 38, 39, 40, 41, 42, 43, 44, 45, 74, 75, 76, 77, 78, 79, 80, 81, 82, 83, 84, 85, 86, 87, 88, 4, 89, 90, 91, 92, 93, 94, 95, 96, 97, 98, 99, 100, 101, 102, 103, 104, 105, 106, 107, 108, 109, 110, 111, 112, 113, 114, 115, 116, 117, 118, 119, 120, 121, 122, 123, 124, 125, 126, 127, 128, 129, 130, 131, 132, 133, 134, 135, 136, 137, 138, 139, 140, 141, 142, 143, 144, 145, 146, 147, 148, 149, 150] (by decide +kernel) (by decide +kernel)
set_option maxRecDepth 20000 in
theorem gX5_install_X5_find : GoodIn wsX5_install (wsV RX5 197 RX5 yX5_find wsX5_find) := goodIn_app (goodIn_of _ (by decide +kernel)) ggX5_install_X5_find
set_option maxRecDepth 20000 in
theorem ggX5_install_X5_mixOf : GoodIn wsX5_install wsX5_mixOf := goodIn_r _ [130, 131, 33, 132, 133, 134, 135, 136, 137, 138, 139, 140, 141, 142, 143, 144, 145, 146, 147, 148, 149, 150] (by decide +kernel) (by decide +kernel)
set_option maxRecDepth 20000 in
theorem gX5_install_X5_mixOf : GoodIn wsX5_install (wsV RX5 38 RX5 yX5_mixOf wsX5_mixOf) := goodIn_app (goodIn_of _ (by decide +kernel)) ggX5_install_X5_mixOf
theorem dX5_install_0 : decode cX5_install 0 = .ok (.aload_n 0, 1) := by decide +kernel
theorem dX5_install_1 : decode cX5_install 1 = .ok (.aload_n 0, 1) := by decide +kernel
theorem dX5_install_2 : decode cX5_install 2 = .ok (.lload_n 1, 1) := by decide +kernel
theorem dX5_install_3 : decode cX5_install 3 = .ok (.iload_n 3, 1) := by decide +kernel
theorem dX5_install_4 : decode cX5_install 4 = .ok (.invokevirtual 194, 3) := by decide +kernel
theorem dX5_install_7 : decode cX5_install 7 = .ok (.putfield 26, 3) := by decide +kernel
theorem dX5_install_10 : decode cX5_install 10 = .ok (.aload_n 0, 1) := by decide +kernel
theorem dX5_install_11 : decode cX5_install 11 = .ok (.getfield 26, 3) := by decide +kernel
theorem dX5_install_14 : decode cX5_install 14 = .ok (.ifCond .le 5, 3) := by decide +kernel
theorem dX5_install_17 : decode cX5_install 17 = .ok (.iconst 0, 1) := by decide +kernel
theorem dX5_install_18 : decode cX5_install 18 = .ok (.ireturn, 1) := by decide +kernel
theorem dX5_install_19 : decode cX5_install 19 = .ok (.aload_n 0, 1) := by decide +kernel
theorem dX5_install_20 : decode cX5_install 20 = .ok (.getfield 171, 3) := by decide +kernel
theorem dX5_install_23 : decode cX5_install 23 = .ok (.istore 4, 2) := by decide +kernel
theorem dX5_install_25 : decode cX5_install 25 = .ok (.aload_n 0, 1) := by decide +kernel
theorem dX5_install_26 : decode cX5_install 26 = .ok (.lload_n 1, 1) := by decide +kernel
theorem dX5_install_27 : decode cX5_install 27 = .ok (.iload_n 3, 1) := by decide +kernel
theorem dX5_install_28 : decode cX5_install 28 = .ok (.invokevirtual 197, 3) := by decide +kernel
theorem dX5_install_31 : decode cX5_install 31 = .ok (.istore 5, 2) := by decide +kernel
theorem dX5_install_33 : decode cX5_install 33 = .ok (.aload_n 0, 1) := by decide +kernel
theorem dX5_install_34 : decode cX5_install 34 = .ok (.iload 5, 2) := by decide +kernel
theorem dX5_install_36 : decode cX5_install 36 = .ok (.ifCond .ge 7, 3) := by decide +kernel
theorem dX5_install_39 : decode cX5_install 39 = .ok (.iconst 3, 1) := by decide +kernel
theorem dX5_install_40 : decode cX5_install 40 = .ok (.goto 44, 3) := by decide +kernel
theorem dX5_install_43 : decode cX5_install 43 = .ok (.aload_n 0, 1) := by decide +kernel
theorem dX5_install_44 : decode cX5_install 44 = .ok (.getfield 162, 3) := by decide +kernel
theorem dX5_install_47 : decode cX5_install 47 = .ok (.aload_n 0, 1) := by decide +kernel
theorem dX5_install_48 : decode cX5_install 48 = .ok (.getfield 13, 3) := by decide +kernel
theorem dX5_install_51 : decode cX5_install 51 = .ok (.bipush 8, 2) := by decide +kernel
theorem dX5_install_53 : decode cX5_install 53 = .ok (.iaload, 1) := by decide +kernel
theorem dX5_install_54 : decode cX5_install 54 = .ok (.if_icmp .ne 25, 3) := by decide +kernel
theorem dX5_install_57 : decode cX5_install 57 = .ok (.aload_n 0, 1) := by decide +kernel
theorem dX5_install_58 : decode cX5_install 58 = .ok (.getfield 165, 3) := by decide +kernel
theorem dX5_install_61 : decode cX5_install 61 = .ok (.aload_n 0, 1) := by decide +kernel
theorem dX5_install_62 : decode cX5_install 62 = .ok (.sipush 960, 3) := by decide +kernel
theorem dX5_install_65 : decode cX5_install 65 = .ok (.aload_n 0, 1) := by decide +kernel
theorem dX5_install_66 : decode cX5_install 66 = .ok (.getfield 13, 3) := by decide +kernel
theorem dX5_install_69 : decode cX5_install 69 = .ok (.bipush 8, 2) := by decide +kernel
theorem dX5_install_71 : decode cX5_install 71 = .ok (.iaload, 1) := by decide +kernel
theorem dX5_install_72 : decode cX5_install 72 = .ok (.iconst 0, 1) := by decide +kernel
theorem dX5_install_73 : decode cX5_install 73 = .ok (.invokevirtual 38, 3) := by decide +kernel
theorem dX5_install_76 : decode cX5_install 76 = .ok (.if_icmp .eq 7, 3) := by decide +kernel
theorem dX5_install_79 : decode cX5_install 79 = .ok (.iconst 4, 1) := by decide +kernel
theorem dX5_install_80 : decode cX5_install 80 = .ok (.goto 4, 3) := by decide +kernel
theorem dX5_install_83 : decode cX5_install 83 = .ok (.iconst 0, 1) := by decide +kernel
theorem dX5_install_84 : decode cX5_install 84 = .ok (.putfield 26, 3) := by decide +kernel
theorem dX5_install_87 : decode cX5_install 87 = .ok (.aload_n 0, 1) := by decide +kernel
theorem dX5_install_88 : decode cX5_install 88 = .ok (.getfield 26, 3) := by decide +kernel
theorem dX5_install_91 : decode cX5_install 91 = .ok (.ifCond .le 11, 3) := by decide +kernel
theorem dX5_install_94 : decode cX5_install 94 = .ok (.aload_n 0, 1) := by decide +kernel
theorem dX5_install_95 : decode cX5_install 95 = .ok (.iload 4, 2) := by decide +kernel
theorem dX5_install_97 : decode cX5_install 97 = .ok (.putfield 171, 3) := by decide +kernel
theorem dX5_install_100 : decode cX5_install 100 = .ok (.iconst 0, 1) := by decide +kernel
theorem dX5_install_101 : decode cX5_install 101 = .ok (.ireturn, 1) := by decide +kernel
theorem dX5_install_102 : decode cX5_install 102 = .ok (.aload_n 0, 1) := by decide +kernel
theorem dX5_install_103 : decode cX5_install 103 = .ok (.dup, 1) := by decide +kernel
theorem dX5_install_104 : decode cX5_install 104 = .ok (.getfield 200, 3) := by decide +kernel
theorem dX5_install_107 : decode cX5_install 107 = .ok (.iconst 1, 1) := by decide +kernel
theorem dX5_install_108 : decode cX5_install 108 = .ok (.iadd, 1) := by decide +kernel
theorem dX5_install_109 : decode cX5_install 109 = .ok (.putfield 200, 3) := by decide +kernel
theorem dX5_install_112 : decode cX5_install 112 = .ok (.iload 5, 2) := by decide +kernel
theorem dX5_install_114 : decode cX5_install 114 = .ok (.ireturn, 1) := by decide +kernel
theorem dX5_installed_0 : decode cX5_installed 0 = .ok (.aload_n 0, 1) := by decide +kernel
theorem dX5_installed_1 : decode cX5_installed 1 = .ok (.iconst 0, 1) := by decide +kernel
theorem dX5_installed_2 : decode cX5_installed 2 = .ok (.putfield 26, 3) := by decide +kernel
theorem dX5_installed_5 : decode cX5_installed 5 = .ok (.aload_n 0, 1) := by decide +kernel
theorem dX5_installed_6 : decode cX5_installed 6 = .ok (.getfield 200, 3) := by decide +kernel
theorem dX5_installed_9 : decode cX5_installed 9 = .ok (.ireturn, 1) := by decide +kernel
abbrev vwCl : List vw_C := [(RX0, TX0, 15), (RX1, TX1, 2), (RX2, TX2, 7), (RX3, TX3, 3), (RX4, TX4, 7), (RX5, TX5, 18)]
end
section
theorem zz_last : True := trivial
end
