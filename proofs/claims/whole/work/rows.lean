section
-- ===== PART A: goes FIRST, ahead of the names: the tables' words, and 'selects' of the private methods out of them =====
/-- a private method of a class that the tables say can be made, by its rows of tables_1 -/
def lw_okq (q : MethodName × Nat) : Prop := (q.1.cls ≠ "java/lang/invoke/MethodHandle" ∧ q.1.cls ≠ "java/lang/invoke/VarHandle") ∧ Cond.instantiable q.1.cls q.2 ∈ tables_1 ∧ Cond.privateMethod q.1 ∈ tables_1 ∧ Cond.instanceMethod q.1 ∈ tables_1
theorem lw_p0 : lw_okq (⟨"VersionTrans", "leastKept", "()I"⟩, 15) := ⟨⟨by decide +kernel, by decide +kernel⟩, List.mem_of_getElem? (i := 12) (by decide +kernel), List.mem_of_getElem? (i := 76) (by decide +kernel), List.mem_of_getElem? (i := 77) (by decide +kernel)⟩
theorem lw_p1 : lw_okq (⟨"VersionTrans", "dropOldRows", "(II)I"⟩, 15) := ⟨⟨by decide +kernel, by decide +kernel⟩, List.mem_of_getElem? (i := 12) (by decide +kernel), List.mem_of_getElem? (i := 87) (by decide +kernel), List.mem_of_getElem? (i := 88) (by decide +kernel)⟩
theorem lw_p2 : lw_okq (⟨"VersionTrans", "cutBelow", "(ILVersionTrans$Row;)V"⟩, 15) := ⟨⟨by decide +kernel, by decide +kernel⟩, List.mem_of_getElem? (i := 12) (by decide +kernel), List.mem_of_getElem? (i := 94) (by decide +kernel), List.mem_of_getElem? (i := 95) (by decide +kernel)⟩
theorem lw_p3 : lw_okq (⟨"VersionTrans", "enter", "(ZI)I"⟩, 15) := ⟨⟨by decide +kernel, by decide +kernel⟩, List.mem_of_getElem? (i := 12) (by decide +kernel), List.mem_of_getElem? (i := 122) (by decide +kernel), List.mem_of_getElem? (i := 123) (by decide +kernel)⟩
theorem lw_p4 : lw_okq (⟨"java/lang/Throwable", "fillInStackTrace", "(I)Ljava/lang/Throwable;"⟩, 6) := ⟨⟨by decide +kernel, by decide +kernel⟩, List.mem_of_getElem? (i := 163) (by decide +kernel), List.mem_of_getElem? (i := 161) (by decide +kernel), List.mem_of_getElem? (i := 162) (by decide +kernel)⟩
theorem lw_p5 : lw_okq (⟨"VersionTrans", "requireVersion", "(I)V"⟩, 15) := ⟨⟨by decide +kernel, by decide +kernel⟩, List.mem_of_getElem? (i := 12) (by decide +kernel), List.mem_of_getElem? (i := 245) (by decide +kernel), List.mem_of_getElem? (i := 246) (by decide +kernel)⟩
theorem lw_p6 : lw_okq (⟨"VersionTrans", "known", "(I)LVersionTrans$Transaction;"⟩, 15) := ⟨⟨by decide +kernel, by decide +kernel⟩, List.mem_of_getElem? (i := 12) (by decide +kernel), List.mem_of_getElem? (i := 272) (by decide +kernel), List.mem_of_getElem? (i := 273) (by decide +kernel)⟩
theorem lw_p7 : lw_okq (⟨"VersionTrans", "tryWrite", "(LVersionTrans$Transaction;IZ)V"⟩, 15) := ⟨⟨by decide +kernel, by decide +kernel⟩, List.mem_of_getElem? (i := 12) (by decide +kernel), List.mem_of_getElem? (i := 285) (by decide +kernel), List.mem_of_getElem? (i := 286) (by decide +kernel)⟩
theorem lw_p8 : lw_okq (⟨"VersionTrans", "isChangedSince", "(II)Z"⟩, 15) := ⟨⟨by decide +kernel, by decide +kernel⟩, List.mem_of_getElem? (i := 12) (by decide +kernel), List.mem_of_getElem? (i := 289) (by decide +kernel), List.mem_of_getElem? (i := 290) (by decide +kernel)⟩
theorem lw_p9 : lw_okq (⟨"VersionTrans", "beginToWait", "(LVersionTrans$Transaction;IZ)V"⟩, 15) := ⟨⟨by decide +kernel, by decide +kernel⟩, List.mem_of_getElem? (i := 12) (by decide +kernel), List.mem_of_getElem? (i := 293) (by decide +kernel), List.mem_of_getElem? (i := 294) (by decide +kernel)⟩
theorem lw_p10 : lw_okq (⟨"VersionTrans", "sizeOfRingThrough", "(LVersionTrans$Transaction;)I"⟩, 15) := ⟨⟨by decide +kernel, by decide +kernel⟩, List.mem_of_getElem? (i := 12) (by decide +kernel), List.mem_of_getElem? (i := 297) (by decide +kernel), List.mem_of_getElem? (i := 298) (by decide +kernel)⟩
theorem lw_p11 : lw_okq (⟨"VersionTrans", "keepRing", "(LVersionTrans$Transaction;I)V"⟩, 15) := ⟨⟨by decide +kernel, by decide +kernel⟩, List.mem_of_getElem? (i := 12) (by decide +kernel), List.mem_of_getElem? (i := 301) (by decide +kernel), List.mem_of_getElem? (i := 302) (by decide +kernel)⟩
theorem lw_p12 : lw_okq (⟨"VersionTrans", "addRingMember", "(I)V"⟩, 15) := ⟨⟨by decide +kernel, by decide +kernel⟩, List.mem_of_getElem? (i := 12) (by decide +kernel), List.mem_of_getElem? (i := 305) (by decide +kernel), List.mem_of_getElem? (i := 306) (by decide +kernel)⟩
theorem lw_p13 : lw_okq (⟨"VersionTrans", "finish", "(LVersionTrans$Transaction;I)V"⟩, 15) := ⟨⟨by decide +kernel, by decide +kernel⟩, List.mem_of_getElem? (i := 12) (by decide +kernel), List.mem_of_getElem? (i := 309) (by decide +kernel), List.mem_of_getElem? (i := 310) (by decide +kernel)⟩
theorem lw_p14 : lw_okq (⟨"VersionTrans", "queueThoseWaitingFor", "(LVersionTrans$Transaction;)V"⟩, 15) := ⟨⟨by decide +kernel, by decide +kernel⟩, List.mem_of_getElem? (i := 12) (by decide +kernel), List.mem_of_getElem? (i := 313) (by decide +kernel), List.mem_of_getElem? (i := 314) (by decide +kernel)⟩
theorem lw_p15 : lw_okq (⟨"VersionTrans", "firstWaitingFor", "(LVersionTrans$Transaction;I)LVersionTrans$Transaction;"⟩, 15) := ⟨⟨by decide +kernel, by decide +kernel⟩, List.mem_of_getElem? (i := 12) (by decide +kernel), List.mem_of_getElem? (i := 317) (by decide +kernel), List.mem_of_getElem? (i := 318) (by decide +kernel)⟩
def lw_privs_1 : List (MethodName × Nat) := [(⟨"VersionTrans", "leastKept", "()I"⟩, 15), (⟨"VersionTrans", "dropOldRows", "(II)I"⟩, 15), (⟨"VersionTrans", "cutBelow", "(ILVersionTrans$Row;)V"⟩, 15), (⟨"VersionTrans", "enter", "(ZI)I"⟩, 15), (⟨"java/lang/Throwable", "fillInStackTrace", "(I)Ljava/lang/Throwable;"⟩, 6), (⟨"VersionTrans", "requireVersion", "(I)V"⟩, 15), (⟨"VersionTrans", "known", "(I)LVersionTrans$Transaction;"⟩, 15), (⟨"VersionTrans", "tryWrite", "(LVersionTrans$Transaction;IZ)V"⟩, 15), (⟨"VersionTrans", "isChangedSince", "(II)Z"⟩, 15), (⟨"VersionTrans", "beginToWait", "(LVersionTrans$Transaction;IZ)V"⟩, 15), (⟨"VersionTrans", "sizeOfRingThrough", "(LVersionTrans$Transaction;)I"⟩, 15), (⟨"VersionTrans", "keepRing", "(LVersionTrans$Transaction;I)V"⟩, 15), (⟨"VersionTrans", "addRingMember", "(I)V"⟩, 15), (⟨"VersionTrans", "finish", "(LVersionTrans$Transaction;I)V"⟩, 15), (⟨"VersionTrans", "queueThoseWaitingFor", "(LVersionTrans$Transaction;)V"⟩, 15), (⟨"VersionTrans", "firstWaitingFor", "(LVersionTrans$Transaction;I)LVersionTrans$Transaction;"⟩, 15)]
theorem lw_r1 : ∀ q ∈ lw_privs_1, lw_okq q := List.forall_mem_cons.mpr ⟨lw_p0, List.forall_mem_cons.mpr ⟨lw_p1, List.forall_mem_cons.mpr ⟨lw_p2, List.forall_mem_cons.mpr ⟨lw_p3, List.forall_mem_cons.mpr ⟨lw_p4, List.forall_mem_cons.mpr ⟨lw_p5, List.forall_mem_cons.mpr ⟨lw_p6, List.forall_mem_cons.mpr ⟨lw_p7, List.forall_mem_cons.mpr ⟨lw_p8, List.forall_mem_cons.mpr ⟨lw_p9, List.forall_mem_cons.mpr ⟨lw_p10, List.forall_mem_cons.mpr ⟨lw_p11, List.forall_mem_cons.mpr ⟨lw_p12, List.forall_mem_cons.mpr ⟨lw_p13, List.forall_mem_cons.mpr ⟨lw_p14, List.forall_mem_cons.mpr ⟨lw_p15, fun _ h => absurd h List.not_mem_nil⟩⟩⟩⟩⟩⟩⟩⟩⟩⟩⟩⟩⟩⟩⟩⟩
theorem lw_p16 : lw_okq (⟨"VersionTrans", "addToQueue", "(LVersionTrans$Transaction;)V"⟩, 15) := ⟨⟨by decide +kernel, by decide +kernel⟩, List.mem_of_getElem? (i := 12) (by decide +kernel), List.mem_of_getElem? (i := 321) (by decide +kernel), List.mem_of_getElem? (i := 322) (by decide +kernel)⟩
theorem lw_p17 : lw_okq (⟨"VersionTrans", "retryQueued", "()V"⟩, 15) := ⟨⟨by decide +kernel, by decide +kernel⟩, List.mem_of_getElem? (i := 12) (by decide +kernel), List.mem_of_getElem? (i := 325) (by decide +kernel), List.mem_of_getElem? (i := 326) (by decide +kernel)⟩
theorem lw_p18 : lw_okq (⟨"VersionTrans", "isThere", "(II)Z"⟩, 15) := ⟨⟨by decide +kernel, by decide +kernel⟩, List.mem_of_getElem? (i := 12) (by decide +kernel), List.mem_of_getElem? (i := 354) (by decide +kernel), List.mem_of_getElem? (i := 355) (by decide +kernel)⟩
theorem lw_p19 : lw_okq (⟨"VersionTrans", "isRefused", "(LVersionTrans$Transaction;)Z"⟩, 15) := ⟨⟨by decide +kernel, by decide +kernel⟩, List.mem_of_getElem? (i := 12) (by decide +kernel), List.mem_of_getElem? (i := 376) (by decide +kernel), List.mem_of_getElem? (i := 377) (by decide +kernel)⟩
theorem lw_p20 : lw_okq (⟨"VersionTrans", "leastChangedNote", "(LVersionTrans$Transaction;)I"⟩, 15) := ⟨⟨by decide +kernel, by decide +kernel⟩, List.mem_of_getElem? (i := 12) (by decide +kernel), List.mem_of_getElem? (i := 380) (by decide +kernel), List.mem_of_getElem? (i := 381) (by decide +kernel)⟩
theorem lw_p21 : lw_okq (⟨"VersionTrans", "isGraphChangedSince", "(II)Z"⟩, 15) := ⟨⟨by decide +kernel, by decide +kernel⟩, List.mem_of_getElem? (i := 12) (by decide +kernel), List.mem_of_getElem? (i := 384) (by decide +kernel), List.mem_of_getElem? (i := 385) (by decide +kernel)⟩
theorem lw_p22 : lw_okq (⟨"VersionTrans", "giveUp", "(LVersionTrans$Transaction;)I"⟩, 15) := ⟨⟨by decide +kernel, by decide +kernel⟩, List.mem_of_getElem? (i := 12) (by decide +kernel), List.mem_of_getElem? (i := 388) (by decide +kernel), List.mem_of_getElem? (i := 389) (by decide +kernel)⟩
theorem lw_p23 : lw_okq (⟨"VersionTrans", "makeVersion", "(LVersionTrans$Transaction;)I"⟩, 15) := ⟨⟨by decide +kernel, by decide +kernel⟩, List.mem_of_getElem? (i := 12) (by decide +kernel), List.mem_of_getElem? (i := 392) (by decide +kernel), List.mem_of_getElem? (i := 393) (by decide +kernel)⟩
theorem lw_p24 : lw_okq (⟨"VersionTrans", "addChanges", "(LVersionTrans$Transaction;I)I"⟩, 15) := ⟨⟨by decide +kernel, by decide +kernel⟩, List.mem_of_getElem? (i := 12) (by decide +kernel), List.mem_of_getElem? (i := 396) (by decide +kernel), List.mem_of_getElem? (i := 397) (by decide +kernel)⟩
theorem lw_p25 : lw_okq (⟨"VersionTrans", "countOwnWrites", "(LVersionTrans$Transaction;)I"⟩, 15) := ⟨⟨by decide +kernel, by decide +kernel⟩, List.mem_of_getElem? (i := 12) (by decide +kernel), List.mem_of_getElem? (i := 425) (by decide +kernel), List.mem_of_getElem? (i := 426) (by decide +kernel)⟩
theorem lw_p26 : lw_okq (⟨"VersionTrans", "requirePinned", "(I)V"⟩, 15) := ⟨⟨by decide +kernel, by decide +kernel⟩, List.mem_of_getElem? (i := 12) (by decide +kernel), List.mem_of_getElem? (i := 443) (by decide +kernel), List.mem_of_getElem? (i := 444) (by decide +kernel)⟩
theorem lw_p27 : lw_okq (⟨"VersionTransModel", "leastKept", "()I"⟩, 27) := ⟨⟨by decide +kernel, by decide +kernel⟩, List.mem_of_getElem? (i := 477) (by decide +kernel), List.mem_of_getElem? (i := 569) (by decide +kernel), List.mem_of_getElem? (i := 570) (by decide +kernel)⟩
theorem lw_p28 : lw_okq (⟨"VersionTransModel", "isLive", "(I)Z"⟩, 27) := ⟨⟨by decide +kernel, by decide +kernel⟩, List.mem_of_getElem? (i := 477) (by decide +kernel), List.mem_of_getElem? (i := 573) (by decide +kernel), List.mem_of_getElem? (i := 574) (by decide +kernel)⟩
theorem lw_p29 : lw_okq (⟨"VersionTransModel", "isTellable", "(I)Z"⟩, 27) := ⟨⟨by decide +kernel, by decide +kernel⟩, List.mem_of_getElem? (i := 477) (by decide +kernel), List.mem_of_getElem? (i := 589) (by decide +kernel), List.mem_of_getElem? (i := 590) (by decide +kernel)⟩
theorem lw_p30 : lw_okq (⟨"VersionTransModel", "fails", "(ZZ)Z"⟩, 27) := ⟨⟨by decide +kernel, by decide +kernel⟩, List.mem_of_getElem? (i := 477) (by decide +kernel), List.mem_of_getElem? (i := 596) (by decide +kernel), List.mem_of_getElem? (i := 597) (by decide +kernel)⟩
theorem lw_p31 : lw_okq (⟨"VersionTransModel", "isThere", "(II)Z"⟩, 27) := ⟨⟨by decide +kernel, by decide +kernel⟩, List.mem_of_getElem? (i := 477) (by decide +kernel), List.mem_of_getElem? (i := 600) (by decide +kernel), List.mem_of_getElem? (i := 601) (by decide +kernel)⟩
def lw_privs_2 : List (MethodName × Nat) := [(⟨"VersionTrans", "addToQueue", "(LVersionTrans$Transaction;)V"⟩, 15), (⟨"VersionTrans", "retryQueued", "()V"⟩, 15), (⟨"VersionTrans", "isThere", "(II)Z"⟩, 15), (⟨"VersionTrans", "isRefused", "(LVersionTrans$Transaction;)Z"⟩, 15), (⟨"VersionTrans", "leastChangedNote", "(LVersionTrans$Transaction;)I"⟩, 15), (⟨"VersionTrans", "isGraphChangedSince", "(II)Z"⟩, 15), (⟨"VersionTrans", "giveUp", "(LVersionTrans$Transaction;)I"⟩, 15), (⟨"VersionTrans", "makeVersion", "(LVersionTrans$Transaction;)I"⟩, 15), (⟨"VersionTrans", "addChanges", "(LVersionTrans$Transaction;I)I"⟩, 15), (⟨"VersionTrans", "countOwnWrites", "(LVersionTrans$Transaction;)I"⟩, 15), (⟨"VersionTrans", "requirePinned", "(I)V"⟩, 15), (⟨"VersionTransModel", "leastKept", "()I"⟩, 27), (⟨"VersionTransModel", "isLive", "(I)Z"⟩, 27), (⟨"VersionTransModel", "isTellable", "(I)Z"⟩, 27), (⟨"VersionTransModel", "fails", "(ZZ)Z"⟩, 27), (⟨"VersionTransModel", "isThere", "(II)Z"⟩, 27)]
theorem lw_r2 : ∀ q ∈ lw_privs_2, lw_okq q := List.forall_mem_cons.mpr ⟨lw_p16, List.forall_mem_cons.mpr ⟨lw_p17, List.forall_mem_cons.mpr ⟨lw_p18, List.forall_mem_cons.mpr ⟨lw_p19, List.forall_mem_cons.mpr ⟨lw_p20, List.forall_mem_cons.mpr ⟨lw_p21, List.forall_mem_cons.mpr ⟨lw_p22, List.forall_mem_cons.mpr ⟨lw_p23, List.forall_mem_cons.mpr ⟨lw_p24, List.forall_mem_cons.mpr ⟨lw_p25, List.forall_mem_cons.mpr ⟨lw_p26, List.forall_mem_cons.mpr ⟨lw_p27, List.forall_mem_cons.mpr ⟨lw_p28, List.forall_mem_cons.mpr ⟨lw_p29, List.forall_mem_cons.mpr ⟨lw_p30, List.forall_mem_cons.mpr ⟨lw_p31, fun _ h => absurd h List.not_mem_nil⟩⟩⟩⟩⟩⟩⟩⟩⟩⟩⟩⟩⟩⟩⟩⟩
theorem lw_p32 : lw_okq (⟨"VersionTransModel", "rowOf", "(II)I"⟩, 27) := ⟨⟨by decide +kernel, by decide +kernel⟩, List.mem_of_getElem? (i := 477) (by decide +kernel), List.mem_of_getElem? (i := 604) (by decide +kernel), List.mem_of_getElem? (i := 605) (by decide +kernel)⟩
theorem lw_p33 : lw_okq (⟨"VersionTransModel", "start", "(ZI)I"⟩, 27) := ⟨⟨by decide +kernel, by decide +kernel⟩, List.mem_of_getElem? (i := 477) (by decide +kernel), List.mem_of_getElem? (i := 624) (by decide +kernel), List.mem_of_getElem? (i := 625) (by decide +kernel)⟩
theorem lw_p34 : lw_okq (⟨"VersionTransModel", "isTransaction", "(I)Z"⟩, 27) := ⟨⟨by decide +kernel, by decide +kernel⟩, List.mem_of_getElem? (i := 477) (by decide +kernel), List.mem_of_getElem? (i := 636) (by decide +kernel), List.mem_of_getElem? (i := 637) (by decide +kernel)⟩
theorem lw_p35 : lw_okq (⟨"VersionTransModel", "canWrite", "(I)Z"⟩, 27) := ⟨⟨by decide +kernel, by decide +kernel⟩, List.mem_of_getElem? (i := 477) (by decide +kernel), List.mem_of_getElem? (i := 652) (by decide +kernel), List.mem_of_getElem? (i := 653) (by decide +kernel)⟩
theorem lw_p36 : lw_okq (⟨"VersionTransModel", "write", "(IIZ)V"⟩, 27) := ⟨⟨by decide +kernel, by decide +kernel⟩, List.mem_of_getElem? (i := 477) (by decide +kernel), List.mem_of_getElem? (i := 660) (by decide +kernel), List.mem_of_getElem? (i := 661) (by decide +kernel)⟩
theorem lw_p37 : lw_okq (⟨"VersionTransModel", "hasAbove", "(II)Z"⟩, 27) := ⟨⟨by decide +kernel, by decide +kernel⟩, List.mem_of_getElem? (i := 477) (by decide +kernel), List.mem_of_getElem? (i := 664) (by decide +kernel), List.mem_of_getElem? (i := 665) (by decide +kernel)⟩
theorem lw_p38 : lw_okq (⟨"VersionTransModel", "lookForRing", "(I)V"⟩, 27) := ⟨⟨by decide +kernel, by decide +kernel⟩, List.mem_of_getElem? (i := 477) (by decide +kernel), List.mem_of_getElem? (i := 668) (by decide +kernel), List.mem_of_getElem? (i := 669) (by decide +kernel)⟩
theorem lw_p39 : lw_okq (⟨"VersionTransModel", "takeRing", "(II)V"⟩, 27) := ⟨⟨by decide +kernel, by decide +kernel⟩, List.mem_of_getElem? (i := 477) (by decide +kernel), List.mem_of_getElem? (i := 672) (by decide +kernel), List.mem_of_getElem? (i := 673) (by decide +kernel)⟩
theorem lw_p40 : lw_okq (⟨"VersionTransModel", "end", "(II)V"⟩, 27) := ⟨⟨by decide +kernel, by decide +kernel⟩, List.mem_of_getElem? (i := 477) (by decide +kernel), List.mem_of_getElem? (i := 676) (by decide +kernel), List.mem_of_getElem? (i := 677) (by decide +kernel)⟩
theorem lw_p41 : lw_okq (⟨"VersionTransModel", "goOn", "()V"⟩, 27) := ⟨⟨by decide +kernel, by decide +kernel⟩, List.mem_of_getElem? (i := 477) (by decide +kernel), List.mem_of_getElem? (i := 680) (by decide +kernel), List.mem_of_getElem? (i := 681) (by decide +kernel)⟩
theorem lw_p42 : lw_okq (⟨"VersionTransModel", "writes", "(I)I"⟩, 27) := ⟨⟨by decide +kernel, by decide +kernel⟩, List.mem_of_getElem? (i := 477) (by decide +kernel), List.mem_of_getElem? (i := 688) (by decide +kernel), List.mem_of_getElem? (i := 689) (by decide +kernel)⟩
theorem lw_p43 : lw_okq (⟨"VersionTransModel", "changed", "(I)I"⟩, 27) := ⟨⟨by decide +kernel, by decide +kernel⟩, List.mem_of_getElem? (i := 477) (by decide +kernel), List.mem_of_getElem? (i := 696) (by decide +kernel), List.mem_of_getElem? (i := 697) (by decide +kernel)⟩
def lw_privs_3 : List (MethodName × Nat) := [(⟨"VersionTransModel", "rowOf", "(II)I"⟩, 27), (⟨"VersionTransModel", "start", "(ZI)I"⟩, 27), (⟨"VersionTransModel", "isTransaction", "(I)Z"⟩, 27), (⟨"VersionTransModel", "canWrite", "(I)Z"⟩, 27), (⟨"VersionTransModel", "write", "(IIZ)V"⟩, 27), (⟨"VersionTransModel", "hasAbove", "(II)Z"⟩, 27), (⟨"VersionTransModel", "lookForRing", "(I)V"⟩, 27), (⟨"VersionTransModel", "takeRing", "(II)V"⟩, 27), (⟨"VersionTransModel", "end", "(II)V"⟩, 27), (⟨"VersionTransModel", "goOn", "()V"⟩, 27), (⟨"VersionTransModel", "writes", "(I)I"⟩, 27), (⟨"VersionTransModel", "changed", "(I)I"⟩, 27)]
theorem lw_r3 : ∀ q ∈ lw_privs_3, lw_okq q := List.forall_mem_cons.mpr ⟨lw_p32, List.forall_mem_cons.mpr ⟨lw_p33, List.forall_mem_cons.mpr ⟨lw_p34, List.forall_mem_cons.mpr ⟨lw_p35, List.forall_mem_cons.mpr ⟨lw_p36, List.forall_mem_cons.mpr ⟨lw_p37, List.forall_mem_cons.mpr ⟨lw_p38, List.forall_mem_cons.mpr ⟨lw_p39, List.forall_mem_cons.mpr ⟨lw_p40, List.forall_mem_cons.mpr ⟨lw_p41, List.forall_mem_cons.mpr ⟨lw_p42, List.forall_mem_cons.mpr ⟨lw_p43, fun _ h => absurd h List.not_mem_nil⟩⟩⟩⟩⟩⟩⟩⟩⟩⟩⟩⟩
def lw_privs : List (MethodName × Nat) := lw_privs_1 ++ (lw_privs_2 ++ (lw_privs_3))
def lw_tbl : List Cond := k2_sels lw_privs ++ tables_1
theorem lw_privs_ok : ∀ q ∈ lw_privs, lw_okq q := by
  show ∀ q ∈ lw_privs_1 ++ (lw_privs_2 ++ (lw_privs_3)), lw_okq q
  exact List.forall_mem_append.mpr ⟨lw_r1, List.forall_mem_append.mpr ⟨lw_r2, lw_r3⟩⟩
-- ===== end of PART A; then your names; then what follows =====
end
section
/-! ===== BEGIN words of one list among another's, by their places ===== -/
theorem goodIn_r {big : List Cond} (ws : List Cond) (ps : List Nat) (hp : ws = ps.filterMap (fun i => big[i]?)) (h : ws.all goodWord = true) : GoodIn big ws := by
  intro w hw
  have h1 := List.all_eq_true.mp h w hw
  rw [hp] at hw
  obtain ⟨i, -, hi⟩ := List.mem_filterMap.mp hw
  have hm : w ∈ big := by first | exact List.mem_of_getElem? hi | exact List.getElem?_mem hi
  exact ⟨hm, good_of_word h1⟩
theorem goodIn_app {big a b : List Cond} (ha : GoodIn big a) (hb : GoodIn big b) : GoodIn big (a ++ b) := fun w h => (List.mem_append.mp h).elim (ha w) (hb w)
theorem goodIn_ca {big a b : List Cond} {c : Cond} (ha : GoodIn big (c :: a)) (hb : GoodIn big b) : GoodIn big (c :: (a ++ b)) := fun w h => (List.mem_cons.mp h).elim (fun e => ha w (List.mem_cons.mpr (Or.inl e))) (fun h => (List.mem_append.mp h).elim (fun h => ha w (List.mem_cons.mpr (Or.inr h))) (hb w))
theorem goodIn_sub {big ws : List Cond} (hm : ∀ w ∈ ws, w ∈ big) (h : ws.all goodWord = true) : GoodIn big ws := fun w hw => ⟨hm w hw, good_of_word (List.all_eq_true.mp h w hw)⟩
/-! ===== END ===== -/

/-! ===== BEGIN exceptions that leave a method, and their catching by the caller (launches without stack traces) ===== -/
section VXA
/-! The laws vx_back, vx_callV, vx_callS, vx_callSW, vx_throw0, vx_throwS follow proofs of the library, with one case more: JvmDerived/Free/Laws.lean (Back.of_free), Shelf42/LK1.lean (callV, callS), Shelf/KitTraced.lean (throwNew0V, throwNewS). -/
/-- where a method has thrown q: the class by its name, the cell, what was written, the world -/
def vx_T (XC : String → State → State → Prop) (st : State) (q : Addr) (t : State) (mc ms : Nat) (free : Addr → Prop) : Prop :=
  ∃ (E : String) (ce : Cell) (L : List Loc), XC E st t ∧ t.heap[q]? = some ce ∧ ce.vm = .none ∧ st.vm.findClass E = some ce.cls ∧ st.WarmedH t.vm ∧ st.sameButNew ({ t with vm := st.vm } : State) L mc ms ∧ ∀ z ∈ L, free z.base
def vx_Q (Qc : Array Value → State → Outcome → State → Prop) (XC : String → State → State → Prop) (mc ms : Nat) (free : Addr → Prop) : Array Value → State → Outcome → State → Prop := fun a st o t =>
  (Qc a st o t ∧ ∃ L, FrameEnd st o t L mc ms ∧ ∀ q ∈ L, free q.base) ∨ ∃ q, o = .threw q ∧ vx_T XC st q t mc ms free
/-- a callee that returns or throws -/
def vx_Met (l : Launch) (y : MethodName) (ws : List Cond) (rm : Room) (Pc : Array Value → State → Prop) (Qc : Array Value → State → Outcome → State → Prop) (XC : String → State → State → Prop) (mc ms : Nat) (free : Addr → Prop) : Prop :=
  MetFree l y (headSpec ws rm) Pc (fun _ _ _ _ _ => True) (vx_Q Qc XC mc ms free)
def vx_Post (XC : String → State → State → Prop) (mc ms : Nat) (free : Addr → Prop) : Pt → Array Value → Addr → Pt → Prop := fun A a q B =>
  ∃ (g : JFrame) (mk : MethodId) (t : State) (L : List Loc) (E : String) (ce : Cell), B.U.heap = t.heap ∧ B.U.vm = t.vm ∧ XC E (A.U.calling g mk a) t ∧ t.heap[q]? = some ce ∧ ce.vm = .none ∧ A.U.vm.findClass E = some ce.cls ∧ B.locs = A.locs ++ L ∧ (∀ z ∈ L, free z.base) ∧ B.cells = A.cells + mc ∧ B.slots = A.slots + ms
def vx_Back (l : Launch) (R : Room) (p : Program) (e : Env) (below : List Frame) (s : State) (sargs : Array Value) (y : MethodName) (len W9 : Nat)
    (Pre : Pt → Array Value → Prop) (Post : Pt → Array Value → Option Value → Pt → Prop) (PostX : Pt → Array Value → Addr → Pt → Prop) : Prop :=
  ∀ (m : MethodId) (meth : Method) (c : Code) (A : Pt) (g : JFrame) (ig : Instr) (mk : MethodId) (a : Array Value),
    Stand p l e R s m sargs below meth c A.U A.locs A.cells A.slots → g.method = m → g.locals.size = c.maxLocals → decode c.code g.pc = .ok (ig, len) →
    2 * g.monitorRoom + (g.stack.map fun v => v.category).sum ≤ W9 → A.U.methodNamed? y = some mk → Pre A a →
    (∃ (v : Option Value) (B : Pt), Stand p l e R s m sargs below meth c B.U B.locs B.cells B.slots ∧ Post A a v B ∧
      Steps p.tables e below (doInvoke e (A.U.setTop g) [] mk a).1 (B.U.setTop { g with pc := g.pc + len, stack := v.toList ++ g.stack })) ∨
    (∃ (q : Addr) (B : Pt), Stand p l e R s m sargs below meth c B.U B.locs B.cells B.slots ∧ PostX A a q B ∧
      Steps p.tables e below (doInvoke e (A.U.setTop g) [] mk a).1 ((B.U.setTop g).pushFrame (.throwing q)))
section Payer
variable {l : Launch} {R : Room} {p : Program} {e : Env} {below : List Frame} {s : State} {sargs : Array Value} {y : MethodName} {len W9 : Nat}
theorem vx_back {ws : List Cond} {rm : Room} {Pc : Array Value → State → Prop} {Qc : Array Value → State → Outcome → State → Prop} {XC : String → State → State → Prop} {mc ms : Nat} {free : Addr → Prop} {bytes : ByteArray} {maxL : Nat} {ret : Option FieldType}
    (hM : vx_Met l y ws rm Pc Qc XC mc ms free) (hblind : FrameBlind Pc) (hrc : rm.cells = mc) (hrs : rm.slots = ms)
    (hframes : rm.frames + 1 ≤ R.frames) (hlocals : W9 + (maxL + 11) + rm.locals ≤ R.locals)
    (hws : ∀ w ∈ ws, ∀ a' U, s.WarmedH U.vm → w.before a' U = true) (hcode : Cond.code y bytes maxL ret ∈ ws) (hinit : ∀ a' U, s.WarmedH U.vm → (Cond.initialized y.cls).before a' U = true) :
    vx_Back l R p e below s sargs y len W9 (PreOf R mc ms Pc) (PostOf Qc mc ms free) (vx_Post XC mc ms free) := by
  intro m meth c A g ig mk a X hg hsize hdg hW hn hp
  have h1 : (headSpec ws rm).pre.before a A.U = true := atoms_intro fun w hw => hws w hw _ _ X.warmed
  have h2 : (Cond.code y bytes maxL ret).before a A.U = true := hws _ hcode _ _ X.warmed
  have h3 : (Cond.initialized y.cls).before a A.U = true := hinit _ _ X.warmed
  have h4 : A.cells + (headSpec ws rm).room.cells ≤ R.cells := by rw [show (headSpec ws rm).room.cells = mc from hrc]; exact hp.1
  have h5 : A.slots + (headSpec ws rm).room.slots ≤ R.slots := by rw [show (headSpec ws rm).room.slots = ms from hrs]; exact hp.2.1
  have hPc : Pc a (A.U.calling g mk a) := hblind _ _ _ _ hp.2.2
  obtain ⟨U, Ls, c0, s0⟩ := A
  dsimp only [Pt.U, Pt.locs, Pt.cells, Pt.slots] at h1 h2 h3 h4 h5 X hn hPc ⊢
  obtain ⟨methY, cY, hmY, hcY, -, hlY, -, -, -, -⟩ := Cond.code_spec hn h2
  obtain ⟨kY, hkY, -⟩ := className_of_methodNamed hn
  have hinitY : kY.init = .initialized := Cond.initialized_spec (findClass_of_methodNamed hn) hkY h3
  have h : At U g.method c below := by rw [hg]; exact X.here
  have hlocals9 : W9 + (maxL + 11) + (headSpec ws rm).room.locals ≤ R.locals := hlocals
  have happ : (headSpec ws rm).appliesLoose y e.platform (U.calling g mk a) = true :=
    Spec.appliesLoose_calling (g := g) h hdg hn hkY hinitY
      (X.room_calling (g := g) (R' := (headSpec ws rm).room) hsize hmY hcY hframes (by rw [hlY]; omega) h4 h5) h1
  obtain ⟨mid, hmid⟩ := h.above
  have hfr : (U.setTop g).frames = (.java g :: mid) ++ below := by rw [State.frames_setTop' g h.top, hmid]; rfl
  obtain ⟨o, s₂, hsteps, -, hend, hq⟩ := Steps.callFree hM p X.admits X.cas X.clock (acts := []) hfr happ hPc trivial
  have hq' : vx_Q Qc XC mc ms free a (U.calling g mk a) o s₂ := hq
  rw [State.frames_setTop' g h.top] at hend
  obtain ⟨g₀, hg0⟩ := Option.isSome_iff_exists.mp h.top
  obtain ⟨r, hr⟩ := State.topJava?_eq_some.mp hg0
  have hr' : (({ U with heap := s₂.heap, slotsUsed := s₂.slotsUsed } : State).setVm s₂.vm).frames = .java g₀ :: r := hr
  rcases hq' with ⟨hqc, L, hfe, hL⟩ | ⟨q, rfl, E, ce, L, hx, hce, hcv, hcl, hW₂, hsm, hL⟩
  · obtain ⟨⟨v, rfl⟩, hW₂, e2, q2, q3, q4, q5, q6⟩ := id hfe
    have e3 : s₂ = ({ (U.calling g mk a).setFrames s₂.frames with heap := s₂.heap, slotsUsed := s₂.slotsUsed } : State).setVm s₂.vm := by
      have : s₂ = ({ s₂ with vm := (U.calling g mk a).vm } : State).setVm s₂.vm := rfl
      rw [e2] at this
      exact this
    obtain ⟨c₂, i₂, len₂, hc₂, hd₂, hf₂⟩ := hend
    have hW' : U.WarmedH s₂.vm := hW₂
    have hcc : c₂ = c := by
      have h1 : s₂.code? g.method = U.code? g.method := by
        rw [State.code?_eq, State.code?_eq, hW'.alike.method?]
      exact Option.some.inj (hc₂.symm.trans (h1.trans h.code))
    subst hcc
    have hlen : len₂ = len := by rw [hdg] at hd₂; cases hd₂; rfl
    subst hlen
    have hs₂ : s₂ = (({ U with heap := s₂.heap, slotsUsed := s₂.slotsUsed } : State).setVm s₂.vm).setTop { g with pc := g.pc + len₂, stack := v.toList ++ g.stack } := by
      refine e3.trans ?_
      rw [hf₂, State.calling_eq h.top, State.setFrames_setFrames, State.setTop_of_frames _ hr', hr]
      rfl
    have hsame : U.sameButNew ({ U with heap := s₂.heap, slotsUsed := s₂.slotsUsed } : State) L mc ms := by
      refine ⟨?_, q2, q3, q4, q5, q6⟩
      obtain ⟨t, ht, -⟩ := State.frames_cons hr
      show ({ U with heap := s₂.heap, slotsUsed := s₂.slotsUsed } : State) = { U.setFrames U.frames with heap := s₂.heap, slotsUsed := s₂.slotsUsed }
      rw [State.setFrames_self ht]
    subst hg
    refine Or.inl ⟨v, ⟨(({ U with heap := s₂.heap, slotsUsed := s₂.slotsUsed } : State).setVm s₂.vm), Ls ++ L, c0 + mc, s0 + ms⟩,
      ⟨X.admits, X.cas, X.clock, X.frames, X.room, X.hears, X.method, X.code, (X.here.setHeapUsed s₂.heap s₂.slotsUsed).setVm hW'.alike, X.tail, State.WarmedH.trans X.warmed hW', X.limits, X.bytes, X.same.trans (hsame.setVm s.vm)⟩,
      ⟨g, mk, s₂, L, rfl, rfl, hqc, rfl, hL, rfl, rfl⟩, ?_⟩
    show Steps p.tables e below _ ((({ U with heap := s₂.heap, slotsUsed := s₂.slotsUsed } : State).setVm s₂.vm).setTop { g with pc := g.pc + len₂, stack := v.toList ++ g.stack })
    rw [← hs₂]
    exact hsteps
  · obtain ⟨e2, q2, q3, q4, q5, q6⟩ := id hsm
    have e3 : s₂ = ({ (U.calling g mk a).setFrames s₂.frames with heap := s₂.heap, slotsUsed := s₂.slotsUsed } : State).setVm s₂.vm := by
      have : s₂ = ({ s₂ with vm := (U.calling g mk a).vm } : State).setVm s₂.vm := rfl
      rw [e2] at this
      exact this
    have hf₂ : s₂.frames = .throwing q :: .java g :: U.frames.tail := hend
    have hW' : U.WarmedH s₂.vm := hW₂
    have hs₂ : s₂ = ((({ U with heap := s₂.heap, slotsUsed := s₂.slotsUsed } : State).setVm s₂.vm).setTop g).pushFrame (.throwing q) := by
      refine e3.trans ?_
      rw [hf₂, State.calling_eq h.top, State.setFrames_setFrames, State.pushFrame, State.frames_setTop _ hr', State.setTop_of_frames _ hr', State.setFrames_setFrames, hr]
      rfl
    have hsame : U.sameButNew ({ U with heap := s₂.heap, slotsUsed := s₂.slotsUsed } : State) L mc ms := by
      refine ⟨?_, q2, q3, q4, q5, q6⟩
      obtain ⟨t, ht, -⟩ := State.frames_cons hr
      show ({ U with heap := s₂.heap, slotsUsed := s₂.slotsUsed } : State) = { U.setFrames U.frames with heap := s₂.heap, slotsUsed := s₂.slotsUsed }
      rw [State.setFrames_self ht]
    subst hg
    refine Or.inr ⟨q, ⟨(({ U with heap := s₂.heap, slotsUsed := s₂.slotsUsed } : State).setVm s₂.vm), Ls ++ L, c0 + mc, s0 + ms⟩,
      ⟨X.admits, X.cas, X.clock, X.frames, X.room, X.hears, X.method, X.code, (X.here.setHeapUsed s₂.heap s₂.slotsUsed).setVm hW'.alike, X.tail, State.WarmedH.trans X.warmed hW', X.limits, X.bytes, X.same.trans (hsame.setVm s.vm)⟩,
      ⟨g, mk, s₂, L, E, ce, rfl, rfl, hx, hce, hcv, hcl, rfl, hL, rfl, rfl⟩, ?_⟩
    show Steps p.tables e below _ (((({ U with heap := s₂.heap, slotsUsed := s₂.slotsUsed } : State).setVm s₂.vm).setTop g).pushFrame (.throwing q))
    rw [← hs₂]
    exact hsteps
end Payer
section Calls
variable {p : Program} {l : Launch} {e : Env} {R : Room} {s : State} {m : MethodId} {args : Array Value} {below : List Frame} {meth : Method} {c : Code} {T : State} {locs : List Loc} {cells slots : Nat}
theorem vx_callV (X : Stand p l e R s m args below meth c T locs cells slots) (hexec : p.tables.exec = Jvm.exec) {own C : String} {index : Nat} {y : MethodName} {bytes : ByteArray} {maxL : Nat} {ret : Option FieldType}
    (hown : s.vm.findClass own = some m.cls) (hlink : (Cond.methodLink own index y).before args s = true) (hinst : (Cond.instanceMethod y).before args s = true) (hsel : (Cond.selects C y y).before args s = true)
    (hcode : (Cond.code y bytes maxL ret).before args s = true) (hy : y.cls ≠ "java/lang/invoke/MethodHandle" ∧ y.cls ≠ "java/lang/invoke/VarHandle")
    {W9 : Nat} {Pre : Pt → Array Value → Prop} {Post : Pt → Array Value → Option Value → Pt → Prop} {PostX : Pt → Array Value → Addr → Pt → Prop} (hK : vx_Back l R p e below s args y 3 W9 Pre Post PostX)
    {b : Addr} {cellB : Cell} (hcell : T.heap[b]? = some cellB) (hobj : cellB.vm.isStatics = false) (hcls : s.vm.findClass C = some cellB.cls)
    {g : JFrame} (hg : g.method = m) (hsize : g.locals.size = c.maxLocals) {argsL rest : List Value} (hlen : ∀ sig, parseMethodDescriptor y.desc = some sig → argsL.length = sig.parameters.length)
    (hstack : g.stack = argsL.reverse ++ .ref b :: rest) (hW : 2 * g.monitorRoom + (rest.map fun v => v.category).sum ≤ W9) (hdg : decode c.code g.pc = .ok (.invokevirtual index, 3))
    (hpre : ∀ vm₁, s.WarmedH vm₁ → Pre ⟨T.setVm vm₁, locs, cells, slots⟩ (Value.ref b :: argsL).toArray) :
    (∃ (v : Option Value) (vm₁ : Vm) (B : Pt), s.WarmedH vm₁ ∧ Stand p l e R s m args below meth c B.U B.locs B.cells B.slots ∧ Post ⟨T.setVm vm₁, locs, cells, slots⟩ (Value.ref b :: argsL).toArray v B ∧
      ∀ target, Steps p.tables e below (B.U.setTop { g with pc := g.pc + 3, stack := v.toList ++ rest }) target → Steps p.tables e below (T.setTop g) target) ∨
    (∃ (q : Addr) (vm₁ : Vm) (B : Pt), s.WarmedH vm₁ ∧ Stand p l e R s m args below meth c B.U B.locs B.cells B.slots ∧ PostX ⟨T.setVm vm₁, locs, cells, slots⟩ (Value.ref b :: argsL).toArray q B ∧
      Steps p.tables e below (T.setTop g) ((B.U.setTop { g with stack := rest }).pushFrame (.throwing q))) := by
  obtain ⟨mk, methM, hnamed, hmethM, hstM, habM⟩ := Cond.instanceMethod_spec hinst
  obtain ⟨methM', cM, hmethM', -, -, -, -, -, -, hsigM⟩ := Cond.code_spec hnamed hcode
  cases hmethM.symm.trans hmethM'
  obtain ⟨c2, r2, m2, q1, q2, q3, q4, kP, hkP, hkPi⟩ := Cond.selects_spec hsel
  cases hcls.symm.trans q1
  cases (State.methodFound?_of_named hnamed hy).symm.trans q2
  cases hnamed.symm.trans q3
  have hselP : selectMethod e.platform s.vm cellB.cls mk = .method mk := by rw [Launch.admits_selectMethod X.admits]; exact q4
  obtain ⟨vm₁, X₁, hstep₁⟩ := X.invokevirtual hexec hown hlink hnamed hmethM hstM hkP hkPi hy (a := b) (cell := cellB) hcell
    (fun z h => by rw [h] at hobj; cases hobj) hselP hmethM habM hkP hkPi (g := g) hg (argsL := argsL) (rest := rest) (hlen _ hsigM) hstack hdg
  rcases hK m meth c ⟨T.setVm vm₁, locs, cells, slots⟩ { g with stack := rest } (.invokevirtual index) mk (Value.ref b :: argsL).toArray X₁ hg hsize hdg hW (X₁.named hnamed) (hpre vm₁ X₁.warmed) with ⟨v, B, X', hpost, hsteps⟩ | ⟨q, B, X', hpost, hsteps⟩
  · exact Or.inl ⟨v, vm₁, B, X₁.warmed, X', hpost, fun target h => hstep₁ _ fun acts => by rw [doInvoke_state]; exact hsteps.trans h⟩
  · exact Or.inr ⟨q, vm₁, B, X₁.warmed, X', hpost, hstep₁ _ fun acts => by rw [doInvoke_state]; exact hsteps⟩
theorem vx_callS (X : Stand p l e R s m args below meth c T locs cells slots) (hexec : p.tables.exec = Jvm.exec) {own : String} {index : Nat} {y : MethodName} {bytes : ByteArray} {maxL : Nat} {ret : Option FieldType}
    (hown : s.vm.findClass own = some m.cls) (hlink : (Cond.methodLink own index y).before args s = true) (hstat : (Cond.static y).before args s = true) (hinit : (Cond.initialized y.cls).before args s = true)
    (hcode : (Cond.code y bytes maxL ret).before args s = true) (hy : y.cls ≠ "java/lang/invoke/MethodHandle" ∧ y.cls ≠ "java/lang/invoke/VarHandle")
    {W9 : Nat} {Pre : Pt → Array Value → Prop} {Post : Pt → Array Value → Option Value → Pt → Prop} {PostX : Pt → Array Value → Addr → Pt → Prop} (hK : vx_Back l R p e below s args y 3 W9 Pre Post PostX)
    {g : JFrame} (hg : g.method = m) (hsize : g.locals.size = c.maxLocals) {argsL rest : List Value} (hlen : ∀ sig, parseMethodDescriptor y.desc = some sig → argsL.length = sig.parameters.length)
    (hstack : g.stack = argsL.reverse ++ rest) (hW : 2 * g.monitorRoom + (rest.map fun v => v.category).sum ≤ W9) (hdg : decode c.code g.pc = .ok (.invokestatic index, 3))
    (hpre : ∀ vm₁, s.WarmedH vm₁ → Pre ⟨T.setVm vm₁, locs, cells, slots⟩ argsL.toArray) :
    (∃ (v : Option Value) (vm₁ : Vm) (B : Pt), s.WarmedH vm₁ ∧ Stand p l e R s m args below meth c B.U B.locs B.cells B.slots ∧ Post ⟨T.setVm vm₁, locs, cells, slots⟩ argsL.toArray v B ∧
      ∀ target, Steps p.tables e below (B.U.setTop { g with pc := g.pc + 3, stack := v.toList ++ rest }) target → Steps p.tables e below (T.setTop g) target) ∨
    (∃ (q : Addr) (vm₁ : Vm) (B : Pt), s.WarmedH vm₁ ∧ Stand p l e R s m args below meth c B.U B.locs B.cells B.slots ∧ PostX ⟨T.setVm vm₁, locs, cells, slots⟩ argsL.toArray q B ∧
      Steps p.tables e below (T.setTop g) ((B.U.setTop { g with stack := rest }).pushFrame (.throwing q))) := by
  obtain ⟨mk, hnamed⟩ := Cond.code_named hcode
  obtain ⟨methM, cM, hmethM, -, -, -, -, -, -, hsigM⟩ := Cond.code_spec hnamed hcode
  have hstatic : methM.isStatic = true := Cond.static_spec hnamed hmethM hstat
  obtain ⟨kP, hkP, -⟩ := className_of_methodNamed hnamed
  have hinitP : kP.init = .initialized := Cond.initialized_spec (findClass_of_methodNamed hnamed) hkP hinit
  obtain ⟨vm₁, X₁, hstep₁⟩ := X.invokestatic hexec hown hlink hnamed hmethM hstatic hkP hinitP hy (g := g) hg (argsL := argsL) (rest := rest) (hlen _ hsigM) hstack hdg
  rcases hK m meth c ⟨T.setVm vm₁, locs, cells, slots⟩ { g with stack := rest } (.invokestatic index) mk argsL.toArray X₁ hg hsize hdg hW (X₁.named hnamed) (hpre vm₁ X₁.warmed) with ⟨v, B, X', hpost, hsteps⟩ | ⟨q, B, X', hpost, hsteps⟩
  · exact Or.inl ⟨v, vm₁, B, X₁.warmed, X', hpost, fun target h => hstep₁ _ fun acts => by rw [doInvoke_state]; exact hsteps.trans h⟩
  · exact Or.inr ⟨q, vm₁, B, X₁.warmed, X', hpost, hstep₁ _ fun acts => by rw [doInvoke_state]; exact hsteps⟩
end Calls
theorem vx_cls {s : State} {T : State} {vm₁ : Vm} {E : String} {k : ClassId} (hW : s.WarmedH vm₁) (h : (T.setVm vm₁).vm.findClass E = some k) : s.vm.findClass E = some k := by
  have h1 : vm₁.findClass E = some k := h
  rw [hW.alike.findClass] at h1
  exact h1
/-- the method's frame g, with q thrown over it -/
def vx_W (p : Program) (l : Launch) (e : Env) (R : Room) (s : State) (m : MethodId) (args : Array Value) (below : List Frame) (meth : Method) (c : Code) (H : Heap) (locs : List Loc) (cells slots : Nat) (Q : State → Prop) (g : JFrame) (q : Addr) : Prop :=
  ∀ T : State, T.heap = H → Stand p l e R s m args below meth c T locs cells slots → ∃ t, Steps p.tables e below ((T.setTop g).pushFrame (.throwing q)) t ∧ Q t
def vx_Run (p : Program) (l : Launch) (e : Env) (R : Room) (s : State) (m : MethodId) (args : Array Value) (below : List Frame) (meth : Method) (c : Code) (H : Heap) (locs : List Loc) (cells slots mc ms : Nat) (g : JFrame) (rest : List Value) (Qa : State → Outcome → State → Prop) (XC : String → State → State → Prop) (free : Addr → Prop) : Prop :=
  ∀ T : State, T.heap = H → Stand p l e R s m args below meth c T locs cells slots →
    (∃ (v : Option Value) (st₀ t T' : State) (L : List Loc), st₀.heap = H ∧ Stand p l e R s m args below meth c T' (locs ++ L) (cells + mc) (slots + ms) ∧ (∀ q ∈ L, free q.base) ∧ T'.heap = t.heap ∧ T'.vm = t.vm ∧ Qa st₀ (.returned v) t ∧
      Goes p e below T g T' { g with pc := g.pc + 3, stack := v.toList ++ rest }) ∨
    (∃ (q : Addr) (st₀ t T' : State) (L : List Loc) (E : String) (ce : Cell), st₀.heap = H ∧ Stand p l e R s m args below meth c T' (locs ++ L) (cells + mc) (slots + ms) ∧ (∀ z ∈ L, free z.base) ∧ T'.heap = t.heap ∧ T'.vm = t.vm ∧ XC E st₀ t ∧ t.heap[q]? = some ce ∧ ce.vm = .none ∧ s.vm.findClass E = some ce.cls ∧
      Steps p.tables e below (T.setTop g) ((T'.setTop { g with stack := rest }).pushFrame (.throwing q)))
def vx_X {S : Type} (px : S → Prop) (B : String → S → State → Prop) (A : Nat → Prop) : String → State → State → Prop := fun E st t => ∃ u : S, px u ∧ B E u t ∧ va_F A st t
section Runs
variable {p : Program} {l : Launch} {e : Env} {R : Room} {s : State} {m : MethodId} {args : Array Value} {below : List Frame} {meth : Method} {c : Code} {H : Heap} {locs : List Loc} {cells slots : Nat}
variable {y : MethodName} {bytes cc : ByteArray} {maxL nL mc ms n index : Nat} {ret : Option FieldType} {ws : List Cond} {rm : Room} {Pc : Array Value → State → Prop} {Qc : Array Value → State → Outcome → State → Prop} {XC : String → State → State → Prop} {free : Addr → Prop} {Ts : List Cond} {own C : String} {b : Addr} {As rest : List Value} {g : JFrame}
theorem vx_callBack (cb : CallB R s args own index y bytes maxL ret ws rm mc ms n) (hM : vx_Met l y ws rm Pc Qc XC mc ms free) (hbl : FrameBlind Pc) : vx_Back l R p e below s args y 3 8 (PreOf R mc ms Pc) (PostOf Qc mc ms free) (vx_Post XC mc ms free) := by
  obtain ⟨hrc, hrs, hfr, hlo, hws, hcw, -, hini, -⟩ := cb
  exact vx_back (bytes := bytes) (maxL := maxL) (ret := ret) hM hbl hrc hrs hfr hlo hws hcw (fun a' U hW => word_at hW (Or.inl (by first | rfl | simp [Cond.onTables, Cond.keeps, Cond.steady])) hini)
theorem vx_runV (S : CallFix p m c cc nL s args Ts own) (hM : vx_Met l y ws rm Pc Qc XC mc ms free) (cw : CallW R s args own C index y bytes maxL ret ws rm mc ms n) (hp : PreV s H C b Pc As)
    (hg : g.method = m) (hn : As.length = n) (hsize : g.locals.size = nL) (hstack : g.stack = As.reverse ++ .ref b :: rest) (hW : 2 * g.monitorRoom + (rest.map fun v => v.category).sum ≤ 8) (hdg : decode cc g.pc = .ok (.invokevirtual index, 3)) (hf : cells + mc ≤ R.cells ∧ slots + ms ≤ R.slots) :
    vx_Run p l e R s m args below meth c H locs cells slots mc ms g rest (Qc (Value.ref b :: As).toArray) XC free := by
  have hK : vx_Back l R p e below s args y 3 8 (PreOf R mc ms Pc) (PostOf Qc mc ms free) (vx_Post XC mc ms free) := vx_callBack cw.1 hM hp.1
  obtain ⟨⟨-, -, -, -, -, -, hcode, -, hy, hlen, hl⟩, hin, hse⟩ := cw
  obtain ⟨hx, hb, hml, ho, -⟩ := S
  obtain ⟨-, ⟨cellB, hcB, hoB, hclB⟩, hPc⟩ := hp
  intro T hT X
  rcases vx_callV X hx (C := C) (bytes := bytes) (maxL := maxL) (ret := ret) ho hl hin hse hcode hy hK (by rw [hT]; exact hcB) hoB hclB hg (hsize.trans hml.symm) (argsL := As) (rest := rest) (fun sig h => hn.trans (hlen sig h)) hstack hW (by rw [hb]; exact hdg)
    (fun vm₁ hW₁ => ⟨hf.1, hf.2, hPc (T.setVm vm₁) hT hW₁⟩) with ⟨v, vm₁, ⟨U', l2, c2, s2⟩, hW₁, X', ⟨g', mk, t, L, e1, e2, hq, h1, hL, h2, h3⟩, st⟩ | ⟨q, vm₁, ⟨U', l2, c2, s2⟩, hW₁, X', ⟨g', mk, t, L, E, ce, e1, e2, hq, hce, hcv, hcl, h1, hL, h2, h3⟩, st⟩
  · dsimp only [Pt.U, Pt.locs, Pt.cells, Pt.slots] at X' e1 e2 h1 h2 h3 st
    subst h1; subst h2; subst h3
    exact Or.inl ⟨v, (T.setVm vm₁).calling g' mk (Value.ref b :: As).toArray, t, U', L, hT, X', hL, e1, e2, hq, st⟩
  · dsimp only [Pt.U, Pt.locs, Pt.cells, Pt.slots] at X' e1 e2 h1 h2 h3 st hcl
    subst h1; subst h2; subst h3
    exact Or.inr ⟨q, (T.setVm vm₁).calling g' mk (Value.ref b :: As).toArray, t, U', L, E, ce, hT, X', hL, e1, e2, hq, hce, hcv, vx_cls hW₁ hcl, st⟩
theorem vx_runS (S : CallFix p m c cc nL s args Ts own) (hM : vx_Met l y ws rm Pc Qc XC mc ms free) (cw : CallB R s args own index y bytes maxL ret ws rm mc ms n ∧ (Cond.static y).before args s = true) (hp : PreS s H Pc As)
    (hg : g.method = m) (hn : As.length = n) (hsize : g.locals.size = nL) (hstack : g.stack = As.reverse ++ rest) (hW : 2 * g.monitorRoom + (rest.map fun v => v.category).sum ≤ 8) (hdg : decode cc g.pc = .ok (.invokestatic index, 3)) (hf : cells + mc ≤ R.cells ∧ slots + ms ≤ R.slots) :
    vx_Run p l e R s m args below meth c H locs cells slots mc ms g rest (Qc As.toArray) XC free := by
  have hK : vx_Back l R p e below s args y 3 8 (PreOf R mc ms Pc) (PostOf Qc mc ms free) (vx_Post XC mc ms free) := vx_callBack cw.1 hM hp.1
  obtain ⟨⟨-, -, -, -, -, -, hcode, hini, hy, hlen, hl⟩, hstt⟩ := cw
  obtain ⟨hx, hb, hml, ho, -⟩ := S
  intro T hT X
  rcases vx_callS X hx (bytes := bytes) (maxL := maxL) (ret := ret) ho hl hstt hini hcode hy hK hg (hsize.trans hml.symm) (argsL := As) (rest := rest) (fun sig h => hn.trans (hlen sig h)) hstack hW (by rw [hb]; exact hdg)
    (fun vm₁ hW₁ => ⟨hf.1, hf.2, hp.2 (T.setVm vm₁) hT hW₁⟩) with ⟨v, vm₁, ⟨U', l2, c2, s2⟩, hW₁, X', ⟨g', mk, t, L, e1, e2, hq, h1, hL, h2, h3⟩, st⟩ | ⟨q, vm₁, ⟨U', l2, c2, s2⟩, hW₁, X', ⟨g', mk, t, L, E, ce, e1, e2, hq, hce, hcv, hcl, h1, hL, h2, h3⟩, st⟩
  · dsimp only [Pt.U, Pt.locs, Pt.cells, Pt.slots] at X' e1 e2 h1 h2 h3 st
    subst h1; subst h2; subst h3
    exact Or.inl ⟨v, (T.setVm vm₁).calling g' mk As.toArray, t, U', L, hT, X', hL, e1, e2, hq, st⟩
  · dsimp only [Pt.U, Pt.locs, Pt.cells, Pt.slots] at X' e1 e2 h1 h2 h3 st hcl
    subst h1; subst h2; subst h3
    exact Or.inr ⟨q, (T.setVm vm₁).calling g' mk As.toArray, t, U', L, E, ce, hT, X', hL, e1, e2, hq, hce, hcv, vx_cls hW₁ hcl, st⟩
end Runs
section Rows
variable {p : Program} {l : Launch} {e : Env} {R : Room} {s : State} {m : MethodId} {args : Array Value} {below : List Frame} {meth : Method} {c : Code} {H : Heap} {locs : List Loc} {cells slots : Nat} {Q : State → Prop}
variable {mc ms : Nat} {free : Addr → Prop} {A0 A1 : Nat → Prop} {H0 : Heap} {a : Array Value} {pc : Nat} {ls : Array Slot} {st0 rest : List Value}
theorem vx_keep {st₀ t T' : State} {L : List Loc} (h0 : st₀.heap = H) (e1 : T'.heap = t.heap) (hS : va_S A0 H0 H locs) (hA : ∀ q, q < H.size → A1 q → A0 q) (hf : ∀ q, free q → A0 q) (hL : ∀ q ∈ L, free q.base) (hF : va_F A1 st₀ t) :
    H.size ≤ T'.heap.size ∧ (∀ q : Nat, q < H.size → ¬ A1 q → T'.heap[q]? = H[q]?) ∧ va_S A0 H0 T'.heap (locs ++ L) := by
  obtain ⟨hz, hk⟩ := hF
  rw [h0] at hz hk
  exact ⟨by rw [e1]; exact hz, fun q h1 h2 => by rw [e1]; exact hk q h1 h2,
    ⟨Nat.le_trans hS.1 (by rw [e1]; exact hz), fun q h1 h2 => by rw [e1, hk q (Nat.lt_of_lt_of_le h1 hS.1) (fun z => h2 (hA q (Nat.lt_of_lt_of_le h1 hS.1) z))]; exact hS.2.1 q h1 h2, fun q hq => by
      rcases List.mem_append.mp hq with h | h
      · exact hS.2.2 q h
      · exact hf _ (hL q h)⟩⟩
theorem vx_calli {S SX : Type} {post : Int32 → S → Prop} {px : SX → Prop} {B : S → State → Prop} {BX : String → SX → State → Prop} {AX : Nat → Prop} (hr : vx_Run p l e R s m args below meth c H locs cells slots mc ms (F0 m pc ls st0) rest (va_Qi post B A1 a) (vx_X px BX AX) free) (hS : va_S A0 H0 H locs) (hA : ∀ q, q < H.size → A1 q → A0 q) (hf : ∀ q, free q → A0 q) (hAX : ∀ q, q < H.size → AX q → A0 q)
    (kx : ∀ (E : String) (ce : Cell) (q9 : Addr) (u : SX) (t : State) (H1 : Heap) (locs1 : List Loc), t.heap = H1 → s.vm.Alike t.vm → px u → BX E u t → H.size ≤ H1.size → (∀ q : Nat, q < H.size → ¬ AX q → H1[q]? = H[q]?) → va_S A0 H0 H1 locs1 → H1[q9]? = some ce → ce.vm = .none → s.vm.findClass E = some ce.cls → vx_W p l e R s m args below meth c H1 locs1 (cells + mc) (slots + ms) Q (F0 m pc ls rest) q9)
    (kk : ∀ (r : Int32) (u : S) (t : State) (H1 : Heap) (locs1 : List Loc), t.heap = H1 → s.vm.Alike t.vm → post r u → B u t → H.size ≤ H1.size → (∀ q : Nat, q < H.size → ¬ A1 q → H1[q]? = H[q]?) → va_S A0 H0 H1 locs1 → W p l e R s m args below meth c H1 locs1 (cells + mc) (slots + ms) Q (F0 m (pc + 3) ls (.int r :: rest))) : W p l e R s m args below meth c H locs cells slots Q (F0 m pc ls st0) := by
  intro T hT X
  rcases hr T hT X with ⟨v, st₀, t, T', L, h0, X', hL, e1, e2, ⟨⟨r, u, hv, hp, hb⟩, hF⟩, st⟩ | ⟨q, st₀, t, T', L, E, ce, h0, X', hL, e1, e2, ⟨u, hp, hb, hF⟩, hce, hcv, hcl, st⟩
  · cases hv
    obtain ⟨k1, k2, k3⟩ := vx_keep h0 e1 hS hA hf hL hF
    obtain ⟨t2, a1, b1⟩ := kk r u t T'.heap (locs ++ L) e1.symm (by rw [← e2]; exact X'.warmed.alike) hp hb k1 k2 k3 T' rfl X'
    exact ⟨t2, st t2 a1, b1⟩
  · obtain ⟨k1, k2, k3⟩ := vx_keep h0 e1 hS hAX hf hL hF
    obtain ⟨t2, a1, b1⟩ := kx E ce q u t T'.heap (locs ++ L) e1.symm (by rw [← e2]; exact X'.warmed.alike) hp hb k1 k2 k3 (by rw [e1]; exact hce) hcv hcl T' rfl X'
    exact ⟨t2, st.trans a1, b1⟩
theorem vx_calll {S SX : Type} {post : Int64 → S → Prop} {px : SX → Prop} {B : S → State → Prop} {BX : String → SX → State → Prop} {AX : Nat → Prop} (hr : vx_Run p l e R s m args below meth c H locs cells slots mc ms (F0 m pc ls st0) rest (va_Ql post B A1 a) (vx_X px BX AX) free) (hS : va_S A0 H0 H locs) (hA : ∀ q, q < H.size → A1 q → A0 q) (hf : ∀ q, free q → A0 q) (hAX : ∀ q, q < H.size → AX q → A0 q)
    (kx : ∀ (E : String) (ce : Cell) (q9 : Addr) (u : SX) (t : State) (H1 : Heap) (locs1 : List Loc), t.heap = H1 → s.vm.Alike t.vm → px u → BX E u t → H.size ≤ H1.size → (∀ q : Nat, q < H.size → ¬ AX q → H1[q]? = H[q]?) → va_S A0 H0 H1 locs1 → H1[q9]? = some ce → ce.vm = .none → s.vm.findClass E = some ce.cls → vx_W p l e R s m args below meth c H1 locs1 (cells + mc) (slots + ms) Q (F0 m pc ls rest) q9)
    (kk : ∀ (r : Int64) (u : S) (t : State) (H1 : Heap) (locs1 : List Loc), t.heap = H1 → s.vm.Alike t.vm → post r u → B u t → H.size ≤ H1.size → (∀ q : Nat, q < H.size → ¬ A1 q → H1[q]? = H[q]?) → va_S A0 H0 H1 locs1 → W p l e R s m args below meth c H1 locs1 (cells + mc) (slots + ms) Q (F0 m (pc + 3) ls (.long r :: rest))) : W p l e R s m args below meth c H locs cells slots Q (F0 m pc ls st0) := by
  intro T hT X
  rcases hr T hT X with ⟨v, st₀, t, T', L, h0, X', hL, e1, e2, ⟨⟨r, u, hv, hp, hb⟩, hF⟩, st⟩ | ⟨q, st₀, t, T', L, E, ce, h0, X', hL, e1, e2, ⟨u, hp, hb, hF⟩, hce, hcv, hcl, st⟩
  · cases hv
    obtain ⟨k1, k2, k3⟩ := vx_keep h0 e1 hS hA hf hL hF
    obtain ⟨t2, a1, b1⟩ := kk r u t T'.heap (locs ++ L) e1.symm (by rw [← e2]; exact X'.warmed.alike) hp hb k1 k2 k3 T' rfl X'
    exact ⟨t2, st t2 a1, b1⟩
  · obtain ⟨k1, k2, k3⟩ := vx_keep h0 e1 hS hAX hf hL hF
    obtain ⟨t2, a1, b1⟩ := kx E ce q u t T'.heap (locs ++ L) e1.symm (by rw [← e2]; exact X'.warmed.alike) hp hb k1 k2 k3 (by rw [e1]; exact hce) hcv hcl T' rfl X'
    exact ⟨t2, st.trans a1, b1⟩
theorem vx_callf {S SX : Type} {post : UInt32 → S → Prop} {px : SX → Prop} {B : S → State → Prop} {BX : String → SX → State → Prop} {AX : Nat → Prop} (hr : vx_Run p l e R s m args below meth c H locs cells slots mc ms (F0 m pc ls st0) rest (va_Qf post B A1 a) (vx_X px BX AX) free) (hS : va_S A0 H0 H locs) (hA : ∀ q, q < H.size → A1 q → A0 q) (hf : ∀ q, free q → A0 q) (hAX : ∀ q, q < H.size → AX q → A0 q)
    (kx : ∀ (E : String) (ce : Cell) (q9 : Addr) (u : SX) (t : State) (H1 : Heap) (locs1 : List Loc), t.heap = H1 → s.vm.Alike t.vm → px u → BX E u t → H.size ≤ H1.size → (∀ q : Nat, q < H.size → ¬ AX q → H1[q]? = H[q]?) → va_S A0 H0 H1 locs1 → H1[q9]? = some ce → ce.vm = .none → s.vm.findClass E = some ce.cls → vx_W p l e R s m args below meth c H1 locs1 (cells + mc) (slots + ms) Q (F0 m pc ls rest) q9)
    (kk : ∀ (r : UInt32) (u : S) (t : State) (H1 : Heap) (locs1 : List Loc), t.heap = H1 → s.vm.Alike t.vm → post r u → B u t → H.size ≤ H1.size → (∀ q : Nat, q < H.size → ¬ A1 q → H1[q]? = H[q]?) → va_S A0 H0 H1 locs1 → W p l e R s m args below meth c H1 locs1 (cells + mc) (slots + ms) Q (F0 m (pc + 3) ls (.float r :: rest))) : W p l e R s m args below meth c H locs cells slots Q (F0 m pc ls st0) := by
  intro T hT X
  rcases hr T hT X with ⟨v, st₀, t, T', L, h0, X', hL, e1, e2, ⟨⟨r, u, hv, hp, hb⟩, hF⟩, st⟩ | ⟨q, st₀, t, T', L, E, ce, h0, X', hL, e1, e2, ⟨u, hp, hb, hF⟩, hce, hcv, hcl, st⟩
  · cases hv
    obtain ⟨k1, k2, k3⟩ := vx_keep h0 e1 hS hA hf hL hF
    obtain ⟨t2, a1, b1⟩ := kk r u t T'.heap (locs ++ L) e1.symm (by rw [← e2]; exact X'.warmed.alike) hp hb k1 k2 k3 T' rfl X'
    exact ⟨t2, st t2 a1, b1⟩
  · obtain ⟨k1, k2, k3⟩ := vx_keep h0 e1 hS hAX hf hL hF
    obtain ⟨t2, a1, b1⟩ := kx E ce q u t T'.heap (locs ++ L) e1.symm (by rw [← e2]; exact X'.warmed.alike) hp hb k1 k2 k3 (by rw [e1]; exact hce) hcv hcl T' rfl X'
    exact ⟨t2, st.trans a1, b1⟩
theorem vx_calld {S SX : Type} {post : UInt64 → S → Prop} {px : SX → Prop} {B : S → State → Prop} {BX : String → SX → State → Prop} {AX : Nat → Prop} (hr : vx_Run p l e R s m args below meth c H locs cells slots mc ms (F0 m pc ls st0) rest (va_Qd post B A1 a) (vx_X px BX AX) free) (hS : va_S A0 H0 H locs) (hA : ∀ q, q < H.size → A1 q → A0 q) (hf : ∀ q, free q → A0 q) (hAX : ∀ q, q < H.size → AX q → A0 q)
    (kx : ∀ (E : String) (ce : Cell) (q9 : Addr) (u : SX) (t : State) (H1 : Heap) (locs1 : List Loc), t.heap = H1 → s.vm.Alike t.vm → px u → BX E u t → H.size ≤ H1.size → (∀ q : Nat, q < H.size → ¬ AX q → H1[q]? = H[q]?) → va_S A0 H0 H1 locs1 → H1[q9]? = some ce → ce.vm = .none → s.vm.findClass E = some ce.cls → vx_W p l e R s m args below meth c H1 locs1 (cells + mc) (slots + ms) Q (F0 m pc ls rest) q9)
    (kk : ∀ (r : UInt64) (u : S) (t : State) (H1 : Heap) (locs1 : List Loc), t.heap = H1 → s.vm.Alike t.vm → post r u → B u t → H.size ≤ H1.size → (∀ q : Nat, q < H.size → ¬ A1 q → H1[q]? = H[q]?) → va_S A0 H0 H1 locs1 → W p l e R s m args below meth c H1 locs1 (cells + mc) (slots + ms) Q (F0 m (pc + 3) ls (.double r :: rest))) : W p l e R s m args below meth c H locs cells slots Q (F0 m pc ls st0) := by
  intro T hT X
  rcases hr T hT X with ⟨v, st₀, t, T', L, h0, X', hL, e1, e2, ⟨⟨r, u, hv, hp, hb⟩, hF⟩, st⟩ | ⟨q, st₀, t, T', L, E, ce, h0, X', hL, e1, e2, ⟨u, hp, hb, hF⟩, hce, hcv, hcl, st⟩
  · cases hv
    obtain ⟨k1, k2, k3⟩ := vx_keep h0 e1 hS hA hf hL hF
    obtain ⟨t2, a1, b1⟩ := kk r u t T'.heap (locs ++ L) e1.symm (by rw [← e2]; exact X'.warmed.alike) hp hb k1 k2 k3 T' rfl X'
    exact ⟨t2, st t2 a1, b1⟩
  · obtain ⟨k1, k2, k3⟩ := vx_keep h0 e1 hS hAX hf hL hF
    obtain ⟨t2, a1, b1⟩ := kx E ce q u t T'.heap (locs ++ L) e1.symm (by rw [← e2]; exact X'.warmed.alike) hp hb k1 k2 k3 (by rw [e1]; exact hce) hcv hcl T' rfl X'
    exact ⟨t2, st.trans a1, b1⟩
theorem vx_callv {S SX : Type} {post : S → Prop} {px : SX → Prop} {B : S → State → Prop} {BX : String → SX → State → Prop} {AX : Nat → Prop} (hr : vx_Run p l e R s m args below meth c H locs cells slots mc ms (F0 m pc ls st0) rest (va_Qv post B A1 a) (vx_X px BX AX) free) (hS : va_S A0 H0 H locs) (hA : ∀ q, q < H.size → A1 q → A0 q) (hf : ∀ q, free q → A0 q) (hAX : ∀ q, q < H.size → AX q → A0 q)
    (kx : ∀ (E : String) (ce : Cell) (q9 : Addr) (u : SX) (t : State) (H1 : Heap) (locs1 : List Loc), t.heap = H1 → s.vm.Alike t.vm → px u → BX E u t → H.size ≤ H1.size → (∀ q : Nat, q < H.size → ¬ AX q → H1[q]? = H[q]?) → va_S A0 H0 H1 locs1 → H1[q9]? = some ce → ce.vm = .none → s.vm.findClass E = some ce.cls → vx_W p l e R s m args below meth c H1 locs1 (cells + mc) (slots + ms) Q (F0 m pc ls rest) q9)
    (kk : ∀ (u : S) (t : State) (H1 : Heap) (locs1 : List Loc), t.heap = H1 → s.vm.Alike t.vm → post u → B u t → H.size ≤ H1.size → (∀ q : Nat, q < H.size → ¬ A1 q → H1[q]? = H[q]?) → va_S A0 H0 H1 locs1 → W p l e R s m args below meth c H1 locs1 (cells + mc) (slots + ms) Q (F0 m (pc + 3) ls (rest))) : W p l e R s m args below meth c H locs cells slots Q (F0 m pc ls st0) := by
  intro T hT X
  rcases hr T hT X with ⟨v, st₀, t, T', L, h0, X', hL, e1, e2, ⟨⟨u, hv, hp, hb⟩, hF⟩, st⟩ | ⟨q, st₀, t, T', L, E, ce, h0, X', hL, e1, e2, ⟨u, hp, hb, hF⟩, hce, hcv, hcl, st⟩
  · cases hv
    obtain ⟨k1, k2, k3⟩ := vx_keep h0 e1 hS hA hf hL hF
    obtain ⟨t2, a1, b1⟩ := kk u t T'.heap (locs ++ L) e1.symm (by rw [← e2]; exact X'.warmed.alike) hp hb k1 k2 k3 T' rfl X'
    exact ⟨t2, st t2 a1, b1⟩
  · obtain ⟨k1, k2, k3⟩ := vx_keep h0 e1 hS hAX hf hL hF
    obtain ⟨t2, a1, b1⟩ := kx E ce q u t T'.heap (locs ++ L) e1.symm (by rw [← e2]; exact X'.warmed.alike) hp hb k1 k2 k3 (by rw [e1]; exact hce) hcv hcl T' rfl X'
    exact ⟨t2, st.trans a1, b1⟩
/-- caught by the row x of this method's table; the rows ahead don't take it -/
theorem vx_catch {own name : String} {E : String} {ce : Cell} {q : Addr} (hown : s.vm.findClass own = some m.cls) (pre : List ExceptionTableEntry) (x : ExceptionTableEntry) (suf : List ExceptionTableEntry) (hsplit : c.exceptionTable.toList = pre ++ x :: suf)
    (hpass : ∀ z ∈ pre, covers z pc = false ∨ (z.catchType ≠ 0 ∧ ∃ nm : String, (Cond.classLink own z.catchType nm).before args s = true ∧ va_Nc E nm s)) (hx : covers x pc = true) (h0 : x.catchType ≠ 0)
    (hlink : (Cond.classLink own x.catchType name).before args s = true) (hcast : (Cond.castable E name).before args s = true) (hcell : H[q]? = some ce) (hv : ce.vm = .none) (hcl : s.vm.findClass E = some ce.cls)
    (kk : W p l e R s m args below meth c H locs cells slots Q (F0 m x.handlerPc ls [.ref q])) : vx_W p l e R s m args below meth c H locs cells slots Q (F0 m pc ls rest) q := by
  intro T hT X
  have hpl : e.platform.magicAccessors = ({} : Platform).magicAccessors := by rw [X.admits.platform]
  obtain ⟨c3, c4, hc3, hc4, hasg⟩ := Cond.castable_spec hcast
  cases Option.some.inj (hc3.symm.trans hcl)
  obtain ⟨c5, hc5, hcl5⟩ := Cond.classLink_spec hown hlink e.platform hpl
  cases Option.some.inj (hc4.symm.trans hc5)
  obtain ⟨vm', X', st⟩ := Jvm.Stand.thenCaughtThrough X q (g := F0 m pc ls rest) rfl (Steps.refl _) (by rw [hT]; exact hcell) (by rw [hv]; rfl) (by obtain ⟨k9, h9, -⟩ := Vm.findClass_spec hcl; exact ⟨k9, h9⟩) pre x suf hsplit
    (fun z hz => by
      rcases hpass z hz with h | ⟨hz0, nm, hl1, hn1⟩
      · exact Or.inl h
      · obtain ⟨c6, hc6, hcl6⟩ := Cond.classLink_spec hown hl1 e.platform hpl
        obtain ⟨a8, b8, h1, h2, h3⟩ := hn1
        cases Option.some.inj (h1.symm.trans hcl)
        cases Option.some.inj (h2.symm.trans hc6)
        exact Or.inr ⟨hz0, _, hcl6, h3⟩) hx (Or.inr ⟨h0, c4, hcl5, hasg⟩)
  obtain ⟨t, a1, b1⟩ := kk (T.setVm vm') hT X'
  exact ⟨t, st.trans a1, b1⟩
end Rows
section Ends
variable {p : Program} {l : Launch} {e : Env} {R : Room} {s : State} {m : MethodId} {args : Array Value} {below : List Frame} {meth : Method} {c : Code} {H : Heap} {locs : List Loc} {cells slots : Nat} {Q : State → Prop}
variable {mc ms : Nat} {free : Addr → Prop} {A0 A1 : Nat → Prop} {H0 : Heap} {a : Array Value} {ls : Array Slot} {st0 rest : List Value}
variable {Qc : Array Value → State → Outcome → State → Prop} {XC : String → State → State → Prop}
/-- what a body that may throw owes at its end -/
def vx_MQ (below : List Frame) (Qc : Array Value → State → Outcome → State → Prop) (XC : String → State → State → Prop) (a : Array Value) (s : State) (mc ms : Nat) (free : Addr → Prop) : State → Prop := fun t =>
  ∃ o, t.status = .running ∧ Ended t below o ∧ vx_Q Qc XC mc ms free a s o t
theorem vx_ret {g : JFrame} {mc ms : Nat} (k : W p l e R s m args below meth c H locs cells slots (MQ below Qc args s mc ms free) g) : W p l e R s m args below meth c H locs cells slots (vx_MQ below Qc XC args s mc ms free) g := by
  intro T hT X
  obtain ⟨t, a1, o, b1, b2, b3, b4⟩ := k T hT X
  exact ⟨t, a1, o, b1, b2, Or.inl ⟨b3, b4⟩⟩
/-- not caught here: it goes on to the caller -/
theorem vx_widen {g : JFrame} {q : Addr} {k n : Nat} (h1 : cells ≤ k) (h2 : slots ≤ n) (kk : vx_W p l e R s m args below meth c H locs k n Q g q) : vx_W p l e R s m args below meth c H locs cells slots Q g q := fun T hT X => kk T hT (stand_widen X h1 h2)
theorem vx_out {pc : Nat} {E : String} {ce : Cell} {q : Addr} {mc ms : Nat} (hout : ∀ x ∈ c.exceptionTable.toList, covers x pc = false) (hlocks : meth.locks = false) (hcell : H[q]? = some ce) (hv : ce.vm = .none) (hcl : s.vm.findClass E = some ce.cls)
    (hx : ∀ t : State, t.heap = H → s.vm.Alike t.vm → XC E s t) (hf : ∀ z ∈ locs, free z.base) (hc : cells ≤ mc) (hs : slots ≤ ms) :
    vx_W p l e R s m args below meth c H locs cells slots (vx_MQ below Qc XC args s mc ms free) (F0 m pc ls rest) q := by
  intro T hT X
  obtain ⟨st1, hrun, hend, hW, hsm⟩ := X.leaveThrown q (g := F0 m pc ls rest) rfl rfl rfl hout hlocks
  have hcell9 : (T.setFrames (.throwing q :: below)).heap[q]? = some ce := by
    show T.heap[q]? = some ce
    rw [hT]; exact hcell
  exact ⟨_, st1, .threw q, hrun, hend, Or.inr ⟨q, rfl, E, ce, locs, hx _ hT hW.alike, hcell9, hv, hcl, hW, hsm.mono hc hs, hf⟩⟩
theorem vx_frame {U : State} {k n : Nat} (h : s.sameButNew ({ U with vm := s.vm } : State) locs k n) : s.heap.size ≤ U.heap.size ∧ ∀ q : Nat, q < s.heap.size → (∀ z ∈ locs, z.base ≠ q) → U.heap[q]? = s.heap[q]? := by
  obtain ⟨-, h2, -, -, -, h6⟩ := h
  refine ⟨h2, fun q hq hz => ?_⟩
  obtain ⟨c9, e1, e2, e3, e4⟩ := h6 q _ (Array.getElem?_eq_getElem hq)
  have hs : c9.slots = (s.heap[q]).slots := Array.ext_getElem? fun i => e4 i fun hm => hz _ hm rfl
  have h9 : c9 = s.heap[q] := by
    rw [hs] at e2
    exact e2
  have e5 : U.heap[q]? = some c9 := e1
  rw [e5, h9, Array.getElem?_eq_getElem hq]
/-- the words of a throw but the four that speak of the heap -/
def vx_no (w : Cond) : Bool := decide (w ≠ .isRef (.static Bundle.tN "UNASSIGNED_STACK" Bundle.steD)) && decide (w ≠ .isRef (.static Bundle.tN "SUPPRESSED_SENTINEL" Bundle.listD)) && decide (w ≠ .laysStatic Bundle.tN "UNASSIGNED_STACK" Bundle.steD) && decide (w ≠ .laysStatic Bundle.tN "SUPPRESSED_SENTINEL" Bundle.listD)
def vx_at0 (own : String) (ic : Nat) (X : String) (names : List String) : List Cond := (Bundle.ownAtoms0 own ic X names).filter vx_no
def vx_atS (own : String) (ic : Nat) (X : String) (names : List String) : List Cond := (Bundle.ownAtoms own ic X names).filter vx_no
/-- a word that the tables alone decide, or a good one -/
def vx_ot (w : Cond) : Bool := w.onTables || goodWord w
theorem vx_ot_at {args a' : Array Value} {s U : State} {w : Cond} (hW : s.WarmedH U.vm) (hvm : s.vm = U.vm) (hg : vx_ot w = true) (h : w.before args s = true) : w.before a' U = true := by
  simp only [vx_ot, Bool.or_eq_true] at hg
  rcases hg with hg | hg
  · exact va_tabs hg hvm h
  · exact word_at hW (good_of_word hg) h
/-- a list's words: the good ones out of the method's own list, the others by premises of their own -/
theorem vx_hat {args : Array Value} {s : State} {L B : List Cond} (h1 : ∀ w ∈ L.filter goodWord, w.before args s = true) (h2 : ∀ w ∈ L.filter (fun w => !goodWord w), w ∈ B) (h3 : ∀ w ∈ B, w.before args s = true) : ∀ w ∈ L, w.before args s = true := by
  intro w hw
  by_cases g : goodWord w = true
  · exact h1 w (List.mem_filter.mpr ⟨hw, g⟩)
  · refine h3 w (h2 w (List.mem_filter.mpr ⟨hw, ?_⟩))
    show (!goodWord w) = true
    cases hgw : goodWord w
    · rfl
    · exact absurd hgw g
theorem vx_c {args : Array Value} {s : State} {w : Cond} {B : List Cond} (h : w.before args s = true) (t : ∀ w ∈ B, w.before args s = true) : ∀ w' ∈ w :: B, w'.before args s = true := fun w' h' => (List.mem_cons.mp h').elim (fun e => by rw [e]; exact h) (t w')
theorem vx_n {args : Array Value} {s : State} : ∀ w ∈ ([] : List Cond), w.before args s = true := fun _ h => nomatch h
theorem vx_own {args : Array Value} {s : State} {L : List Cond} (h1 : ∀ w ∈ L.filter vx_no, w.before args s = true)
    (hU : (Cond.isRef (.static Bundle.tN "UNASSIGNED_STACK" Bundle.steD)).before args s = true) (hN : (Cond.isRef (.static Bundle.tN "SUPPRESSED_SENTINEL" Bundle.listD)).before args s = true)
    (lU : (Cond.laysStatic Bundle.tN "UNASSIGNED_STACK" Bundle.steD).before args s = true) (lN : (Cond.laysStatic Bundle.tN "SUPPRESSED_SENTINEL" Bundle.listD).before args s = true) : ∀ w ∈ L, w.before args s = true := by
  intro w hw
  by_cases e1 : w = .isRef (.static Bundle.tN "UNASSIGNED_STACK" Bundle.steD)
  · rw [e1]; exact hU
  · by_cases e2 : w = .isRef (.static Bundle.tN "SUPPRESSED_SENTINEL" Bundle.listD)
    · rw [e2]; exact hN
    · by_cases e3 : w = .laysStatic Bundle.tN "UNASSIGNED_STACK" Bundle.steD
      · rw [e3]; exact lU
      · by_cases e4 : w = .laysStatic Bundle.tN "SUPPRESSED_SENTINEL" Bundle.listD
        · rw [e4]; exact lN
        · exact h1 w (List.mem_filter.mpr ⟨hw, by unfold vx_no; rw [decide_eq_true e1, decide_eq_true e2, decide_eq_true e3, decide_eq_true e4]; rfl⟩)
/-- where a static field lies, its class's statics cell in H -/
def vx_L (C n d : String) (A : Nat → Prop) (U : State) (H : Heap) : Prop := ∃ (c : ClassId) (k : Class) (i : Nat) (f : Field) (a : Nat) (cell : Cell), U.vm.findClass C = some c ∧ U.fieldFound? C n d = some (c, k, i, f) ∧ f.isStatic = true ∧ k.statics = some a ∧ H[a]? = some cell ∧ cell.vm.isStatics = true ∧ cell.cls = c ∧ f.slot < cell.slots.size ∧ k.staticTypes[f.slot]? = some f.type ∧ ¬ A a
theorem vx_L.moved {C n d : String} {A : Nat → Prop} {u U : State} {H : Heap} (hvm : u.vm.Alike U.vm) (h : vx_L C n d A u H) : vx_L C n d A U H := by
  obtain ⟨c, k, i, f, a, cell, h1, h2, h3, h4, h5, h6, h7, h8, h9, h10⟩ := h
  obtain ⟨k', hi', he⟩ := State.fieldFound?_setVm hvm h2
  exact ⟨c, k', i, f, a, cell, by rw [hvm.findClass]; exact h1, hi', h3, by rw [he]; exact h4, h5, h6, h7, h8, by rw [he]; exact h9, h10⟩
theorem vx_L.kept {C n d : String} {A : Nat → Prop} {U : State} {H H1 : Heap} (h : vx_L C n d A U H) (hq : ∀ a : Nat, a < H.size → ¬ A a → H1[a]? = H[a]?) : vx_L C n d A U H1 := by
  obtain ⟨c, k, i, f, a, cell, h1, h2, h3, h4, h5, h6, h7, h8, h9, h10⟩ := h
  exact ⟨c, k, i, f, a, cell, h1, h2, h3, h4, by rw [hq a (Array.getElem?_eq_some_iff.mp h5).1 h10]; exact h5, h6, h7, h8, h9, h10⟩
theorem vx_L.narrow {C n d : String} {A B : Nat → Prop} {U : State} {H : Heap} (h : vx_L C n d A U H) (hAB : ∀ q, B q → A q) : vx_L C n d B U H := by
  obtain ⟨c, k, i, f, a, cell, h1, h2, h3, h4, h5, h6, h7, h8, h9, h10⟩ := h
  exact ⟨c, k, i, f, a, cell, h1, h2, h3, h4, h5, h6, h7, h8, h9, fun z => h10 (hAB _ z)⟩
theorem vx_L.word {C n d : String} {A : Nat → Prop} {s : State} {args : Array Value} (h : vx_L C n d A s s.heap) : (Cond.laysStatic C n d).before args s = true := by
  obtain ⟨c, k, i, f, a, cell, h1, h2, h3, h4, h5, h6, h7, h8, h9, -⟩ := h
  show (Cond.laysStatic C n d).holds args s none s [] = true
  exact Cond.laysStatic_of h1 h2 h3 h4 h5 h6 h7 h8 h9
/-- .. and what it holds: null or some reference -/
def vx_Zq (C n d : String) (A : Nat → Prop) (U : State) (H : Heap) : Prop := va_Zq C n d A U H ∧ vx_L C n d A U H
theorem vx_Zq.moved {C n d : String} {A : Nat → Prop} {u U : State} {H : Heap} (hvm : u.vm.Alike U.vm) (h : vx_Zq C n d A u H) : vx_Zq C n d A U H := ⟨va_Zq.moved hvm h.1, vx_L.moved hvm h.2⟩
theorem vx_Zq.kept {C n d : String} {A : Nat → Prop} {U : State} {H H1 : Heap} (h : vx_Zq C n d A U H) (hq : ∀ a : Nat, a < H.size → ¬ A a → H1[a]? = H[a]?) : vx_Zq C n d A U H1 := ⟨va_Zq.kept h.1 hq, vx_L.kept h.2 hq⟩
theorem vx_Zq.narrow {C n d : String} {A B : Nat → Prop} {U : State} {H : Heap} (h : vx_Zq C n d A U H) (hAB : ∀ q, B q → A q) : vx_Zq C n d B U H := ⟨va_Zq.narrow h.1 hAB, vx_L.narrow h.2 hAB⟩
theorem vx_Zqof {args : Array Value} {s : State} {C n d : String} {A : Nat → Prop} (hl : (Cond.laysStatic C n d).before args s = true) (hini : (Cond.initialized C).before args s = true) (h : (Cond.isRef (.static C n d)).before args s = true) (hA : ∀ a : Nat, a < s.heap.size → ¬ A a) : vx_Zq C n d A s s.heap := by
  refine ⟨va_Zqof hl hini h hA, ?_⟩
  obtain ⟨c, k, i, f, a, cell, h1, h2, h3, h4, h5, h6, h7, h8, h9⟩ := Cond.laysStatic_spec hl
  exact ⟨c, k, i, f, a, cell, h1, h2, h3, h4, h5, h6, h7, h8, h9, hA a (Array.getElem?_eq_some_iff.mp h5).1⟩
theorem vx_isRef {C n d : String} {v : Value} {A : Nat → Prop} {s : State} {args : Array Value} (h : va_Z C n d v A s s.heap) (hv : v.isRef = true) : (Cond.isRef (.static C n d)).before args s = true := by
  obtain ⟨cf, kf, fi, f, a, cell, h1, h2, h3, h4, h5, h6, h7, -⟩ := h
  have he : (Term.static C n d).eval args s none [] s = some v := by
    simp [Term.eval, State.fieldNamed?, h1, h2, h4, h5, h6, h7]
  simp only [Cond.before, Cond.holds, Cond.value, he]
  cases v <;> simp_all [Value.isRef]
theorem vx_isRefq {C n d : String} {A : Nat → Prop} {s : State} {args : Array Value} (h : va_Zq C n d A s s.heap) : (Cond.isRef (.static C n d)).before args s = true := by
  rcases h with h | ⟨t, h⟩
  · exact vx_isRef h rfl
  · exact vx_isRef h rfl
/-- the same frame, seen from here: as if the method were called anew in this heap -/
theorem vx_rebase {T : State} (X : Stand p l e R s m args below meth c T locs cells slots) {R' : Room} (hf : R'.frames ≤ R.frames) (hl : R'.locals ≤ R.locals) (hc : cells + R'.cells ≤ R.cells) (hs : slots + R'.slots ≤ R.slots) :
    Stand p l e R' ((T.setVm s.vm).setFrames (.invoking m args :: below)) m args below meth c T [] 0 0 := by
  have htop : (T.setVm s.vm).topJava?.isSome := X.here.top
  have hF : ((T.setVm s.vm).setFrames (.invoking m args :: below)).frames = .invoking m args :: below := State.frames_setFrames _ (State.cur_lt_of_top htop)
  obtain ⟨g₀, hg0⟩ := Option.isSome_iff_exists.mp htop
  obtain ⟨r, hr⟩ := State.topJava?_eq_some.mp hg0
  have hl9 : e.platform.stackLimits (T.setVm s.vm).me = e.platform.stackLimits s.me := X.limits
  have hb9 : (T.setVm s.vm).me.stackBytes = s.me.stackBytes := X.bytes
  refine ⟨X.admits, X.cas, X.clock, hF, ?_, X.hears, X.method, X.code, X.here, X.tail, X.warmed, ?_, ?_, ?_⟩
  · have h := X.room
    have hU : ((T.setVm s.vm).setFrames (.invoking m args :: below)).localsInUse = s.localsInUse := by
      rw [State.localsInUse_invoking hF (meth := meth) (c := c) X.method X.code, State.localsInUse_invoking X.frames X.method X.code]
    simp only [State.hasRoom, Bool.and_eq_true, decide_eq_true_eq] at h ⊢
    obtain ⟨⟨⟨⟨h1, h2, h3, h4, h5, h6⟩, h7⟩, h8⟩, h9⟩ := h
    rw [X.frames, List.length_cons] at h2 h3
    have q1 := X.heapSize
    have q2 := X.used
    simp only [hF, hU, List.length_cons, State.stackLimits_setFrames, State.stackBytes_setFrames, hl9, hb9]
    refine ⟨⟨⟨⟨by omega, by omega, by omega, by omega, by omega, h6⟩, ?_⟩, ?_⟩, X.book⟩
    · show T.heap.size + R'.cells ≤ e.platform.maxCells
      omega
    · show T.slotsUsed + R'.slots ≤ e.platform.maxSlots
      omega
  · rw [State.stackLimits_setFrames]; rfl
  · rw [State.stackBytes_setFrames]; rfl
  · refine ⟨?_, Nat.le_refl _, Nat.le_refl _, ?_, ?_, fun a c9 h9 => ⟨c9, h9, rfl, rfl, fun _ _ => rfl⟩⟩
    · obtain ⟨t, ht, -⟩ := State.frames_cons hr
      show T.setVm s.vm = { ((T.setVm s.vm).setFrames (.invoking m args :: below)).setFrames (T.setVm s.vm).frames with heap := T.heap, slotsUsed := T.slotsUsed }
      rw [State.setFrames_setFrames, State.setFrames_self ht]
      rfl
    · show T.slotsUsed = T.slotsUsed + ((T.heap.toList.drop T.heap.size).map (·.slots.size)).sum
      rw [List.drop_eq_nil_of_le (Nat.le_of_eq Array.length_toList)]
      rfl
    · show ((T.heap.toList.drop T.heap.size).map (·.slots.size)).sum ≤ 0
      rw [List.drop_eq_nil_of_le (Nat.le_of_eq Array.length_toList)]
      exact Nat.le_refl _
/-- 'throw new E()': new; dup; invokespecial; athrow -/
theorem vx_throw0 {cc : ByteArray} {pc : Nat} (hexec : p.tables.exec = Jvm.exec) (hb : c.code = cc) (hl : l.stackTraces = false) {own cls : String} {names : List String} {ik ic mc ms : Nat} {A : Nat → Prop}
    (hown : s.vm.findClass own = some m.cls) (hcls : Bundle.fit cls = true) (hnames : ∀ n ∈ names, Bundle.fit n = true)
    (hk : (Cond.classLink own ik cls).before args s = true) (hini : (Cond.initialized cls).before args s = true) (hat : ∀ w ∈ vx_at0 own ic cls names, w.before args s = true)
    (hgood : ∀ w ∈ Cond.classLink own ik cls :: Cond.initialized cls :: vx_at0 own ic cls names, vx_ot w = true)
    (hU : vx_Zq Bundle.tN "UNASSIGNED_STACK" Bundle.steD A s s.heap) (hN : vx_Zq Bundle.tN "SUPPRESSED_SENTINEL" Bundle.listD A s s.heap) (hS : va_S A s.heap H locs) (hsize : ls.size = c.maxLocals)
    (d0 : decode cc pc = .ok (.new ik, 3)) (d3 : decode cc (pc + 3) = .ok (.dup, 1)) (d4 : decode cc (pc + 4) = .ok (.invokespecial ic, 3)) (d7 : decode cc (pc + 7) = .ok (.athrow, 1))
    (hout : ∀ x ∈ c.exceptionTable.toList, covers x (pc + 7) = false)
    (hRframes : names.length + 3 < R.frames) (hRlocals : (rest.map fun v => v.category).sum + (13 * (names.length + 1) + 42) ≤ R.locals) (hRcells : cells + 1 ≤ R.cells) (hRslots : slots + 6 ≤ R.slots) (hlocks : meth.locks = false)
    (hx : ∀ t : State, s.vm.Alike t.vm → H.size ≤ t.heap.size → (∀ q : Nat, q < H.size → t.heap[q]? = H[q]?) → XC cls s t)
    (hf : ∀ z ∈ locs, free z.base) (hc : cells + 1 ≤ mc) (hs : slots + 6 ≤ ms) :
    W p l e R s m args below meth c H locs cells slots (vx_MQ below Qc XC args s mc ms free) (F0 m pc ls rest) := by
  intro T hT X
  have htr : e.platform.stackTraces = false := (show e.platform.stackTraces = l.stackTraces by rw [X.admits.platform]).trans hl
  have Y := vx_rebase X (R' := { frames := R.frames, locals := R.locals, cells := 1, slots := 6 }) (Nat.le_refl _) (Nat.le_refl _) hRcells hRslots
  obtain ⟨s', hA⟩ : ∃ z, z = (T.setVm s.vm).setFrames (.invoking m args :: below) := ⟨_, rfl⟩
  rw [← hA] at Y
  have hvm : s'.vm = s.vm := by rw [hA]; rfl
  have hhp : s'.heap = H := by rw [hA]; exact hT
  have hW0 : s.WarmedH s'.vm := by rw [hvm]; exact State.WarmedH.refl s
  have hat' : ∀ w ∈ vx_at0 own ic cls names, w.before args s' = true := fun w hw => vx_ot_at hW0 hvm.symm (hgood w (List.mem_cons_of_mem _ (List.mem_cons_of_mem _ hw))) (hat w hw)
  have hk' : (Cond.classLink own ik cls).before args s' = true := vx_ot_at hW0 hvm.symm (hgood _ List.mem_cons_self) hk
  have hini' : (Cond.initialized cls).before args s' = true := vx_ot_at hW0 hvm.symm (hgood _ (List.mem_cons_of_mem _ List.mem_cons_self)) hini
  have hU' : vx_Zq Bundle.tN "UNASSIGNED_STACK" Bundle.steD A s' s'.heap := by rw [hhp]; exact vx_Zq.moved hW0.alike (hU.kept hS.2.1)
  have hN' : vx_Zq Bundle.tN "SUPPRESSED_SENTINEL" Bundle.listD A s' s'.heap := by rw [hhp]; exact vx_Zq.moved hW0.alike (hN.kept hS.2.1)
  have h : ∀ w ∈ Bundle.ownAtoms0 own ic cls names, w.before args s' = true := vx_own hat' (vx_isRefq hU'.1) (vx_isRefq hN'.1) hU'.2.word hN'.2.word
  have hown' : s'.vm.findClass own = some m.cls := by rw [hvm]; exact hown
  have hins : (Cond.instantiable cls 6).before args s' = true := h _ (by simp [Bundle.ownAtoms0])
  obtain ⟨vm₁, cX, kX, hfX, hkX, -, -, X₁, st1⟩ := Y.newCold hexec (own := own) (C := cls) (index := ik) (n := 6) hown' hk' hins hini'
    (g := F0 m pc ls rest) rfl (by rw [hb]; exact d0) (Nat.le_refl _) (Nat.le_refl _)
  generalize hT1 : (T.setVm vm₁).pushCell { cls := cX, slots := kX.instanceTypes.map defaultValue, vm := .none } = T1 at X₁ st1
  have hcat : (Value.ref T.heap.size).category = 1 := rfl
  have hcellA : T1.heap[T.heap.size]? = some (freshCell cX kX) := by rw [← hT1]; exact State.heap_pushCell_size _ _
  have d3' : decode c.code (pc + 3) = .ok (.dup, 1) := by rw [hb]; exact d3
  obtain ⟨U, hsteps, hrun, hend, hW, hsame, ce, hce, hO⟩ := X₁.ctorThrow0 hexec htr (own := own) (cls := cls) (names := names) (ic := ic) hown' hcls hnames h (fun x hx => nomatch hx) hfX hkX hcellA (by rw [hhp, hT]; exact Nat.le_refl _)
    (g := { method := m, pc := pc + 4, locals := ls, stack := .ref T.heap.size :: .ref T.heap.size :: rest, locked := none }) rfl hsize rfl rfl (rest := rest) rfl
    (by rw [hb]; exact d4) (by rw [hb]; exact d7) hout hRframes (by simp only [List.map_cons, List.sum_cons, hcat]; omega) hlocks
  obtain ⟨f1, f2⟩ := vx_frame hsame
  rw [hhp] at f1 f2
  have hWs : s.WarmedH U.vm := State.WarmedH.trans hW0 hW
  have hcl : s.vm.findClass cls = some ce.cls := by
    have h9 := hO.cls
    rw [hvm] at h9
    exact h9
  have hall : s.sameButNew ({ U with vm := s.vm } : State) locs mc ms := by
    subst hA
    obtain ⟨e1, e2⟩ := hsame
    rw [State.setFrames_setFrames] at e1
    have h2 : (T.setVm s.vm).sameButNew ({ U with vm := s.vm } : State) [] (0 + 1) (0 + 6) := ⟨e1, e2⟩
    have h3 := X.same.trans h2
    rw [List.append_nil] at h3
    exact h3.mono hc hs
  refine ⟨U, ?_, .threw T.heap.size, hrun, hend, Or.inr ⟨T.heap.size, rfl, cls, ce, locs, hx U hWs.alike f1 (fun q hq => f2 q hq (fun z hz => nomatch hz)), hce, hO.vm, hcl, hWs, hall, hf⟩⟩
  refine st1 _ ?_
  show Steps p.tables e below (T1.setTop { method := m, pc := pc + 3, locals := ls, stack := .ref T.heap.size :: rest, locked := none }) _
  jvm_step X₁.here [X₁.here.top, hexec, d3', Value.category]
  exact hsteps
/-- 'throw new E("text")': new; dup; ldc; invokespecial; athrow -/
theorem vx_throwS {cc : ByteArray} {pc : Nat} (hexec : p.tables.exec = Jvm.exec) (hb : c.code = cc) (hl : l.stackTraces = false) {own cls text : String} {names : List String} {ik is ic mc ms sa : Nat} {A : Nat → Prop}
    (hown : s.vm.findClass own = some m.cls) (hcls : Bundle.fit cls = true) (hnames : ∀ n ∈ names, Bundle.fit n = true)
    (hk : (Cond.classLink own ik cls).before args s = true) (hini : (Cond.initialized cls).before args s = true) (hstr : vk_R own is text sa s) (hat : ∀ w ∈ vx_atS own ic cls names, w.before args s = true)
    (hgood : ∀ w ∈ Cond.classLink own ik cls :: Cond.initialized cls :: vx_atS own ic cls names, vx_ot w = true)
    (hU : vx_Zq Bundle.tN "UNASSIGNED_STACK" Bundle.steD A s s.heap) (hN : vx_Zq Bundle.tN "SUPPRESSED_SENTINEL" Bundle.listD A s s.heap) (hS : va_S A s.heap H locs) (hsize : ls.size = c.maxLocals)
    (d0 : decode cc pc = .ok (.new ik, 3)) (d3 : decode cc (pc + 3) = .ok (.dup, 1)) (d4 : decode cc (pc + 4) = .ok (.ldc is, 2)) (d6 : decode cc (pc + 6) = .ok (.invokespecial ic, 3)) (d9 : decode cc (pc + 9) = .ok (.athrow, 1))
    (hout : ∀ x ∈ c.exceptionTable.toList, covers x (pc + 9) = false)
    (hRframes : names.length + 3 < R.frames) (hRlocals : (rest.map fun v => v.category).sum + (13 * (names.length + 1) + 43) ≤ R.locals) (hRcells : cells + 1 ≤ R.cells) (hRslots : slots + 6 ≤ R.slots) (hlocks : meth.locks = false)
    (hx : ∀ t : State, s.vm.Alike t.vm → H.size ≤ t.heap.size → (∀ q : Nat, q < H.size → t.heap[q]? = H[q]?) → XC cls s t)
    (hf : ∀ z ∈ locs, free z.base) (hc : cells + 1 ≤ mc) (hs : slots + 6 ≤ ms) :
    W p l e R s m args below meth c H locs cells slots (vx_MQ below Qc XC args s mc ms free) (F0 m pc ls rest) := by
  intro T hT X
  have htr : e.platform.stackTraces = false := (show e.platform.stackTraces = l.stackTraces by rw [X.admits.platform]).trans hl
  have Y := vx_rebase X (R' := { frames := R.frames, locals := R.locals, cells := 1, slots := 6 }) (Nat.le_refl _) (Nat.le_refl _) hRcells hRslots
  obtain ⟨s', hA⟩ : ∃ z, z = (T.setVm s.vm).setFrames (.invoking m args :: below) := ⟨_, rfl⟩
  rw [← hA] at Y
  have hvm : s'.vm = s.vm := by rw [hA]; rfl
  have hhp : s'.heap = H := by rw [hA]; exact hT
  have hW0 : s.WarmedH s'.vm := by rw [hvm]; exact State.WarmedH.refl s
  have hat' : ∀ w ∈ vx_atS own ic cls names, w.before args s' = true := fun w hw => vx_ot_at hW0 hvm.symm (hgood w (List.mem_cons_of_mem _ (List.mem_cons_of_mem _ hw))) (hat w hw)
  have hk' : (Cond.classLink own ik cls).before args s' = true := vx_ot_at hW0 hvm.symm (hgood _ List.mem_cons_self) hk
  have hini' : (Cond.initialized cls).before args s' = true := vx_ot_at hW0 hvm.symm (hgood _ (List.mem_cons_of_mem _ List.mem_cons_self)) hini
  have hU' : vx_Zq Bundle.tN "UNASSIGNED_STACK" Bundle.steD A s' s'.heap := by rw [hhp]; exact vx_Zq.moved hW0.alike (hU.kept hS.2.1)
  have hN' : vx_Zq Bundle.tN "SUPPRESSED_SENTINEL" Bundle.listD A s' s'.heap := by rw [hhp]; exact vx_Zq.moved hW0.alike (hN.kept hS.2.1)
  have h : ∀ w ∈ Bundle.ownAtoms own ic cls names, w.before args s' = true := vx_own hat' (vx_isRefq hU'.1) (vx_isRefq hN'.1) hU'.2.word hN'.2.word
  have hown' : s'.vm.findClass own = some m.cls := by rw [hvm]; exact hown
  have hins : (Cond.instantiable cls 6).before args s' = true := h _ (by simp [Bundle.ownAtoms])
  obtain ⟨vm₁, cX, kX, hfX, hkX, -, -, X₁, st1⟩ := Y.newCold hexec (own := own) (C := cls) (index := ik) (n := 6) hown' hk' hins hini'
    (g := F0 m pc ls rest) rfl (by rw [hb]; exact d0) (Nat.le_refl _) (Nat.le_refl _)
  generalize hT1 : (T.setVm vm₁).pushCell { cls := cX, slots := kX.instanceTypes.map defaultValue, vm := .none } = T1 at X₁ st1
  have hcat : (Value.ref T.heap.size).category = 1 := rfl
  have hcellA : T1.heap[T.heap.size]? = some (freshCell cX kX) := by rw [← hT1]; exact State.heap_pushCell_size _ _
  have d3' : decode c.code (pc + 3) = .ok (.dup, 1) := by rw [hb]; exact d3
  have d4' : decode c.code (pc + 4) = .ok (.ldc is, 2) := by rw [hb]; exact d4
  have hstr' : vk_R own is text sa s' := vk_R.warm hW0 hstr
  obtain ⟨U, hsteps, hrun, hend, hW, hsame, ce, hce, hO⟩ := X₁.ctorThrowS hexec htr (own := own) (cls := cls) (names := names) (ic := ic) hown' hcls hnames h (fun x hx => nomatch hx) hfX hkX hcellA (by rw [hhp, hT]; exact Nat.le_refl _) (msg := .ref sa) rfl
    (g := { method := m, pc := pc + 6, locals := ls, stack := .ref sa :: .ref T.heap.size :: .ref T.heap.size :: rest, locked := none }) rfl hsize rfl rfl (rest := rest) rfl
    (by rw [hb]; exact d6) (by rw [hb]; exact d9) hout hRframes (by simp only [List.map_cons, List.sum_cons, hcat]; omega) hlocks
  obtain ⟨f1, f2⟩ := vx_frame hsame
  rw [hhp] at f1 f2
  have hWs : s.WarmedH U.vm := State.WarmedH.trans hW0 hW
  have hcl : s.vm.findClass cls = some ce.cls := by
    have h9 := hO.cls
    rw [hvm] at h9
    exact h9
  have hall : s.sameButNew ({ U with vm := s.vm } : State) locs mc ms := by
    subst hA
    obtain ⟨e1, e2⟩ := hsame
    rw [State.setFrames_setFrames] at e1
    have h2 : (T.setVm s.vm).sameButNew ({ U with vm := s.vm } : State) [] (0 + 1) (0 + 6) := ⟨e1, e2⟩
    have h3 := X.same.trans h2
    rw [List.append_nil] at h3
    exact h3.mono hc hs
  refine ⟨U, ?_, .threw T.heap.size, hrun, hend, Or.inr ⟨T.heap.size, rfl, cls, ce, locs, hx U hWs.alike f1 (fun q hq => f2 q hq (fun z hz => nomatch hz)), hce, hO.vm, hcl, hWs, hall, hf⟩⟩
  refine st1 _ ?_
  show Steps p.tables e below (T1.setTop { method := m, pc := pc + 3, locals := ls, stack := .ref T.heap.size :: rest, locked := none }) _
  jvm_step X₁.here [X₁.here.top, hexec, d3', Value.category]
  exact X₁.ldcString hexec (own := own) (text := text) (index := is) (a := sa) hown' hstr'.1 hstr'.2
    (g := { method := m, pc := pc + 4, locals := ls, stack := .ref T.heap.size :: .ref T.heap.size :: rest, locked := none }) rfl d4' _ hsteps
/-- 'throw new E("text")', the text by a wide index -/
theorem vx_throwSW {cc : ByteArray} {pc : Nat} (hexec : p.tables.exec = Jvm.exec) (hb : c.code = cc) (hl : l.stackTraces = false) {own cls text : String} {names : List String} {ik is ic mc ms sa : Nat} {A : Nat → Prop}
    (hown : s.vm.findClass own = some m.cls) (hcls : Bundle.fit cls = true) (hnames : ∀ n ∈ names, Bundle.fit n = true)
    (hk : (Cond.classLink own ik cls).before args s = true) (hini : (Cond.initialized cls).before args s = true) (hstr : vk_R own is text sa s) (hat : ∀ w ∈ vx_atS own ic cls names, w.before args s = true)
    (hgood : ∀ w ∈ Cond.classLink own ik cls :: Cond.initialized cls :: vx_atS own ic cls names, vx_ot w = true)
    (hU : vx_Zq Bundle.tN "UNASSIGNED_STACK" Bundle.steD A s s.heap) (hN : vx_Zq Bundle.tN "SUPPRESSED_SENTINEL" Bundle.listD A s s.heap) (hS : va_S A s.heap H locs) (hsize : ls.size = c.maxLocals)
    (d0 : decode cc pc = .ok (.new ik, 3)) (d3 : decode cc (pc + 3) = .ok (.dup, 1)) (d4 : decode cc (pc + 4) = .ok (.ldc_w is, 3)) (d7 : decode cc (pc + 7) = .ok (.invokespecial ic, 3)) (d10 : decode cc (pc + 10) = .ok (.athrow, 1))
    (hout : ∀ x ∈ c.exceptionTable.toList, covers x (pc + 10) = false)
    (hRframes : names.length + 3 < R.frames) (hRlocals : (rest.map fun v => v.category).sum + (13 * (names.length + 1) + 43) ≤ R.locals) (hRcells : cells + 1 ≤ R.cells) (hRslots : slots + 6 ≤ R.slots) (hlocks : meth.locks = false)
    (hx : ∀ t : State, s.vm.Alike t.vm → H.size ≤ t.heap.size → (∀ q : Nat, q < H.size → t.heap[q]? = H[q]?) → XC cls s t)
    (hf : ∀ z ∈ locs, free z.base) (hc : cells + 1 ≤ mc) (hs : slots + 6 ≤ ms) :
    W p l e R s m args below meth c H locs cells slots (vx_MQ below Qc XC args s mc ms free) (F0 m pc ls rest) := by
  intro T hT X
  have htr : e.platform.stackTraces = false := (show e.platform.stackTraces = l.stackTraces by rw [X.admits.platform]).trans hl
  have Y := vx_rebase X (R' := { frames := R.frames, locals := R.locals, cells := 1, slots := 6 }) (Nat.le_refl _) (Nat.le_refl _) hRcells hRslots
  obtain ⟨s', hA⟩ : ∃ z, z = (T.setVm s.vm).setFrames (.invoking m args :: below) := ⟨_, rfl⟩
  rw [← hA] at Y
  have hvm : s'.vm = s.vm := by rw [hA]; rfl
  have hhp : s'.heap = H := by rw [hA]; exact hT
  have hW0 : s.WarmedH s'.vm := by rw [hvm]; exact State.WarmedH.refl s
  have hat' : ∀ w ∈ vx_atS own ic cls names, w.before args s' = true := fun w hw => vx_ot_at hW0 hvm.symm (hgood w (List.mem_cons_of_mem _ (List.mem_cons_of_mem _ hw))) (hat w hw)
  have hk' : (Cond.classLink own ik cls).before args s' = true := vx_ot_at hW0 hvm.symm (hgood _ List.mem_cons_self) hk
  have hini' : (Cond.initialized cls).before args s' = true := vx_ot_at hW0 hvm.symm (hgood _ (List.mem_cons_of_mem _ List.mem_cons_self)) hini
  have hU' : vx_Zq Bundle.tN "UNASSIGNED_STACK" Bundle.steD A s' s'.heap := by rw [hhp]; exact vx_Zq.moved hW0.alike (hU.kept hS.2.1)
  have hN' : vx_Zq Bundle.tN "SUPPRESSED_SENTINEL" Bundle.listD A s' s'.heap := by rw [hhp]; exact vx_Zq.moved hW0.alike (hN.kept hS.2.1)
  have h : ∀ w ∈ Bundle.ownAtoms own ic cls names, w.before args s' = true := vx_own hat' (vx_isRefq hU'.1) (vx_isRefq hN'.1) hU'.2.word hN'.2.word
  have hown' : s'.vm.findClass own = some m.cls := by rw [hvm]; exact hown
  have hins : (Cond.instantiable cls 6).before args s' = true := h _ (by simp [Bundle.ownAtoms])
  obtain ⟨vm₁, cX, kX, hfX, hkX, -, -, X₁, st1⟩ := Y.newCold hexec (own := own) (C := cls) (index := ik) (n := 6) hown' hk' hins hini'
    (g := F0 m pc ls rest) rfl (by rw [hb]; exact d0) (Nat.le_refl _) (Nat.le_refl _)
  generalize hT1 : (T.setVm vm₁).pushCell { cls := cX, slots := kX.instanceTypes.map defaultValue, vm := .none } = T1 at X₁ st1
  have hcat : (Value.ref T.heap.size).category = 1 := rfl
  have hcellA : T1.heap[T.heap.size]? = some (freshCell cX kX) := by rw [← hT1]; exact State.heap_pushCell_size _ _
  have d3' : decode c.code (pc + 3) = .ok (.dup, 1) := by rw [hb]; exact d3
  have d4' : decode c.code (pc + 4) = .ok (.ldc_w is, 3) := by rw [hb]; exact d4
  have hstr' : vk_R own is text sa s' := vk_R.warm hW0 hstr
  obtain ⟨U, hsteps, hrun, hend, hW, hsame, ce, hce, hO⟩ := X₁.ctorThrowS hexec htr (own := own) (cls := cls) (names := names) (ic := ic) hown' hcls hnames h (fun x hx => nomatch hx) hfX hkX hcellA (by rw [hhp, hT]; exact Nat.le_refl _) (msg := .ref sa) rfl
    (g := { method := m, pc := pc + 7, locals := ls, stack := .ref sa :: .ref T.heap.size :: .ref T.heap.size :: rest, locked := none }) rfl hsize rfl rfl (rest := rest) rfl
    (by rw [hb]; exact d7) (by rw [hb]; exact d10) hout hRframes (by simp only [List.map_cons, List.sum_cons, hcat]; omega) hlocks
  obtain ⟨f1, f2⟩ := vx_frame hsame
  rw [hhp] at f1 f2
  have hWs : s.WarmedH U.vm := State.WarmedH.trans hW0 hW
  have hcl : s.vm.findClass cls = some ce.cls := by
    have h9 := hO.cls
    rw [hvm] at h9
    exact h9
  have hall : s.sameButNew ({ U with vm := s.vm } : State) locs mc ms := by
    subst hA
    obtain ⟨e1, e2⟩ := hsame
    rw [State.setFrames_setFrames] at e1
    have h2 : (T.setVm s.vm).sameButNew ({ U with vm := s.vm } : State) [] (0 + 1) (0 + 6) := ⟨e1, e2⟩
    have h3 := X.same.trans h2
    rw [List.append_nil] at h3
    exact h3.mono hc hs
  refine ⟨U, ?_, .threw T.heap.size, hrun, hend, Or.inr ⟨T.heap.size, rfl, cls, ce, locs, hx U hWs.alike f1 (fun q hq => f2 q hq (fun z hz => nomatch hz)), hce, hO.vm, hcl, hWs, hall, hf⟩⟩
  refine st1 _ ?_
  show Steps p.tables e below (T1.setTop { method := m, pc := pc + 3, locals := ls, stack := .ref T.heap.size :: rest, locked := none }) _
  jvm_step X₁.here [X₁.here.top, hexec, d3', Value.category]
  exact X₁.ldcStringW hexec (own := own) (text := text) (index := is) (a := sa) hown' hstr'.1 hstr'.2
    (g := { method := m, pc := pc + 4, locals := ls, stack := .ref T.heap.size :: .ref T.heap.size :: rest, locked := none }) rfl d4' _ hsteps
end Ends
section Bodies
variable {l : Launch}
theorem vx_ofW {y : MethodName} {ws ws' : List Cond} {rm : Room} {Pc : Array Value → State → Prop} {Qc : Array Value → State → Outcome → State → Prop} {XC : String → State → State → Prop} {mc ms : Nat} {free : Addr → Prop} {cc : ByteArray} {maxL : Nat} {ret : Option FieldType}
    (hy : plainName y.cls = true) (hw : ws = Cond.code y cc maxL ret :: ws')
    (body : ∀ p e s m args below meth c s₁, BodyLoose p l y (headSpec ws rm) cc maxL ret e s m args below meth c s₁ → c.maxLocals = maxL → (∀ x ∈ c.exceptionTable.toList, False) → Pc args s →
      W p l e (headSpec ws rm).room s m args below meth c s.heap [] 0 0 (vx_MQ below Qc XC args s mc ms free) (entryFrame m args maxL)) : vx_Met l y ws rm Pc Qc XC mc ms free := by
  refine MetFree.of_bodyS (code := cc) (maxLocals := maxL) (ret := ret) hy ?_ ?_
  · intro args s m h hn
    obtain ⟨meth, c, h1, h2, h3, h4, h5, h6, -, -⟩ := Cond.code_spec hn (atoms_spec (ws := ws) h _ (by rw [hw]; exact List.mem_cons_self))
    exact ⟨meth, c, h1, h2, h3, h4, h5, h6⟩
  · intro p e s m args below meth c s₁ B hml hP _
    have hh0 : s₁.heap = s.heap := by rw [B.state]; rfl
    have ht : ∀ x ∈ c.exceptionTable.toList, False := by
      obtain ⟨meth9, c9, h1, h2, -, -, -, -, h7, -⟩ := Cond.code_spec B.named (atoms_spec (ws := ws) B.pre _ (by rw [hw]; exact List.mem_cons_self))
      cases Option.some.inj (h1.symm.trans B.method)
      cases Option.some.inj (h2.symm.trans (Stand.of_body B).code)
      intro x hx
      rw [Array.isEmpty_iff.mp h7] at hx
      cases hx
    obtain ⟨t, a1, o, b1, b2, b3⟩ := body p e s m args below meth c s₁ B hml ht hP s₁ hh0 (Stand.of_body B)
    exact ⟨t, o, a1, b1, b2, b3⟩
/-- the table of a body with handlers -/
theorem vx_table {p : Program} {x y : MethodName} {S : Spec} {cc bytes : ByteArray} {maxL maxL' : Nat} {ret ret' : Option FieldType} {e : Env} {s s₁ : State} {m : MethodId} {args : Array Value} {below : List Frame} {meth : Method} {c : Code} {hh : List (Nat × Nat × Nat × Nat)}
    (B : BodyLoose p l y S cc maxL ret e s m args below meth c s₁) (h : (Cond.codeWith y bytes maxL' ret' hh).before args s = true) : c.exceptionTable.toList = tableOf hh := by
  obtain ⟨m9, meth9, c9, hn9, h1, h2, -, -, h6, -⟩ := Cond.codeWith_spec h
  cases Option.some.inj (hn9.symm.trans B.named)
  cases Option.some.inj (h1.symm.trans B.method)
  cases Option.some.inj (h2.symm.trans (Stand.of_body B).code)
  rw [← h6, table_eq]
end Bodies
end VXA
/-! ===== END ===== -/
/-! ===== BEGIN a static call of a method with an exception table ===== -/
section VXS
variable {p : Program} {l : Launch} {e : Env} {R : Room} {s : State} {m : MethodId} {args : Array Value} {below : List Frame} {meth : Method} {c : Code} {T : State} {H : Heap} {locs : List Loc} {cells slots : Nat}
abbrev vx_CSW (R : Room) (s : State) (args : Array Value) (own : String) (index : Nat) (y : MethodName) (bytes : ByteArray) (maxL : Nat) (ret : Option FieldType) (hh : List (Nat × Nat × Nat × Nat)) (ws : List Cond) (rm : Room) (mc ms n : Nat) : Prop :=
  (rm.cells = mc ∧ rm.slots = ms ∧ rm.frames + 1 ≤ R.frames ∧ 8 + (maxL + 11) + rm.locals ≤ R.locals ∧ (∀ w ∈ ws, ∀ (a' : Array Value) (U : State), s.WarmedH U.vm → w.before a' U = true) ∧ Cond.codeWith y bytes maxL ret hh ∈ ws) ∧
  (Cond.codeWith y bytes maxL ret hh).before args s = true ∧ (Cond.initialized y.cls).before args s = true ∧ (y.cls ≠ "java/lang/invoke/MethodHandle" ∧ y.cls ≠ "java/lang/invoke/VarHandle") ∧
  (∀ sig, parseMethodDescriptor y.desc = some sig → n = sig.parameters.length) ∧ (Cond.methodLink own index y).before args s = true ∧ (Cond.static y).before args s = true
theorem vx_cwSW {own : String} {index maxL mc ms : Nat} {y : MethodName} {bytes : ByteArray} {ret : Option FieldType} {hh : List (Nat × Nat × Nat × Nat)} {Ts ws ws' : List Cond} {rm : Room} (n : Nat) (ht : ∀ w ∈ Ts, w.before args s = true) (hT : GoodIn Ts (va_wsS own index y ws)) (hw : ws = Cond.codeWith y bytes maxL ret hh :: ws') (hrc : rm.cells = mc) (hrs : rm.slots = ms)
    (hd : y.cls ≠ "java/lang/invoke/MethodHandle" ∧ y.cls ≠ "java/lang/invoke/VarHandle" ∧ (parseMethodDescriptor y.desc).map (fun d => d.parameters.length) = some n) (hR : rm.frames + 1 ≤ R.frames ∧ 8 + (maxL + 11) + rm.locals ≤ R.locals) :
    vx_CSW R s args own index y bytes maxL ret hh ws rm mc ms n := by
  have ok : ∀ w ∈ va_wsS own index y ws, w.before args s = true := fun w h => ht w (hT w h).1
  have hG : GoodIn Ts ws := fun w h => hT w (by unfold va_wsS; exact List.mem_append_right _ h)
  have hc : Cond.codeWith y bytes maxL ret hh ∈ ws := by rw [hw]; exact List.mem_cons_self
  refine ⟨⟨hrc, hrs, hR.1, hR.2, pay_in ht hG, hc⟩, ht _ (hG _ hc).1, ok _ (by simp [va_wsS]), ⟨hd.1, hd.2.1⟩, fun sig h => ?_, ok _ (by simp [va_wsS]), ok _ (by simp [va_wsS])⟩
  have h2 := hd.2.2
  rw [h] at h2
  exact (Option.some.inj h2).symm
theorem vx_callSW (X : Stand p l e R s m args below meth c T locs cells slots) (hexec : p.tables.exec = Jvm.exec) {own : String} {index : Nat} {y : MethodName} {bytes : ByteArray} {maxL : Nat} {ret : Option FieldType} {hh : List (Nat × Nat × Nat × Nat)}
    (hown : s.vm.findClass own = some m.cls) (hlink : (Cond.methodLink own index y).before args s = true) (hstat : (Cond.static y).before args s = true) (hinit : (Cond.initialized y.cls).before args s = true)
    (hcode : (Cond.codeWith y bytes maxL ret hh).before args s = true) (hy : y.cls ≠ "java/lang/invoke/MethodHandle" ∧ y.cls ≠ "java/lang/invoke/VarHandle")
    {W9 : Nat} {Pre : Pt → Array Value → Prop} {Post : Pt → Array Value → Option Value → Pt → Prop} (hK : Back l R p e below s args y 3 W9 Pre Post)
    {g : JFrame} (hg : g.method = m) (hsize : g.locals.size = c.maxLocals) {argsL rest : List Value} (hlen : ∀ sig, parseMethodDescriptor y.desc = some sig → argsL.length = sig.parameters.length)
    (hstack : g.stack = argsL.reverse ++ rest) (hW : 2 * g.monitorRoom + (rest.map fun v => v.category).sum ≤ W9) (hdg : decode c.code g.pc = .ok (.invokestatic index, 3))
    (hpre : ∀ vm₁, s.WarmedH vm₁ → Pre ⟨T.setVm vm₁, locs, cells, slots⟩ argsL.toArray) :
    ∃ (v : Option Value) (vm₁ : Vm) (B : Pt), s.WarmedH vm₁ ∧ Stand p l e R s m args below meth c B.U B.locs B.cells B.slots ∧ Post ⟨T.setVm vm₁, locs, cells, slots⟩ argsL.toArray v B ∧
      ∀ target, Steps p.tables e below (B.U.setTop { g with pc := g.pc + 3, stack := v.toList ++ rest }) target → Steps p.tables e below (T.setTop g) target := by
  obtain ⟨mk, methM, cM, hnamed, hmethM, -, -, -, -, -, -, hsigM⟩ := Cond.codeWith_spec hcode
  have hstatic : methM.isStatic = true := Cond.static_spec hnamed hmethM hstat
  obtain ⟨kP, hkP, -⟩ := className_of_methodNamed hnamed
  have hinitP : kP.init = .initialized := Cond.initialized_spec (findClass_of_methodNamed hnamed) hkP hinit
  obtain ⟨vm₁, X₁, hstep₁⟩ := X.invokestatic hexec hown hlink hnamed hmethM hstatic hkP hinitP hy (g := g) hg (argsL := argsL) (rest := rest) (hlen _ hsigM) hstack hdg
  obtain ⟨v, B, X', hpost, hsteps⟩ := hK m meth c ⟨T.setVm vm₁, locs, cells, slots⟩ { g with stack := rest } (.invokestatic index) mk argsL.toArray X₁ hg hsize hdg hW (X₁.named hnamed) (hpre vm₁ X₁.warmed)
  exact ⟨v, vm₁, B, X₁.warmed, X', hpost, fun target h => hstep₁ _ fun acts => by rw [doInvoke_state]; exact hsteps.trans h⟩
theorem vx_runSW {y : MethodName} {bytes cc : ByteArray} {maxL nL mc ms n index : Nat} {ret : Option FieldType} {hh : List (Nat × Nat × Nat × Nat)} {ws : List Cond} {rm : Room} {Pc : Array Value → State → Prop} {Qc : Array Value → State → Outcome → State → Prop} {free : Addr → Prop} {Ts : List Cond} {own : String} {As rest : List Value} {g : JFrame}
    (S : CallFix p m c cc nL s args Ts own) (hM : Met l y ws rm Pc Qc mc ms free) (cw : vx_CSW R s args own index y bytes maxL ret hh ws rm mc ms n) (hp : PreS s H Pc As)
    (hg : g.method = m) (hn : As.length = n) (hsize : g.locals.size = nL) (hstack : g.stack = As.reverse ++ rest) (hW : 2 * g.monitorRoom + (rest.map fun v => v.category).sum ≤ 8) (hdg : decode cc g.pc = .ok (.invokestatic index, 3)) (hf : cells + mc ≤ R.cells ∧ slots + ms ≤ R.slots) :
    va_Run p l e R s m args below meth c H locs cells slots mc ms g rest (Qc As.toArray) (free) := by
  obtain ⟨⟨hrc, hrs, hfr, hlo, hws, hcw⟩, hcode, hini, hy, hlen, hl, hstt⟩ := cw
  have hK : Back l R p e below s args y 3 8 (PreOf R mc ms Pc) (PostOf Qc mc ms free) := va_backW (hh := hh) (bytes := bytes) (maxL := maxL) (ret := ret) hM hp.1 hrc hrs hfr hlo hws hcw (fun a' U hW => word_at hW (Or.inl (by first | rfl | simp [Cond.onTables, Cond.keeps, Cond.steady])) hini)
  obtain ⟨hx, hb, hml, ho, -⟩ := S
  intro T hT X
  obtain ⟨v, vm₁, ⟨U', l2, c2, s2⟩, hW₁, X', ⟨g', mk, t, L, e1, e2, hq, h1, hL, h2, h3⟩, st⟩ := vx_callSW X hx (hh := hh) (bytes := bytes) (maxL := maxL) (ret := ret) ho hl hstt hini hcode hy hK hg (hsize.trans hml.symm) (argsL := As) (rest := rest) (fun sig h => hn.trans (hlen sig h)) hstack hW (by rw [hb]; exact hdg)
    (fun vm₁ hW₁ => ⟨hf.1, hf.2, hp.2 (T.setVm vm₁) hT hW₁⟩)
  dsimp only [Pt.U, Pt.locs, Pt.cells, Pt.slots] at X' e1 e2 h1 h2 h3 st
  subst h1; subst h2; subst h3
  exact ⟨v, (T.setVm vm₁).calling g' mk As.toArray, t, U', L, hT, X', hL, e1, e2, hq, st⟩
/-- not caught here, past rows that name other classes: it goes on to the caller -/
theorem vx_outP {p : Program} {l : Launch} {e : Env} {R : Room} {s : State} {m : MethodId} {args : Array Value} {below : List Frame} {meth : Method} {c : Code} {H : Heap} {locs : List Loc} {cells slots : Nat} {free : Addr → Prop} {ls : Array Slot} {rest : List Value} {Qc : Array Value → State → Outcome → State → Prop} {XC : String → State → State → Prop}
    {pc : Nat} {own E : String} {ce : Cell} {q : Addr} {mc ms : Nat} (hown : s.vm.findClass own = some m.cls) (hlocks : meth.locks = false)
    (hpass : ∀ z ∈ c.exceptionTable.toList, covers z pc = false ∨ (z.catchType ≠ 0 ∧ ∃ nm : String, (Cond.classLink own z.catchType nm).before args s = true ∧ va_Nc E nm s)) (hcell : H[q]? = some ce) (hv : ce.vm = .none) (hcl : s.vm.findClass E = some ce.cls)
    (hx : ∀ t : State, t.heap = H → s.vm.Alike t.vm → XC E s t) (hf : ∀ z ∈ locs, free z.base) (hc : cells ≤ mc) (hs : slots ≤ ms) :
    vx_W p l e R s m args below meth c H locs cells slots (vx_MQ below Qc XC args s mc ms free) (F0 m pc ls rest) q := by
  intro T hT X
  have hpl : e.platform.magicAccessors = ({} : Platform).magicAccessors := by rw [X.admits.platform]
  obtain ⟨vm', hW', X', st⟩ := Jvm.Stand.outThrough X hlocks q (g := F0 m pc ls rest) rfl rfl rfl (cell := ce) (by rw [hT]; exact hcell) (by rw [hv]; rfl)
    (by obtain ⟨k9, h9, -⟩ := Vm.findClass_spec hcl; exact ⟨k9, h9⟩) (fun z hz => by
      rcases hpass z hz with h | ⟨hz0, nm, hl1, hn1⟩
      · exact Or.inl h
      · obtain ⟨c6, hc6, hcl6⟩ := Cond.classLink_spec hown hl1 e.platform hpl
        obtain ⟨a8, b8, h1, h2, h3⟩ := hn1
        cases Option.some.inj (h1.symm.trans hcl)
        cases Option.some.inj (h2.symm.trans hc6)
        exact Or.inr ⟨hz0, _, hcl6, h3⟩)
  obtain ⟨g₀, hfr⟩ := X'.frames_eq
  have hcell9 : ((T.setVm vm').setFrames (.throwing q :: below)).heap[q]? = some ce := by
    show T.heap[q]? = some ce
    rw [hT]; exact hcell
  have hend : Ended ((T.setVm vm').setFrames (.throwing q :: below)) below (.threw q) := State.frames_setFrames _ (State.cur_lt_of_frames hfr)
  refine ⟨(T.setVm vm').setFrames (.throwing q :: below), ?_, .threw q, X'.here.running, hend, Or.inr ⟨q, rfl, E, ce, locs, hx _ hT (X'.ends _).1.alike, hcell9, hv, hcl, (X'.ends _).1, (X'.ends _).2.mono hc hs, hf⟩⟩
  rw [X.pushThrowing_eq]
  exact st
/-- a thing of a world lies in the heap -/
theorem vx_lt {D : va_G} {cl : List vw_C} {ws : va_W} {H1 : Heap} (h : va_P D cl ws H1) {k : Nat} {q : Nat × va_E} (hk : ws[k]? = some q) : q.1 < H1.size := (h k q hk).lt
end VXS
/-! ===== END ===== -/
/-! ===== BEGIN methods with a table of their own: called by a name, returning or throwing ===== -/
section VXH
/-! vx_backW, vx_callVX, vx_callSX, vx_callVW, vx_runVW, vx_runVX, vx_runSX, vx_ofWH follow the same proofs as their sisters above (Free/Laws.lean, Shelf42/LK1.lean); vx_outP calls Shelf42/NT130.lean (outThrough). -/
section
variable {l : Launch} {R : Room} {p : Program} {e : Env} {below : List Frame} {s : State} {sargs : Array Value} {y : MethodName} {len W9 : Nat}
theorem vx_backW {ws : List Cond} {rm : Room} {Pc : Array Value → State → Prop} {Qc : Array Value → State → Outcome → State → Prop} {XC : String → State → State → Prop} {mc ms : Nat} {free : Addr → Prop} {bytes : ByteArray} {maxL : Nat} {ret : Option FieldType} {hh : List (Nat × Nat × Nat × Nat)}
    (hM : vx_Met l y ws rm Pc Qc XC mc ms free) (hblind : FrameBlind Pc) (hrc : rm.cells = mc) (hrs : rm.slots = ms)
    (hframes : rm.frames + 1 ≤ R.frames) (hlocals : W9 + (maxL + 11) + rm.locals ≤ R.locals)
    (hws : ∀ w ∈ ws, ∀ a' U, s.WarmedH U.vm → w.before a' U = true) (hcode : Cond.codeWith y bytes maxL ret hh ∈ ws) (hinit : ∀ a' U, s.WarmedH U.vm → (Cond.initialized y.cls).before a' U = true) :
    vx_Back l R p e below s sargs y len W9 (PreOf R mc ms Pc) (PostOf Qc mc ms free) (vx_Post XC mc ms free) := by
  intro m meth c A g ig mk a X hg hsize hdg hW hn hp
  have h1 : (headSpec ws rm).pre.before a A.U = true := atoms_intro fun w hw => hws w hw _ _ X.warmed
  have h2 : (Cond.codeWith y bytes maxL ret hh).before a A.U = true := hws _ hcode _ _ X.warmed
  have h3 : (Cond.initialized y.cls).before a A.U = true := hinit _ _ X.warmed
  have h4 : A.cells + (headSpec ws rm).room.cells ≤ R.cells := by rw [show (headSpec ws rm).room.cells = mc from hrc]; exact hp.1
  have h5 : A.slots + (headSpec ws rm).room.slots ≤ R.slots := by rw [show (headSpec ws rm).room.slots = ms from hrs]; exact hp.2.1
  have hPc : Pc a (A.U.calling g mk a) := hblind _ _ _ _ hp.2.2
  obtain ⟨U, Ls, c0, s0⟩ := A
  dsimp only [Pt.U, Pt.locs, Pt.cells, Pt.slots] at h1 h2 h3 h4 h5 X hn hPc ⊢
  obtain ⟨m9, methY, cY, hn9, hmY, hcY, -, hlY, -⟩ := Cond.codeWith_spec h2
  cases Option.some.inj (hn9.symm.trans hn)
  obtain ⟨kY, hkY, -⟩ := className_of_methodNamed hn
  have hinitY : kY.init = .initialized := Cond.initialized_spec (findClass_of_methodNamed hn) hkY h3
  have h : At U g.method c below := by rw [hg]; exact X.here
  have hlocals9 : W9 + (maxL + 11) + (headSpec ws rm).room.locals ≤ R.locals := hlocals
  have happ : (headSpec ws rm).appliesLoose y e.platform (U.calling g mk a) = true :=
    Spec.appliesLoose_calling (g := g) h hdg hn hkY hinitY
      (X.room_calling (g := g) (R' := (headSpec ws rm).room) hsize hmY hcY hframes (by rw [hlY]; omega) h4 h5) h1
  obtain ⟨mid, hmid⟩ := h.above
  have hfr : (U.setTop g).frames = (.java g :: mid) ++ below := by rw [State.frames_setTop' g h.top, hmid]; rfl
  obtain ⟨o, s₂, hsteps, -, hend, hq⟩ := Steps.callFree hM p X.admits X.cas X.clock (acts := []) hfr happ hPc trivial
  have hq' : vx_Q Qc XC mc ms free a (U.calling g mk a) o s₂ := hq
  rw [State.frames_setTop' g h.top] at hend
  obtain ⟨g₀, hg0⟩ := Option.isSome_iff_exists.mp h.top
  obtain ⟨r, hr⟩ := State.topJava?_eq_some.mp hg0
  have hr' : (({ U with heap := s₂.heap, slotsUsed := s₂.slotsUsed } : State).setVm s₂.vm).frames = .java g₀ :: r := hr
  rcases hq' with ⟨hqc, L, hfe, hL⟩ | ⟨q, rfl, E, ce, L, hx, hce, hcv, hcl, hW₂, hsm, hL⟩
  · obtain ⟨⟨v, rfl⟩, hW₂, e2, q2, q3, q4, q5, q6⟩ := id hfe
    have e3 : s₂ = ({ (U.calling g mk a).setFrames s₂.frames with heap := s₂.heap, slotsUsed := s₂.slotsUsed } : State).setVm s₂.vm := by
      have : s₂ = ({ s₂ with vm := (U.calling g mk a).vm } : State).setVm s₂.vm := rfl
      rw [e2] at this
      exact this
    obtain ⟨c₂, i₂, len₂, hc₂, hd₂, hf₂⟩ := hend
    have hW' : U.WarmedH s₂.vm := hW₂
    have hcc : c₂ = c := by
      have h1 : s₂.code? g.method = U.code? g.method := by
        rw [State.code?_eq, State.code?_eq, hW'.alike.method?]
      exact Option.some.inj (hc₂.symm.trans (h1.trans h.code))
    subst hcc
    have hlen : len₂ = len := by rw [hdg] at hd₂; cases hd₂; rfl
    subst hlen
    have hs₂ : s₂ = (({ U with heap := s₂.heap, slotsUsed := s₂.slotsUsed } : State).setVm s₂.vm).setTop { g with pc := g.pc + len₂, stack := v.toList ++ g.stack } := by
      refine e3.trans ?_
      rw [hf₂, State.calling_eq h.top, State.setFrames_setFrames, State.setTop_of_frames _ hr', hr]
      rfl
    have hsame : U.sameButNew ({ U with heap := s₂.heap, slotsUsed := s₂.slotsUsed } : State) L mc ms := by
      refine ⟨?_, q2, q3, q4, q5, q6⟩
      obtain ⟨t, ht, -⟩ := State.frames_cons hr
      show ({ U with heap := s₂.heap, slotsUsed := s₂.slotsUsed } : State) = { U.setFrames U.frames with heap := s₂.heap, slotsUsed := s₂.slotsUsed }
      rw [State.setFrames_self ht]
    subst hg
    refine Or.inl ⟨v, ⟨(({ U with heap := s₂.heap, slotsUsed := s₂.slotsUsed } : State).setVm s₂.vm), Ls ++ L, c0 + mc, s0 + ms⟩,
      ⟨X.admits, X.cas, X.clock, X.frames, X.room, X.hears, X.method, X.code, (X.here.setHeapUsed s₂.heap s₂.slotsUsed).setVm hW'.alike, X.tail, State.WarmedH.trans X.warmed hW', X.limits, X.bytes, X.same.trans (hsame.setVm s.vm)⟩,
      ⟨g, mk, s₂, L, rfl, rfl, hqc, rfl, hL, rfl, rfl⟩, ?_⟩
    show Steps p.tables e below _ ((({ U with heap := s₂.heap, slotsUsed := s₂.slotsUsed } : State).setVm s₂.vm).setTop { g with pc := g.pc + len₂, stack := v.toList ++ g.stack })
    rw [← hs₂]
    exact hsteps
  · obtain ⟨e2, q2, q3, q4, q5, q6⟩ := id hsm
    have e3 : s₂ = ({ (U.calling g mk a).setFrames s₂.frames with heap := s₂.heap, slotsUsed := s₂.slotsUsed } : State).setVm s₂.vm := by
      have : s₂ = ({ s₂ with vm := (U.calling g mk a).vm } : State).setVm s₂.vm := rfl
      rw [e2] at this
      exact this
    have hf₂ : s₂.frames = .throwing q :: .java g :: U.frames.tail := hend
    have hW' : U.WarmedH s₂.vm := hW₂
    have hs₂ : s₂ = ((({ U with heap := s₂.heap, slotsUsed := s₂.slotsUsed } : State).setVm s₂.vm).setTop g).pushFrame (.throwing q) := by
      refine e3.trans ?_
      rw [hf₂, State.calling_eq h.top, State.setFrames_setFrames, State.pushFrame, State.frames_setTop _ hr', State.setTop_of_frames _ hr', State.setFrames_setFrames, hr]
      rfl
    have hsame : U.sameButNew ({ U with heap := s₂.heap, slotsUsed := s₂.slotsUsed } : State) L mc ms := by
      refine ⟨?_, q2, q3, q4, q5, q6⟩
      obtain ⟨t, ht, -⟩ := State.frames_cons hr
      show ({ U with heap := s₂.heap, slotsUsed := s₂.slotsUsed } : State) = { U.setFrames U.frames with heap := s₂.heap, slotsUsed := s₂.slotsUsed }
      rw [State.setFrames_self ht]
    subst hg
    refine Or.inr ⟨q, ⟨(({ U with heap := s₂.heap, slotsUsed := s₂.slotsUsed } : State).setVm s₂.vm), Ls ++ L, c0 + mc, s0 + ms⟩,
      ⟨X.admits, X.cas, X.clock, X.frames, X.room, X.hears, X.method, X.code, (X.here.setHeapUsed s₂.heap s₂.slotsUsed).setVm hW'.alike, X.tail, State.WarmedH.trans X.warmed hW', X.limits, X.bytes, X.same.trans (hsame.setVm s.vm)⟩,
      ⟨g, mk, s₂, L, E, ce, rfl, rfl, hx, hce, hcv, hcl, rfl, hL, rfl, rfl⟩, ?_⟩
    show Steps p.tables e below _ (((({ U with heap := s₂.heap, slotsUsed := s₂.slotsUsed } : State).setVm s₂.vm).setTop g).pushFrame (.throwing q))
    rw [← hs₂]
    exact hsteps
end
variable {p : Program} {l : Launch} {e : Env} {R : Room} {s : State} {m : MethodId} {args : Array Value} {below : List Frame} {meth : Method} {c : Code} {T : State} {H : Heap} {locs : List Loc} {cells slots : Nat}
theorem vx_callVX (X : Stand p l e R s m args below meth c T locs cells slots) (hexec : p.tables.exec = Jvm.exec) {own C : String} {index : Nat} {y : MethodName} {bytes : ByteArray} {maxL : Nat} {ret : Option FieldType} {hh : List (Nat × Nat × Nat × Nat)}
    (hown : s.vm.findClass own = some m.cls) (hlink : (Cond.methodLink own index y).before args s = true) (hinst : (Cond.instanceMethod y).before args s = true) (hsel : (Cond.selects C y y).before args s = true)
    (hcode : (Cond.codeWith y bytes maxL ret hh).before args s = true) (hy : y.cls ≠ "java/lang/invoke/MethodHandle" ∧ y.cls ≠ "java/lang/invoke/VarHandle")
    {W9 : Nat} {Pre : Pt → Array Value → Prop} {Post : Pt → Array Value → Option Value → Pt → Prop} {PostX : Pt → Array Value → Addr → Pt → Prop} (hK : vx_Back l R p e below s args y 3 W9 Pre Post PostX)
    {b : Addr} {cellB : Cell} (hcell : T.heap[b]? = some cellB) (hobj : cellB.vm.isStatics = false) (hcls : s.vm.findClass C = some cellB.cls)
    {g : JFrame} (hg : g.method = m) (hsize : g.locals.size = c.maxLocals) {argsL rest : List Value} (hlen : ∀ sig, parseMethodDescriptor y.desc = some sig → argsL.length = sig.parameters.length)
    (hstack : g.stack = argsL.reverse ++ .ref b :: rest) (hW : 2 * g.monitorRoom + (rest.map fun v => v.category).sum ≤ W9) (hdg : decode c.code g.pc = .ok (.invokevirtual index, 3))
    (hpre : ∀ vm₁, s.WarmedH vm₁ → Pre ⟨T.setVm vm₁, locs, cells, slots⟩ (Value.ref b :: argsL).toArray) :
    (∃ (v : Option Value) (vm₁ : Vm) (B : Pt), s.WarmedH vm₁ ∧ Stand p l e R s m args below meth c B.U B.locs B.cells B.slots ∧ Post ⟨T.setVm vm₁, locs, cells, slots⟩ (Value.ref b :: argsL).toArray v B ∧
      ∀ target, Steps p.tables e below (B.U.setTop { g with pc := g.pc + 3, stack := v.toList ++ rest }) target → Steps p.tables e below (T.setTop g) target) ∨
    (∃ (q : Addr) (vm₁ : Vm) (B : Pt), s.WarmedH vm₁ ∧ Stand p l e R s m args below meth c B.U B.locs B.cells B.slots ∧ PostX ⟨T.setVm vm₁, locs, cells, slots⟩ (Value.ref b :: argsL).toArray q B ∧
      Steps p.tables e below (T.setTop g) ((B.U.setTop { g with stack := rest }).pushFrame (.throwing q))) := by
  obtain ⟨mk, methM, hnamed, hmethM, hstM, habM⟩ := Cond.instanceMethod_spec hinst
  obtain ⟨m8, methM', cM, hn8, hmethM', -, -, -, -, -, -, hsigM⟩ := Cond.codeWith_spec hcode
  cases Option.some.inj (hn8.symm.trans hnamed)
  cases hmethM.symm.trans hmethM'
  obtain ⟨c2, r2, m2, q1, q2, q3, q4, kP, hkP, hkPi⟩ := Cond.selects_spec hsel
  cases hcls.symm.trans q1
  cases (State.methodFound?_of_named hnamed hy).symm.trans q2
  cases hnamed.symm.trans q3
  have hselP : selectMethod e.platform s.vm cellB.cls mk = .method mk := by rw [Launch.admits_selectMethod X.admits]; exact q4
  obtain ⟨vm₁, X₁, hstep₁⟩ := X.invokevirtual hexec hown hlink hnamed hmethM hstM hkP hkPi hy (a := b) (cell := cellB) hcell
    (fun z h => by rw [h] at hobj; cases hobj) hselP hmethM habM hkP hkPi (g := g) hg (argsL := argsL) (rest := rest) (hlen _ hsigM) hstack hdg
  rcases hK m meth c ⟨T.setVm vm₁, locs, cells, slots⟩ { g with stack := rest } (.invokevirtual index) mk (Value.ref b :: argsL).toArray X₁ hg hsize hdg hW (X₁.named hnamed) (hpre vm₁ X₁.warmed) with ⟨v, B, X', hpost, hsteps⟩ | ⟨q, B, X', hpost, hsteps⟩
  · exact Or.inl ⟨v, vm₁, B, X₁.warmed, X', hpost, fun target h => hstep₁ _ fun acts => by rw [doInvoke_state]; exact hsteps.trans h⟩
  · exact Or.inr ⟨q, vm₁, B, X₁.warmed, X', hpost, hstep₁ _ fun acts => by rw [doInvoke_state]; exact hsteps⟩
theorem vx_callSX (X : Stand p l e R s m args below meth c T locs cells slots) (hexec : p.tables.exec = Jvm.exec) {own : String} {index : Nat} {y : MethodName} {bytes : ByteArray} {maxL : Nat} {ret : Option FieldType} {hh : List (Nat × Nat × Nat × Nat)}
    (hown : s.vm.findClass own = some m.cls) (hlink : (Cond.methodLink own index y).before args s = true) (hstat : (Cond.static y).before args s = true) (hinit : (Cond.initialized y.cls).before args s = true)
    (hcode : (Cond.codeWith y bytes maxL ret hh).before args s = true) (hy : y.cls ≠ "java/lang/invoke/MethodHandle" ∧ y.cls ≠ "java/lang/invoke/VarHandle")
    {W9 : Nat} {Pre : Pt → Array Value → Prop} {Post : Pt → Array Value → Option Value → Pt → Prop} {PostX : Pt → Array Value → Addr → Pt → Prop} (hK : vx_Back l R p e below s args y 3 W9 Pre Post PostX)
    {g : JFrame} (hg : g.method = m) (hsize : g.locals.size = c.maxLocals) {argsL rest : List Value} (hlen : ∀ sig, parseMethodDescriptor y.desc = some sig → argsL.length = sig.parameters.length)
    (hstack : g.stack = argsL.reverse ++ rest) (hW : 2 * g.monitorRoom + (rest.map fun v => v.category).sum ≤ W9) (hdg : decode c.code g.pc = .ok (.invokestatic index, 3))
    (hpre : ∀ vm₁, s.WarmedH vm₁ → Pre ⟨T.setVm vm₁, locs, cells, slots⟩ argsL.toArray) :
    (∃ (v : Option Value) (vm₁ : Vm) (B : Pt), s.WarmedH vm₁ ∧ Stand p l e R s m args below meth c B.U B.locs B.cells B.slots ∧ Post ⟨T.setVm vm₁, locs, cells, slots⟩ argsL.toArray v B ∧
      ∀ target, Steps p.tables e below (B.U.setTop { g with pc := g.pc + 3, stack := v.toList ++ rest }) target → Steps p.tables e below (T.setTop g) target) ∨
    (∃ (q : Addr) (vm₁ : Vm) (B : Pt), s.WarmedH vm₁ ∧ Stand p l e R s m args below meth c B.U B.locs B.cells B.slots ∧ PostX ⟨T.setVm vm₁, locs, cells, slots⟩ argsL.toArray q B ∧
      Steps p.tables e below (T.setTop g) ((B.U.setTop { g with stack := rest }).pushFrame (.throwing q))) := by
  obtain ⟨mk, methM, cM, hnamed, hmethM, -, -, -, -, -, -, hsigM⟩ := Cond.codeWith_spec hcode
  have hstatic : methM.isStatic = true := Cond.static_spec hnamed hmethM hstat
  obtain ⟨kP, hkP, -⟩ := className_of_methodNamed hnamed
  have hinitP : kP.init = .initialized := Cond.initialized_spec (findClass_of_methodNamed hnamed) hkP hinit
  obtain ⟨vm₁, X₁, hstep₁⟩ := X.invokestatic hexec hown hlink hnamed hmethM hstatic hkP hinitP hy (g := g) hg (argsL := argsL) (rest := rest) (hlen _ hsigM) hstack hdg
  rcases hK m meth c ⟨T.setVm vm₁, locs, cells, slots⟩ { g with stack := rest } (.invokestatic index) mk argsL.toArray X₁ hg hsize hdg hW (X₁.named hnamed) (hpre vm₁ X₁.warmed) with ⟨v, B, X', hpost, hsteps⟩ | ⟨q, B, X', hpost, hsteps⟩
  · exact Or.inl ⟨v, vm₁, B, X₁.warmed, X', hpost, fun target h => hstep₁ _ fun acts => by rw [doInvoke_state]; exact hsteps.trans h⟩
  · exact Or.inr ⟨q, vm₁, B, X₁.warmed, X', hpost, hstep₁ _ fun acts => by rw [doInvoke_state]; exact hsteps⟩
theorem vx_callVW (X : Stand p l e R s m args below meth c T locs cells slots) (hexec : p.tables.exec = Jvm.exec) {own C : String} {index : Nat} {y : MethodName} {bytes : ByteArray} {maxL : Nat} {ret : Option FieldType} {hh : List (Nat × Nat × Nat × Nat)}
    (hown : s.vm.findClass own = some m.cls) (hlink : (Cond.methodLink own index y).before args s = true) (hinst : (Cond.instanceMethod y).before args s = true) (hsel : (Cond.selects C y y).before args s = true)
    (hcode : (Cond.codeWith y bytes maxL ret hh).before args s = true) (hy : y.cls ≠ "java/lang/invoke/MethodHandle" ∧ y.cls ≠ "java/lang/invoke/VarHandle")
    {W9 : Nat} {Pre : Pt → Array Value → Prop} {Post : Pt → Array Value → Option Value → Pt → Prop} (hK : Back l R p e below s args y 3 W9 Pre Post)
    {b : Addr} {cellB : Cell} (hcell : T.heap[b]? = some cellB) (hobj : cellB.vm.isStatics = false) (hcls : s.vm.findClass C = some cellB.cls)
    {g : JFrame} (hg : g.method = m) (hsize : g.locals.size = c.maxLocals) {argsL rest : List Value} (hlen : ∀ sig, parseMethodDescriptor y.desc = some sig → argsL.length = sig.parameters.length)
    (hstack : g.stack = argsL.reverse ++ .ref b :: rest) (hW : 2 * g.monitorRoom + (rest.map fun v => v.category).sum ≤ W9) (hdg : decode c.code g.pc = .ok (.invokevirtual index, 3))
    (hpre : ∀ vm₁, s.WarmedH vm₁ → Pre ⟨T.setVm vm₁, locs, cells, slots⟩ (Value.ref b :: argsL).toArray) :
    ∃ (v : Option Value) (vm₁ : Vm) (B : Pt), s.WarmedH vm₁ ∧ Stand p l e R s m args below meth c B.U B.locs B.cells B.slots ∧ Post ⟨T.setVm vm₁, locs, cells, slots⟩ (Value.ref b :: argsL).toArray v B ∧
      ∀ target, Steps p.tables e below (B.U.setTop { g with pc := g.pc + 3, stack := v.toList ++ rest }) target → Steps p.tables e below (T.setTop g) target := by
  obtain ⟨mk, methM, hnamed, hmethM, hstM, habM⟩ := Cond.instanceMethod_spec hinst
  obtain ⟨m8, methM', cM, hn8, hmethM', -, -, -, -, -, -, hsigM⟩ := Cond.codeWith_spec hcode
  cases Option.some.inj (hn8.symm.trans hnamed)
  cases hmethM.symm.trans hmethM'
  obtain ⟨c2, r2, m2, q1, q2, q3, q4, kP, hkP, hkPi⟩ := Cond.selects_spec hsel
  cases hcls.symm.trans q1
  cases (State.methodFound?_of_named hnamed hy).symm.trans q2
  cases hnamed.symm.trans q3
  have hselP : selectMethod e.platform s.vm cellB.cls mk = .method mk := by rw [Launch.admits_selectMethod X.admits]; exact q4
  obtain ⟨vm₁, X₁, hstep₁⟩ := X.invokevirtual hexec hown hlink hnamed hmethM hstM hkP hkPi hy (a := b) (cell := cellB) hcell
    (fun z h => by rw [h] at hobj; cases hobj) hselP hmethM habM hkP hkPi (g := g) hg (argsL := argsL) (rest := rest) (hlen _ hsigM) hstack hdg
  obtain ⟨v, B, X', hpost, hsteps⟩ := hK m meth c ⟨T.setVm vm₁, locs, cells, slots⟩ { g with stack := rest } (.invokevirtual index) mk (Value.ref b :: argsL).toArray X₁ hg hsize hdg hW (X₁.named hnamed) (hpre vm₁ X₁.warmed)
  exact ⟨v, vm₁, B, X₁.warmed, X', hpost, fun target h => hstep₁ _ fun acts => by rw [doInvoke_state]; exact hsteps.trans h⟩
abbrev vx_CVW (R : Room) (s : State) (args : Array Value) (own C : String) (index : Nat) (y : MethodName) (bytes : ByteArray) (maxL : Nat) (ret : Option FieldType) (hh : List (Nat × Nat × Nat × Nat)) (ws : List Cond) (rm : Room) (mc ms n : Nat) : Prop :=
  (rm.cells = mc ∧ rm.slots = ms ∧ rm.frames + 1 ≤ R.frames ∧ 8 + (maxL + 11) + rm.locals ≤ R.locals ∧ (∀ w ∈ ws, ∀ (a' : Array Value) (U : State), s.WarmedH U.vm → w.before a' U = true) ∧ Cond.codeWith y bytes maxL ret hh ∈ ws) ∧
  (Cond.codeWith y bytes maxL ret hh).before args s = true ∧ (Cond.initialized y.cls).before args s = true ∧ (y.cls ≠ "java/lang/invoke/MethodHandle" ∧ y.cls ≠ "java/lang/invoke/VarHandle") ∧
  (∀ sig, parseMethodDescriptor y.desc = some sig → n = sig.parameters.length) ∧ (Cond.methodLink own index y).before args s = true ∧ (Cond.instanceMethod y).before args s = true ∧ (Cond.selects C y y).before args s = true
theorem vx_cwVW {own C : String} {index maxL mc ms : Nat} {y : MethodName} {bytes : ByteArray} {ret : Option FieldType} {hh : List (Nat × Nat × Nat × Nat)} {Ts ws ws' : List Cond} {rm : Room} (n : Nat) (ht : ∀ w ∈ Ts, w.before args s = true) (hT : GoodIn Ts (wsV own index C y ws)) (hw : ws = Cond.codeWith y bytes maxL ret hh :: ws') (hrc : rm.cells = mc) (hrs : rm.slots = ms)
    (hd : y.cls = C ∧ y.cls ≠ "java/lang/invoke/MethodHandle" ∧ y.cls ≠ "java/lang/invoke/VarHandle" ∧ (parseMethodDescriptor y.desc).map (fun d => d.parameters.length) = some n) (hR : rm.frames + 1 ≤ R.frames ∧ 8 + (maxL + 11) + rm.locals ≤ R.locals) :
    vx_CVW R s args own C index y bytes maxL ret hh ws rm mc ms n := by
  obtain ⟨hC, hd⟩ := hd
  subst hC
  have ok : ∀ w ∈ wsV own index y.cls y ws, w.before args s = true := fun w h => ht w (hT w h).1
  have hG : GoodIn Ts ws := fun w h => hT w (by unfold wsV; exact List.mem_append_right _ h)
  have hc : Cond.codeWith y bytes maxL ret hh ∈ ws := by rw [hw]; exact List.mem_cons_self
  refine ⟨⟨hrc, hrs, hR.1, hR.2, pay_in ht hG, hc⟩, ht _ (hG _ hc).1, ok _ (by simp [wsV]), ⟨hd.1, hd.2.1⟩, fun sig h => ?_, ok _ (by simp [wsV]), ok _ (by simp [wsV]), ok _ (by simp [wsV])⟩
  have h2 := hd.2.2
  rw [h] at h2
  exact (Option.some.inj h2).symm
theorem vx_runVW {y : MethodName} {bytes cc : ByteArray} {maxL nL mc ms n index : Nat} {ret : Option FieldType} {hh : List (Nat × Nat × Nat × Nat)} {ws : List Cond} {rm : Room} {Pc : Array Value → State → Prop} {Qc : Array Value → State → Outcome → State → Prop} {free : Addr → Prop} {Ts : List Cond} {own C : String} {b : Addr} {As rest : List Value} {g : JFrame}
    (S : CallFix p m c cc nL s args Ts own) (hM : Met l y ws rm Pc Qc mc ms free) (cw : vx_CVW R s args own C index y bytes maxL ret hh ws rm mc ms n) (hp : PreV s H C b Pc As)
    (hg : g.method = m) (hn : As.length = n) (hsize : g.locals.size = nL) (hstack : g.stack = As.reverse ++ .ref b :: rest) (hW : 2 * g.monitorRoom + (rest.map fun v => v.category).sum ≤ 8) (hdg : decode cc g.pc = .ok (.invokevirtual index, 3)) (hf : cells + mc ≤ R.cells ∧ slots + ms ≤ R.slots) :
    va_Run p l e R s m args below meth c H locs cells slots mc ms g rest (Qc (Value.ref b :: As).toArray) free := by
  obtain ⟨⟨hrc, hrs, hfr, hlo, hws, hcw⟩, hcode, hini, hy, hlen, hl, hin, hse⟩ := cw
  have hK : Back l R p e below s args y 3 8 (PreOf R mc ms Pc) (PostOf Qc mc ms free) := va_backW (hh := hh) (bytes := bytes) (maxL := maxL) (ret := ret) hM hp.1 hrc hrs hfr hlo hws hcw (fun a' U hW => word_at hW (Or.inl (by first | rfl | simp [Cond.onTables, Cond.keeps, Cond.steady])) hini)
  obtain ⟨hx, hb, hml, ho, -⟩ := S
  obtain ⟨-, ⟨cellB, hcB, hoB, hclB⟩, hPc⟩ := hp
  intro T hT X
  obtain ⟨v, vm₁, ⟨U', l2, c2, s2⟩, hW₁, X', ⟨g', mk, t, L, e1, e2, hq, h1, hL, h2, h3⟩, st⟩ := vx_callVW X hx (C := C) (hh := hh) (bytes := bytes) (maxL := maxL) (ret := ret) ho hl hin hse hcode hy hK (by rw [hT]; exact hcB) hoB hclB hg (hsize.trans hml.symm) (argsL := As) (rest := rest) (fun sig h => hn.trans (hlen sig h)) hstack hW (by rw [hb]; exact hdg)
    (fun vm₁ hW₁ => ⟨hf.1, hf.2, hPc (T.setVm vm₁) hT hW₁⟩)
  dsimp only [Pt.U, Pt.locs, Pt.cells, Pt.slots] at X' e1 e2 h1 h2 h3 st
  subst h1; subst h2; subst h3
  exact ⟨v, (T.setVm vm₁).calling g' mk (Value.ref b :: As).toArray, t, U', L, hT, X', hL, e1, e2, hq, st⟩
section
variable {y : MethodName} {bytes cc : ByteArray} {maxL nL mc ms n index : Nat} {ret : Option FieldType} {ws : List Cond} {rm : Room} {Pc : Array Value → State → Prop} {Qc : Array Value → State → Outcome → State → Prop} {XC : String → State → State → Prop} {free : Addr → Prop} {Ts : List Cond} {own C : String} {b : Addr} {As rest : List Value} {g : JFrame}
theorem vx_runVX {hh : List (Nat × Nat × Nat × Nat)} (S : CallFix p m c cc nL s args Ts own) (hM : vx_Met l y ws rm Pc Qc XC mc ms free) (cw : vx_CVW R s args own C index y bytes maxL ret hh ws rm mc ms n) (hp : PreV s H C b Pc As)
    (hg : g.method = m) (hn : As.length = n) (hsize : g.locals.size = nL) (hstack : g.stack = As.reverse ++ .ref b :: rest) (hW : 2 * g.monitorRoom + (rest.map fun v => v.category).sum ≤ 8) (hdg : decode cc g.pc = .ok (.invokevirtual index, 3)) (hf : cells + mc ≤ R.cells ∧ slots + ms ≤ R.slots) :
    vx_Run p l e R s m args below meth c H locs cells slots mc ms g rest (Qc (Value.ref b :: As).toArray) XC free := by
  obtain ⟨⟨hrc, hrs, hfr, hlo, hws, hcw⟩, hcode, hini, hy, hlen, hl, hin, hse⟩ := cw
  have hK : vx_Back l R p e below s args y 3 8 (PreOf R mc ms Pc) (PostOf Qc mc ms free) (vx_Post XC mc ms free) := vx_backW (hh := hh) (bytes := bytes) (maxL := maxL) (ret := ret) hM hp.1 hrc hrs hfr hlo hws hcw (fun a' U hW => word_at hW (Or.inl (by first | rfl | simp [Cond.onTables, Cond.keeps, Cond.steady])) hini)
  obtain ⟨hx, hb, hml, ho, -⟩ := S
  obtain ⟨-, ⟨cellB, hcB, hoB, hclB⟩, hPc⟩ := hp
  intro T hT X
  rcases vx_callVX X hx (C := C) (hh := hh) (bytes := bytes) (maxL := maxL) (ret := ret) ho hl hin hse hcode hy hK (by rw [hT]; exact hcB) hoB hclB hg (hsize.trans hml.symm) (argsL := As) (rest := rest) (fun sig h => hn.trans (hlen sig h)) hstack hW (by rw [hb]; exact hdg)
    (fun vm₁ hW₁ => ⟨hf.1, hf.2, hPc (T.setVm vm₁) hT hW₁⟩) with ⟨v, vm₁, ⟨U', l2, c2, s2⟩, hW₁, X', ⟨g', mk, t, L, e1, e2, hq, h1, hL, h2, h3⟩, st⟩ | ⟨q, vm₁, ⟨U', l2, c2, s2⟩, hW₁, X', ⟨g', mk, t, L, E, ce, e1, e2, hq, hce, hcv, hcl, h1, hL, h2, h3⟩, st⟩
  · dsimp only [Pt.U, Pt.locs, Pt.cells, Pt.slots] at X' e1 e2 h1 h2 h3 st
    subst h1; subst h2; subst h3
    exact Or.inl ⟨v, (T.setVm vm₁).calling g' mk (Value.ref b :: As).toArray, t, U', L, hT, X', hL, e1, e2, hq, st⟩
  · dsimp only [Pt.U, Pt.locs, Pt.cells, Pt.slots] at X' e1 e2 h1 h2 h3 st hcl
    subst h1; subst h2; subst h3
    exact Or.inr ⟨q, (T.setVm vm₁).calling g' mk (Value.ref b :: As).toArray, t, U', L, E, ce, hT, X', hL, e1, e2, hq, hce, hcv, vx_cls hW₁ hcl, st⟩
theorem vx_runSX {hh : List (Nat × Nat × Nat × Nat)} (S : CallFix p m c cc nL s args Ts own) (hM : vx_Met l y ws rm Pc Qc XC mc ms free) (cw : vx_CSW R s args own index y bytes maxL ret hh ws rm mc ms n) (hp : PreS s H Pc As)
    (hg : g.method = m) (hn : As.length = n) (hsize : g.locals.size = nL) (hstack : g.stack = As.reverse ++ rest) (hW : 2 * g.monitorRoom + (rest.map fun v => v.category).sum ≤ 8) (hdg : decode cc g.pc = .ok (.invokestatic index, 3)) (hf : cells + mc ≤ R.cells ∧ slots + ms ≤ R.slots) :
    vx_Run p l e R s m args below meth c H locs cells slots mc ms g rest (Qc As.toArray) XC free := by
  obtain ⟨⟨hrc, hrs, hfr, hlo, hws, hcw⟩, hcode, hini, hy, hlen, hl, hstt⟩ := cw
  have hK : vx_Back l R p e below s args y 3 8 (PreOf R mc ms Pc) (PostOf Qc mc ms free) (vx_Post XC mc ms free) := vx_backW (hh := hh) (bytes := bytes) (maxL := maxL) (ret := ret) hM hp.1 hrc hrs hfr hlo hws hcw (fun a' U hW => word_at hW (Or.inl (by first | rfl | simp [Cond.onTables, Cond.keeps, Cond.steady])) hini)
  obtain ⟨hx, hb, hml, ho, -⟩ := S
  intro T hT X
  rcases vx_callSX X hx (hh := hh) (bytes := bytes) (maxL := maxL) (ret := ret) ho hl hstt hini hcode hy hK hg (hsize.trans hml.symm) (argsL := As) (rest := rest) (fun sig h => hn.trans (hlen sig h)) hstack hW (by rw [hb]; exact hdg)
    (fun vm₁ hW₁ => ⟨hf.1, hf.2, hp.2 (T.setVm vm₁) hT hW₁⟩) with ⟨v, vm₁, ⟨U', l2, c2, s2⟩, hW₁, X', ⟨g', mk, t, L, e1, e2, hq, h1, hL, h2, h3⟩, st⟩ | ⟨q, vm₁, ⟨U', l2, c2, s2⟩, hW₁, X', ⟨g', mk, t, L, E, ce, e1, e2, hq, hce, hcv, hcl, h1, hL, h2, h3⟩, st⟩
  · dsimp only [Pt.U, Pt.locs, Pt.cells, Pt.slots] at X' e1 e2 h1 h2 h3 st
    subst h1; subst h2; subst h3
    exact Or.inl ⟨v, (T.setVm vm₁).calling g' mk As.toArray, t, U', L, hT, X', hL, e1, e2, hq, st⟩
  · dsimp only [Pt.U, Pt.locs, Pt.cells, Pt.slots] at X' e1 e2 h1 h2 h3 st hcl
    subst h1; subst h2; subst h3
    exact Or.inr ⟨q, (T.setVm vm₁).calling g' mk As.toArray, t, U', L, E, ce, hT, X', hL, e1, e2, hq, hce, hcv, vx_cls hW₁ hcl, st⟩
end
end VXH
theorem vx_ofWH {l : Launch} {y : MethodName} {ws ws' : List Cond} {rm : Room} {Pc : Array Value → State → Prop} {Qc : Array Value → State → Outcome → State → Prop} {XC : String → State → State → Prop} {mc ms : Nat} {free : Addr → Prop} {cc : ByteArray} {maxL : Nat} {ret : Option FieldType} {hh : List (Nat × Nat × Nat × Nat)}
    (hy : plainName y.cls = true) (hw : ws = Cond.codeWith y cc maxL ret hh :: ws')
    (body : ∀ p e s m args below meth c s₁, BodyLoose p l y (headSpec ws rm) cc maxL ret e s m args below meth c s₁ → c.maxLocals = maxL → Pc args s →
      W p l e (headSpec ws rm).room s m args below meth c s.heap [] 0 0 (vx_MQ below Qc XC args s mc ms free) (entryFrame m args maxL)) : vx_Met l y ws rm Pc Qc XC mc ms free := by
  refine MetFree.of_bodyS (code := cc) (maxLocals := maxL) (ret := ret) hy ?_ ?_
  · intro args s m h hn
    obtain ⟨m9, meth, c, hn9, h1, h2, h3, h4, -, h5, h6, -⟩ := Cond.codeWith_spec (atoms_spec (ws := ws) h _ (by rw [hw]; exact List.mem_cons_self))
    cases hn.symm.trans hn9
    exact ⟨meth, c, h1, h2, h3, h4, h5, h6⟩
  · intro p e s m args below meth c s₁ B hml hP _
    have hh0 : s₁.heap = s.heap := by rw [B.state]; rfl
    obtain ⟨t, a1, o, b1, b2, b3⟩ := body p e s m args below meth c s₁ B hml hP s₁ hh0 (Stand.of_body B)
    exact ⟨t, o, a1, b1, b2, b3⟩
/-! ===== END ===== -/
end
section
/-! ===== BEGIN printed: names, fields, word lists, decode rows ===== -/
def RX0 : String := "VersionTrans$Row"
def TX0 : u_T := fun k => match k with
  | 0 => ("VersionTrans$Row", "version", "I", true)
  | 1 => ("VersionTrans$Row", "there", "Z", true)
  | _ => ("VersionTrans$Row", "older", "LVersionTrans$Row;", false)
def tyX0 : Nat → FieldType := fun k => match k with
  | 0 => .int
  | 1 => .boolean
  | _ => .object "VersionTrans$Row"
abbrev wsX00 : List Cond := u_ws RX0 TX0 3
theorem nmX0 : ∀ a, a < 3 → ∀ b, b < 3 → a ≠ b → (TX0 a).2.1 ≠ (TX0 b).2.1 := by decide +kernel
theorem tyX0_ok : ∀ k, k < 3 → parseFieldDescriptor (TX0 k).2.2.1 = some (tyX0 k) := by decide +kernel
abbrev cX0_init : ByteArray := prog_2_method_1_code
def yX0_init : MethodName := ⟨RX0, "<init>", "(IZLVersionTrans$Row;)V"⟩
def RX1 : String := "VersionTrans$Transaction"
def TX1 : u_T := fun k => match k with
  | 0 => ("VersionTrans$Transaction", "number", "I", true)
  | 1 => ("VersionTrans$Transaction", "writer", "Z", true)
  | 2 => ("VersionTrans$Transaction", "sees", "I", true)
  | 3 => ("VersionTrans$Transaction", "noted", "[Z", true)
  | 4 => ("VersionTrans$Transaction", "notes", "I", false)
  | 5 => ("VersionTrans$Transaction", "state", "I", false)
  | 6 => ("VersionTrans$Transaction", "waitsFor", "LVersionTrans$Transaction;", false)
  | 7 => ("VersionTrans$Transaction", "waitingTriple", "I", false)
  | 8 => ("VersionTrans$Transaction", "waitingThere", "Z", false)
  | 9 => ("VersionTrans$Transaction", "beganToWait", "I", false)
  | _ => ("VersionTrans$Transaction", "nextInQueue", "LVersionTrans$Transaction;", false)
def tyX1 : Nat → FieldType := fun k => match k with
  | 0 => .int
  | 1 => .boolean
  | 2 => .int
  | 3 => .array .boolean
  | 4 => .int
  | 5 => .int
  | 6 => .object "VersionTrans$Transaction"
  | 7 => .int
  | 8 => .boolean
  | 9 => .int
  | _ => .object "VersionTrans$Transaction"
abbrev wsX10 : List Cond := u_ws RX1 TX1 11
theorem nmX1 : ∀ a, a < 11 → ∀ b, b < 11 → a ≠ b → (TX1 a).2.1 ≠ (TX1 b).2.1 := by decide +kernel
theorem tyX1_ok : ∀ k, k < 11 → parseFieldDescriptor (TX1 k).2.2.1 = some (tyX1 k) := by decide +kernel
abbrev cX1_init : ByteArray := prog_3_method_1_code
def yX1_init : MethodName := ⟨RX1, "<init>", "(IZI)V"⟩
abbrev cX1_hasEnded : ByteArray := prog_3_method_2_code
def yX1_hasEnded : MethodName := ⟨RX1, "hasEnded", "()Z"⟩
def RX2 : String := "VersionTrans"
def TX2 : u_T := fun k => match k with
  | 0 => ("VersionTrans", "transactions", "[LVersionTrans$Transaction;", true)
  | 1 => ("VersionTrans", "begun", "I", false)
  | 2 => ("VersionTrans", "newest", "[LVersionTrans$Row;", true)
  | 3 => ("VersionTrans", "rowCount", "I", false)
  | 4 => ("VersionTrans", "latestVersion", "I", false)
  | 5 => ("VersionTrans", "pins", "[I", true)
  | 6 => ("VersionTrans", "holder", "[LVersionTrans$Transaction;", true)
  | 7 => ("VersionTrans", "written", "[Z", true)
  | 8 => ("VersionTrans", "failedByTriple", "[I", true)
  | 9 => ("VersionTrans", "refusedForGraph", "[I", true)
  | 10 => ("VersionTrans", "ringMembers", "[I", true)
  | 11 => ("VersionTrans", "ringSize", "I", false)
  | 12 => ("VersionTrans", "firstInQueue", "LVersionTrans$Transaction;", false)
  | 13 => ("VersionTrans", "lastInQueue", "LVersionTrans$Transaction;", false)
  | _ => ("VersionTrans", "waitsBegun", "I", false)
def tyX2 : Nat → FieldType := fun k => match k with
  | 0 => .array (.object "VersionTrans$Transaction")
  | 1 => .int
  | 2 => .array (.object "VersionTrans$Row")
  | 3 => .int
  | 4 => .int
  | 5 => .array .int
  | 6 => .array (.object "VersionTrans$Transaction")
  | 7 => .array .boolean
  | 8 => .array .int
  | 9 => .array .int
  | 10 => .array .int
  | 11 => .int
  | 12 => .object "VersionTrans$Transaction"
  | 13 => .object "VersionTrans$Transaction"
  | _ => .int
abbrev wsX20 : List Cond := u_ws RX2 TX2 15
theorem nmX2 : ∀ a, a < 15 → ∀ b, b < 15 → a ≠ b → (TX2 a).2.1 ≠ (TX2 b).2.1 := by decide +kernel
theorem tyX2_ok : ∀ k, k < 15 → parseFieldDescriptor (TX2 k).2.2.1 = some (tyX2 k) := by decide +kernel
abbrev cX2_init : ByteArray := prog_1_method_1_code
def yX2_init : MethodName := ⟨RX2, "<init>", "()V"⟩
abbrev cX2_begin : ByteArray := prog_1_method_2_code
def yX2_begin : MethodName := ⟨RX2, "begin", "()I"⟩
abbrev cX2_look : ByteArray := prog_1_method_3_code
def yX2_look : MethodName := ⟨RX2, "look", "(I)I"⟩
abbrev cX2_put : ByteArray := prog_1_method_4_code
def yX2_put : MethodName := ⟨RX2, "put", "(IIZ)I"⟩
abbrev cX2_note : ByteArray := prog_1_method_5_code
def yX2_note : MethodName := ⟨RX2, "note", "(II)I"⟩
abbrev cX2_read : ByteArray := prog_1_method_6_code
def yX2_read : MethodName := ⟨RX2, "read", "(II)Z"⟩
abbrev cX2_told : ByteArray := prog_1_method_7_code
def yX2_told : MethodName := ⟨RX2, "told", "(II)Z"⟩
abbrev cX2_commit : ByteArray := prog_1_method_8_code
def yX2_commit : MethodName := ⟨RX2, "commit", "(I)I"⟩
abbrev cX2_abort : ByteArray := prog_1_method_9_code
def yX2_abort : MethodName := ⟨RX2, "abort", "(I)I"⟩
abbrev cX2_pin : ByteArray := prog_1_method_10_code
def yX2_pin : MethodName := ⟨RX2, "pin", "(I)I"⟩
abbrev cX2_unpin : ByteArray := prog_1_method_11_code
def yX2_unpin : MethodName := ⟨RX2, "unpin", "(I)I"⟩
abbrev cX2_free : ByteArray := prog_1_method_12_code
def yX2_free : MethodName := ⟨RX2, "free", "()I"⟩
abbrev cX2_rows : ByteArray := prog_1_method_13_code
def yX2_rows : MethodName := ⟨RX2, "rows", "()I"⟩
abbrev cX2_latest : ByteArray := prog_1_method_14_code
def yX2_latest : MethodName := ⟨RX2, "latest", "()I"⟩
abbrev cX2_least : ByteArray := prog_1_method_15_code
def yX2_least : MethodName := ⟨RX2, "least", "()I"⟩
abbrev cX2_state : ByteArray := prog_1_method_16_code
def yX2_state : MethodName := ⟨RX2, "state", "(I)I"⟩
abbrev cX2_waits : ByteArray := prog_1_method_17_code
def yX2_waits : MethodName := ⟨RX2, "waits", "(I)I"⟩
abbrev cX2_ring : ByteArray := prog_1_method_18_code
def yX2_ring : MethodName := ⟨RX2, "ring", "(I)I"⟩
abbrev cX2_conflicts : ByteArray := prog_1_method_19_code
def yX2_conflicts : MethodName := ⟨RX2, "conflicts", "(II)I"⟩
abbrev cX2_known : ByteArray := prog_1_method_20_code
def yX2_known : MethodName := ⟨RX2, "known", "(I)LVersionTrans$Transaction;"⟩
abbrev cX2_requireTriple : ByteArray := prog_1_method_21_code
def yX2_requireTriple : MethodName := ⟨RX2, "requireTriple", "(I)V"⟩
abbrev cX2_requireGraph : ByteArray := prog_1_method_22_code
def yX2_requireGraph : MethodName := ⟨RX2, "requireGraph", "(I)V"⟩
abbrev cX2_requireKind : ByteArray := prog_1_method_23_code
def yX2_requireKind : MethodName := ⟨RX2, "requireKind", "(I)V"⟩
abbrev cX2_requireVersion : ByteArray := prog_1_method_24_code
def yX2_requireVersion : MethodName := ⟨RX2, "requireVersion", "(I)V"⟩
abbrev cX2_requirePinned : ByteArray := prog_1_method_25_code
def yX2_requirePinned : MethodName := ⟨RX2, "requirePinned", "(I)V"⟩
abbrev cX2_requireNotEnded : ByteArray := prog_1_method_26_code
def yX2_requireNotEnded : MethodName := ⟨RX2, "requireNotEnded", "(LVersionTrans$Transaction;)V"⟩
abbrev cX2_requireNotWaiting : ByteArray := prog_1_method_27_code
def yX2_requireNotWaiting : MethodName := ⟨RX2, "requireNotWaiting", "(LVersionTrans$Transaction;)V"⟩
abbrev cX2_requireOpenWriter : ByteArray := prog_1_method_28_code
def yX2_requireOpenWriter : MethodName := ⟨RX2, "requireOpenWriter", "(LVersionTrans$Transaction;)V"⟩
abbrev cX2_enter : ByteArray := prog_1_method_29_code
def yX2_enter : MethodName := ⟨RX2, "enter", "(ZI)I"⟩
abbrev cX2_finish : ByteArray := prog_1_method_30_code
def yX2_finish : MethodName := ⟨RX2, "finish", "(LVersionTrans$Transaction;I)V"⟩
abbrev cX2_countOwnWrites : ByteArray := prog_1_method_31_code
def yX2_countOwnWrites : MethodName := ⟨RX2, "countOwnWrites", "(LVersionTrans$Transaction;)I"⟩
abbrev cX2_isRefused : ByteArray := prog_1_method_32_code
def yX2_isRefused : MethodName := ⟨RX2, "isRefused", "(LVersionTrans$Transaction;)Z"⟩
abbrev cX2_giveUp : ByteArray := prog_1_method_33_code
def yX2_giveUp : MethodName := ⟨RX2, "giveUp", "(LVersionTrans$Transaction;)I"⟩
abbrev cX2_makeVersion : ByteArray := prog_1_method_34_code
def yX2_makeVersion : MethodName := ⟨RX2, "makeVersion", "(LVersionTrans$Transaction;)I"⟩
abbrev cX2_addChanges : ByteArray := prog_1_method_35_code
def yX2_addChanges : MethodName := ⟨RX2, "addChanges", "(LVersionTrans$Transaction;I)I"⟩
abbrev cX2_leastChangedNote : ByteArray := prog_1_method_36_code
def yX2_leastChangedNote : MethodName := ⟨RX2, "leastChangedNote", "(LVersionTrans$Transaction;)I"⟩
abbrev cX2_isGraphChangedSince : ByteArray := prog_1_method_37_code
def yX2_isGraphChangedSince : MethodName := ⟨RX2, "isGraphChangedSince", "(II)Z"⟩
abbrev cX2_isChangedSince : ByteArray := prog_1_method_38_code
def yX2_isChangedSince : MethodName := ⟨RX2, "isChangedSince", "(II)Z"⟩
abbrev cX2_isThere : ByteArray := prog_1_method_39_code
def yX2_isThere : MethodName := ⟨RX2, "isThere", "(II)Z"⟩
abbrev cX2_leastKept : ByteArray := prog_1_method_40_code
def yX2_leastKept : MethodName := ⟨RX2, "leastKept", "()I"⟩
abbrev cX2_dropOldRows : ByteArray := prog_1_method_41_code
def yX2_dropOldRows : MethodName := ⟨RX2, "dropOldRows", "(II)I"⟩
abbrev cX2_cutBelow : ByteArray := prog_1_method_42_code
def yX2_cutBelow : MethodName := ⟨RX2, "cutBelow", "(ILVersionTrans$Row;)V"⟩
abbrev cX2_countRows : ByteArray := prog_1_method_43_code
def yX2_countRows : MethodName := ⟨RX2, "countRows", "(LVersionTrans$Row;)I"⟩
abbrev cX2_tryWrite : ByteArray := prog_1_method_44_code
def yX2_tryWrite : MethodName := ⟨RX2, "tryWrite", "(LVersionTrans$Transaction;IZ)V"⟩
abbrev cX2_outcomeOfWrite : ByteArray := prog_1_method_45_code
def yX2_outcomeOfWrite : MethodName := ⟨RX2, "outcomeOfWrite", "(LVersionTrans$Transaction;)I"⟩
abbrev cX2_beginToWait : ByteArray := prog_1_method_46_code
def yX2_beginToWait : MethodName := ⟨RX2, "beginToWait", "(LVersionTrans$Transaction;IZ)V"⟩
abbrev cX2_sizeOfRingThrough : ByteArray := prog_1_method_47_code
def yX2_sizeOfRingThrough : MethodName := ⟨RX2, "sizeOfRingThrough", "(LVersionTrans$Transaction;)I"⟩
abbrev cX2_keepRing : ByteArray := prog_1_method_48_code
def yX2_keepRing : MethodName := ⟨RX2, "keepRing", "(LVersionTrans$Transaction;I)V"⟩
abbrev cX2_addRingMember : ByteArray := prog_1_method_49_code
def yX2_addRingMember : MethodName := ⟨RX2, "addRingMember", "(I)V"⟩
abbrev cX2_queueThoseWaitingFor : ByteArray := prog_1_method_50_code
def yX2_queueThoseWaitingFor : MethodName := ⟨RX2, "queueThoseWaitingFor", "(LVersionTrans$Transaction;)V"⟩
abbrev cX2_firstWaitingFor : ByteArray := prog_1_method_51_code
def yX2_firstWaitingFor : MethodName := ⟨RX2, "firstWaitingFor", "(LVersionTrans$Transaction;I)LVersionTrans$Transaction;"⟩
abbrev cX2_addToQueue : ByteArray := prog_1_method_52_code
def yX2_addToQueue : MethodName := ⟨RX2, "addToQueue", "(LVersionTrans$Transaction;)V"⟩
abbrev cX2_retryQueued : ByteArray := prog_1_method_53_code
def yX2_retryQueued : MethodName := ⟨RX2, "retryQueued", "()V"⟩
def RX3 : String := "VersionTransModel"
def TX3 : u_T := fun k => match k with
  | 0 => ("VersionTransModel", "rowTriples", "[I", true)
  | 1 => ("VersionTransModel", "rowVersions", "[I", true)
  | 2 => ("VersionTransModel", "rowTells", "[Z", true)
  | 3 => ("VersionTransModel", "rows", "I", false)
  | 4 => ("VersionTransModel", "latest", "I", false)
  | 5 => ("VersionTransModel", "pins", "[I", true)
  | 6 => ("VersionTransModel", "writers", "[Z", true)
  | 7 => ("VersionTransModel", "sees", "[I", true)
  | 8 => ("VersionTransModel", "states", "[I", true)
  | 9 => ("VersionTransModel", "notes", "[I", true)
  | 10 => ("VersionTransModel", "wrote", "[I", true)
  | 11 => ("VersionTransModel", "waitsFor", "[I", true)
  | 12 => ("VersionTransModel", "waitTriples", "[I", true)
  | 13 => ("VersionTransModel", "waitTells", "[Z", true)
  | 14 => ("VersionTransModel", "since", "[I", true)
  | 15 => ("VersionTransModel", "clock", "I", false)
  | 16 => ("VersionTransModel", "count", "I", false)
  | 17 => ("VersionTransModel", "holders", "[I", true)
  | 18 => ("VersionTransModel", "queue", "[I", true)
  | 19 => ("VersionTransModel", "queueFrom", "I", false)
  | 20 => ("VersionTransModel", "queueTo", "I", false)
  | 21 => ("VersionTransModel", "ring", "[I", true)
  | 22 => ("VersionTransModel", "ringSize", "I", false)
  | 23 => ("VersionTransModel", "failures", "[I", true)
  | 24 => ("VersionTransModel", "refusals", "[I", true)
  | 25 => ("VersionTransModel", "thrown", "I", false)
  | _ => ("VersionTransModel", "best", "[I", true)
def tyX3 : Nat → FieldType := fun k => match k with
  | 0 => .array .int
  | 1 => .array .int
  | 2 => .array .boolean
  | 3 => .int
  | 4 => .int
  | 5 => .array .int
  | 6 => .array .boolean
  | 7 => .array .int
  | 8 => .array .int
  | 9 => .array .int
  | 10 => .array .int
  | 11 => .array .int
  | 12 => .array .int
  | 13 => .array .boolean
  | 14 => .array .int
  | 15 => .int
  | 16 => .int
  | 17 => .array .int
  | 18 => .array .int
  | 19 => .int
  | 20 => .int
  | 21 => .array .int
  | 22 => .int
  | 23 => .array .int
  | 24 => .array .int
  | 25 => .int
  | _ => .array .int
abbrev wsX30 : List Cond := u_ws RX3 TX3 27
theorem nmX3 : ∀ a, a < 27 → ∀ b, b < 27 → a ≠ b → (TX3 a).2.1 ≠ (TX3 b).2.1 := by decide +kernel
theorem tyX3_ok : ∀ k, k < 27 → parseFieldDescriptor (TX3 k).2.2.1 = some (tyX3 k) := by decide +kernel
abbrev cX3_thrown : ByteArray := prog_5_method_1_code
def yX3_thrown : MethodName := ⟨RX3, "thrown", "()I"⟩
abbrev cX3_init : ByteArray := prog_5_method_2_code
def yX3_init : MethodName := ⟨RX3, "<init>", "()V"⟩
abbrev cX3_fails : ByteArray := prog_5_method_3_code
def yX3_fails : MethodName := ⟨RX3, "fails", "(ZZ)Z"⟩
abbrev cX3_isTransaction : ByteArray := prog_5_method_4_code
def yX3_isTransaction : MethodName := ⟨RX3, "isTransaction", "(I)Z"⟩
abbrev cX3_isTriple : ByteArray := prog_5_method_5_code
def yX3_isTriple : MethodName := ⟨RX3, "isTriple", "(I)Z"⟩
abbrev cX3_isLive : ByteArray := prog_5_method_6_code
def yX3_isLive : MethodName := ⟨RX3, "isLive", "(I)Z"⟩
abbrev cX3_isTellable : ByteArray := prog_5_method_7_code
def yX3_isTellable : MethodName := ⟨RX3, "isTellable", "(I)Z"⟩
abbrev cX3_rowOf : ByteArray := prog_5_method_8_code
def yX3_rowOf : MethodName := ⟨RX3, "rowOf", "(II)I"⟩
abbrev cX3_isThere : ByteArray := prog_5_method_9_code
def yX3_isThere : MethodName := ⟨RX3, "isThere", "(II)Z"⟩
abbrev cX3_hasAbove : ByteArray := prog_5_method_10_code
def yX3_hasAbove : MethodName := ⟨RX3, "hasAbove", "(II)Z"⟩
abbrev cX3_least : ByteArray := prog_5_method_11_code
def yX3_least : MethodName := ⟨RX3, "least", "()I"⟩
abbrev cX3_leastKept : ByteArray := prog_5_method_12_code
def yX3_leastKept : MethodName := ⟨RX3, "leastKept", "()I"⟩
abbrev cX3_latest : ByteArray := prog_5_method_13_code
def yX3_latest : MethodName := ⟨RX3, "latest", "()I"⟩
abbrev cX3_rows : ByteArray := prog_5_method_14_code
def yX3_rows : MethodName := ⟨RX3, "rows", "()I"⟩
abbrev cX3_told : ByteArray := prog_5_method_15_code
def yX3_told : MethodName := ⟨RX3, "told", "(II)Z"⟩
abbrev cX3_pin : ByteArray := prog_5_method_16_code
def yX3_pin : MethodName := ⟨RX3, "pin", "(I)I"⟩
abbrev cX3_unpin : ByteArray := prog_5_method_17_code
def yX3_unpin : MethodName := ⟨RX3, "unpin", "(I)I"⟩
abbrev cX3_free : ByteArray := prog_5_method_18_code
def yX3_free : MethodName := ⟨RX3, "free", "()I"⟩
abbrev cX3_start : ByteArray := prog_5_method_19_code
def yX3_start : MethodName := ⟨RX3, "start", "(ZI)I"⟩
abbrev cX3_begin : ByteArray := prog_5_method_20_code
def yX3_begin : MethodName := ⟨RX3, "begin", "()I"⟩
abbrev cX3_look : ByteArray := prog_5_method_21_code
def yX3_look : MethodName := ⟨RX3, "look", "(I)I"⟩
abbrev cX3_state : ByteArray := prog_5_method_22_code
def yX3_state : MethodName := ⟨RX3, "state", "(I)I"⟩
abbrev cX3_waits : ByteArray := prog_5_method_23_code
def yX3_waits : MethodName := ⟨RX3, "waits", "(I)I"⟩
abbrev cX3_read : ByteArray := prog_5_method_24_code
def yX3_read : MethodName := ⟨RX3, "read", "(II)Z"⟩
abbrev cX3_canWrite : ByteArray := prog_5_method_25_code
def yX3_canWrite : MethodName := ⟨RX3, "canWrite", "(I)Z"⟩
abbrev cX3_note : ByteArray := prog_5_method_26_code
def yX3_note : MethodName := ⟨RX3, "note", "(II)I"⟩
abbrev cX3_put : ByteArray := prog_5_method_27_code
def yX3_put : MethodName := ⟨RX3, "put", "(IIZ)I"⟩
abbrev cX3_write : ByteArray := prog_5_method_28_code
def yX3_write : MethodName := ⟨RX3, "write", "(IIZ)V"⟩
abbrev cX3_lookForRing : ByteArray := prog_5_method_29_code
def yX3_lookForRing : MethodName := ⟨RX3, "lookForRing", "(I)V"⟩
abbrev cX3_takeRing : ByteArray := prog_5_method_30_code
def yX3_takeRing : MethodName := ⟨RX3, "takeRing", "(II)V"⟩
abbrev cX3_end : ByteArray := prog_5_method_31_code
def yX3_end : MethodName := ⟨RX3, "end", "(II)V"⟩
abbrev cX3_goOn : ByteArray := prog_5_method_32_code
def yX3_goOn : MethodName := ⟨RX3, "goOn", "()V"⟩
abbrev cX3_writes : ByteArray := prog_5_method_33_code
def yX3_writes : MethodName := ⟨RX3, "writes", "(I)I"⟩
abbrev cX3_abort : ByteArray := prog_5_method_34_code
def yX3_abort : MethodName := ⟨RX3, "abort", "(I)I"⟩
abbrev cX3_changed : ByteArray := prog_5_method_35_code
def yX3_changed : MethodName := ⟨RX3, "changed", "(I)I"⟩
abbrev cX3_commit : ByteArray := prog_5_method_36_code
def yX3_commit : MethodName := ⟨RX3, "commit", "(I)I"⟩
abbrev cX3_ring : ByteArray := prog_5_method_37_code
def yX3_ring : MethodName := ⟨RX3, "ring", "(I)I"⟩
abbrev cX3_conflicts : ByteArray := prog_5_method_38_code
def yX3_conflicts : MethodName := ⟨RX3, "conflicts", "(II)I"⟩
def RJ9 : String := "java/lang/Math"
def TJ9 : u_T := fun k => match k with
  | _ => ("", "", "", false)
def tyJ9 : Nat → FieldType := fun k => match k with
  | _ => .int
abbrev wsJ90 : List Cond := u_ws RJ9 TJ9 0
theorem nmJ9 : ∀ a, a < 0 → ∀ b, b < 0 → a ≠ b → (TJ9 a).2.1 ≠ (TJ9 b).2.1 := by decide +kernel
theorem tyJ9_ok : ∀ k, k < 0 → parseFieldDescriptor (TJ9 k).2.2.1 = some (tyJ9 k) := by decide +kernel
abbrev cJ9_min_7cf53 : ByteArray := prog_9_method_69_code
def yJ9_min_7cf53 : MethodName := ⟨RJ9, "min", "(II)I"⟩
def RJ0 : String := "java/lang/String"
def TJ0 : u_T := fun k => match k with
  | _ => ("", "", "", false)
def tyJ0 : Nat → FieldType := fun k => match k with
  | _ => .int
abbrev wsJ00 : List Cond := u_ws RJ0 TJ0 0
theorem nmJ0 : ∀ a, a < 0 → ∀ b, b < 0 → a ≠ b → (TJ0 a).2.1 ≠ (TJ0 b).2.1 := by decide +kernel
theorem tyJ0_ok : ∀ k, k < 0 → parseFieldDescriptor (TJ0 k).2.2.1 = some (tyJ0 k) := by decide +kernel
def RL : String := "VersionTransLaw"
abbrev cL_begin : ByteArray := method_3_code
def yL_begin : MethodName := ⟨RL, "begin", "(LVersionTrans;[J)I"⟩
abbrev cL_look : ByteArray := method_4_code
def yL_look : MethodName := ⟨RL, "look", "(LVersionTrans;I[J)I"⟩
abbrev cL_put : ByteArray := method_5_code
def yL_put : MethodName := ⟨RL, "put", "(LVersionTrans;IIZ[J)I"⟩
abbrev cL_note : ByteArray := method_6_code
def yL_note : MethodName := ⟨RL, "note", "(LVersionTrans;II[J)I"⟩
abbrev cL_read : ByteArray := method_7_code
def yL_read : MethodName := ⟨RL, "read", "(LVersionTrans;II[J)I"⟩
abbrev cL_told : ByteArray := method_8_code
def yL_told : MethodName := ⟨RL, "told", "(LVersionTrans;II[J)I"⟩
abbrev cL_commit : ByteArray := method_9_code
def yL_commit : MethodName := ⟨RL, "commit", "(LVersionTrans;I[J)I"⟩
abbrev cL_abort : ByteArray := method_10_code
def yL_abort : MethodName := ⟨RL, "abort", "(LVersionTrans;I[J)I"⟩
abbrev cL_pin : ByteArray := method_11_code
def yL_pin : MethodName := ⟨RL, "pin", "(LVersionTrans;I[J)I"⟩
abbrev cL_unpin : ByteArray := method_12_code
def yL_unpin : MethodName := ⟨RL, "unpin", "(LVersionTrans;I[J)I"⟩
abbrev cL_state : ByteArray := method_13_code
def yL_state : MethodName := ⟨RL, "state", "(LVersionTrans;I[J)I"⟩
abbrev cL_waits : ByteArray := method_14_code
def yL_waits : MethodName := ⟨RL, "waits", "(LVersionTrans;I[J)I"⟩
abbrev cL_conflicts : ByteArray := method_15_code
def yL_conflicts : MethodName := ⟨RL, "conflicts", "(LVersionTrans;II[J)I"⟩
abbrev cL_law : ByteArray := code
def yL_law : MethodName := ⟨RL, "law", "([I)Z"⟩
def wsX0_init : List Cond := .code yX0_init cX0_init 4 none :: ([.methodLink RX0 1 objectInit, .instanceMethod objectInit, .code objectInit ⟨#[0xb1]⟩ 1 none, .fieldLink RX0 7 "VersionTrans$Row" "version" "I", .fieldLink RX0 13 "VersionTrans$Row" "there" "Z", .fieldLink RX0 17 "VersionTrans$Row" "older" "LVersionTrans$Row;"] ++ wsX00)
def wsX1_init : List Cond := .code yX1_init cX1_init 4 none :: ([.methodLink RX1 3 objectInit, .instanceMethod objectInit, .code objectInit ⟨#[0xb1]⟩ 1 none, .fieldLink RX1 9 "VersionTrans$Transaction" "number" "I", .fieldLink RX1 15 "VersionTrans$Transaction" "writer" "Z", .fieldLink RX1 19 "VersionTrans$Transaction" "sees" "I", .arrayClass .boolean, .fieldLink RX1 22 "VersionTrans$Transaction" "noted" "[Z", .fieldLink RX1 26 "VersionTrans$Transaction" "state" "I"] ++ wsX10)
def wsX1_hasEnded : List Cond := .code yX1_hasEnded cX1_hasEnded 1 (some .boolean) :: ([.fieldLink RX1 26 "VersionTrans$Transaction" "state" "I"] ++ wsX10)
def wsX2_init : List Cond := .code yX2_init cX2_init 1 none :: ([.methodLink RX2 3 objectInit, .instanceMethod objectInit, .code objectInit ⟨#[0xb1]⟩ 1 none, .classLink RX2 9 RX1, .fieldLink RX2 11 "VersionTrans" "transactions" "[LVersionTrans$Transaction;", .classLink RX2 15 RX0, .fieldLink RX2 17 "VersionTrans" "newest" "[LVersionTrans$Row;", .arrayClass .int, .fieldLink RX2 21 "VersionTrans" "pins" "[I", .fieldLink RX2 25 "VersionTrans" "holder" "[LVersionTrans$Transaction;", .arrayClass .boolean, .fieldLink RX2 28 "VersionTrans" "written" "[Z", .fieldLink RX2 32 "VersionTrans" "failedByTriple" "[I", .fieldLink RX2 35 "VersionTrans" "refusedForGraph" "[I", .fieldLink RX2 38 "VersionTrans" "ringMembers" "[I"] ++ wsX20)
def wsX2_enter : List Cond := .code yX2_enter cX2_enter 4 (some .int) :: ([.classLink RX2 168 "java/lang/IllegalStateException", .initialized "java/lang/IllegalStateException", .fieldLink RX2 144 "VersionTrans" "begun" "I", .fieldLink RX2 11 "VersionTrans" "transactions" "[LVersionTrans$Transaction;", .classLink RX2 9 RX1, .instantiable RX1 11, .initialized RX1, .methodLink RX2 183 yX1_init, .instanceMethod yX1_init, .code yX1_init cX1_init 4 none, .methodLink RX1 3 objectInit, .instanceMethod objectInit, .code objectInit ⟨#[0xb1]⟩ 1 none, .fieldLink RX1 9 "VersionTrans$Transaction" "number" "I", .fieldLink RX1 15 "VersionTrans$Transaction" "writer" "Z", .fieldLink RX1 19 "VersionTrans$Transaction" "sees" "I", .arrayClass .boolean, .fieldLink RX1 22 "VersionTrans$Transaction" "noted" "[Z", .fieldLink RX1 26 "VersionTrans$Transaction" "state" "I"] ++ wsX20 ++ wsX10 ++ (vx_atS RX2 172 "java/lang/IllegalStateException" ["java/lang/RuntimeException", "java/lang/Exception"]).filter goodWord)
def wsX2_begin_r1 : List Cond := [Cond.fieldLink RX2 41 "VersionTrans" "latestVersion" "I", Cond.methodLink RX2 45 yX2_enter, Cond.instanceMethod yX2_enter, Cond.selects RX2 yX2_enter yX2_enter, Cond.initialized RX2, Cond.code yX2_enter cX2_enter 4 (some .int), Cond.classLink RX2 168 "java/lang/IllegalStateException", Cond.initialized "java/lang/IllegalStateException", Cond.fieldLink RX2 144 "VersionTrans" "begun" "I", Cond.fieldLink RX2 11 "VersionTrans" "transactions" "[LVersionTrans$Transaction;", Cond.classLink RX2 9 RX1, Cond.instantiable RX1 11, Cond.initialized RX1, Cond.methodLink RX2 183 yX1_init, Cond.instanceMethod yX1_init, Cond.code yX1_init cX1_init 4 none, Cond.methodLink RX1 3 objectInit, Cond.instanceMethod objectInit, Cond.code objectInit ⟨#[0xb1]⟩ 1 none, Cond.fieldLink RX1 9 "VersionTrans$Transaction" "number" "I", Cond.fieldLink RX1 15 "VersionTrans$Transaction" "writer" "Z", Cond.fieldLink RX1 19 "VersionTrans$Transaction" "sees" "I", Cond.arrayClass .boolean, Cond.fieldLink RX1 22 "VersionTrans$Transaction" "noted" "[Z"]
def wsX2_begin_r2 : List Cond := [Cond.fieldLink RX1 26 "VersionTrans$Transaction" "state" "I"]
def wsX2_begin : List Cond := .code yX2_begin cX2_begin 1 (some .int) :: ((wsX2_begin_r1 ++ wsX2_begin_r2) ++ wsX20 ++ wsX10 ++ (vx_atS RX2 172 "java/lang/IllegalStateException" ["java/lang/RuntimeException", "java/lang/Exception"]).filter goodWord)
def wsX2_leastKept : List Cond := .code yX2_leastKept cX2_leastKept 3 (some .int) :: ([.fieldLink RX2 41 "VersionTrans" "latestVersion" "I", .fieldLink RX2 144 "VersionTrans" "begun" "I", .fieldLink RX2 11 "VersionTrans" "transactions" "[LVersionTrans$Transaction;", .fieldLink RX2 87 "VersionTrans$Transaction" "sees" "I", .methodLink RX2 215 Lib.Math.min.name, .static Lib.Math.min.name, .initialized "java/lang/Math", .code Lib.Math.min.name Lib.Math.min.code 2 (some .int), .fieldLink RX2 21 "VersionTrans" "pins" "[I", .methodLink RX2 164 yX1_hasEnded, .instanceMethod yX1_hasEnded, .selects RX1 yX1_hasEnded yX1_hasEnded, .initialized RX1, .code yX1_hasEnded cX1_hasEnded 1 (some .boolean), .fieldLink RX1 26 "VersionTrans$Transaction" "state" "I"] ++ wsX20 ++ wsX10)
def wsX2_requireVersion : List Cond := .code yX2_requireVersion cX2_requireVersion 2 none :: ([.classLink RX2 147 "java/lang/IllegalArgumentException", .initialized "java/lang/IllegalArgumentException", .fieldLink RX2 41 "VersionTrans" "latestVersion" "I", .methodLink RX2 117 yX2_leastKept, .instanceMethod yX2_leastKept, .selects RX2 yX2_leastKept yX2_leastKept, .initialized RX2, .code yX2_leastKept cX2_leastKept 3 (some .int), .fieldLink RX2 144 "VersionTrans" "begun" "I", .fieldLink RX2 11 "VersionTrans" "transactions" "[LVersionTrans$Transaction;", .fieldLink RX2 87 "VersionTrans$Transaction" "sees" "I", .methodLink RX2 215 Lib.Math.min.name, .static Lib.Math.min.name, .initialized "java/lang/Math", .code Lib.Math.min.name Lib.Math.min.code 2 (some .int), .fieldLink RX2 21 "VersionTrans" "pins" "[I", .methodLink RX2 164 yX1_hasEnded, .instanceMethod yX1_hasEnded, .selects RX1 yX1_hasEnded yX1_hasEnded, .initialized RX1, .code yX1_hasEnded cX1_hasEnded 1 (some .boolean), .fieldLink RX1 26 "VersionTrans$Transaction" "state" "I"] ++ wsX20 ++ wsX10 ++ (vx_atS RX2 151 "java/lang/IllegalArgumentException" ["java/lang/RuntimeException", "java/lang/Exception"]).filter goodWord)
def wsX2_look_r1 : List Cond := [Cond.methodLink RX2 49 yX2_requireVersion, Cond.instanceMethod yX2_requireVersion, Cond.selects RX2 yX2_requireVersion yX2_requireVersion, Cond.initialized RX2, Cond.code yX2_requireVersion cX2_requireVersion 2 none, Cond.classLink RX2 147 "java/lang/IllegalArgumentException", Cond.initialized "java/lang/IllegalArgumentException", Cond.fieldLink RX2 41 "VersionTrans" "latestVersion" "I", Cond.methodLink RX2 117 yX2_leastKept, Cond.instanceMethod yX2_leastKept, Cond.selects RX2 yX2_leastKept yX2_leastKept, Cond.code yX2_leastKept cX2_leastKept 3 (some .int), Cond.fieldLink RX2 144 "VersionTrans" "begun" "I", Cond.fieldLink RX2 11 "VersionTrans" "transactions" "[LVersionTrans$Transaction;", Cond.fieldLink RX2 87 "VersionTrans$Transaction" "sees" "I", Cond.methodLink RX2 215 Lib.Math.min.name, Cond.static Lib.Math.min.name, Cond.initialized "java/lang/Math", Cond.code Lib.Math.min.name Lib.Math.min.code 2 (some .int), Cond.fieldLink RX2 21 "VersionTrans" "pins" "[I", Cond.methodLink RX2 164 yX1_hasEnded, Cond.instanceMethod yX1_hasEnded, Cond.selects RX1 yX1_hasEnded yX1_hasEnded, Cond.initialized RX1]
def wsX2_look_r2 : List Cond := [Cond.code yX1_hasEnded cX1_hasEnded 1 (some .boolean), Cond.fieldLink RX1 26 "VersionTrans$Transaction" "state" "I", Cond.methodLink RX2 45 yX2_enter, Cond.instanceMethod yX2_enter, Cond.selects RX2 yX2_enter yX2_enter, Cond.code yX2_enter cX2_enter 4 (some .int), Cond.classLink RX2 168 "java/lang/IllegalStateException", Cond.initialized "java/lang/IllegalStateException", Cond.classLink RX2 9 RX1, Cond.instantiable RX1 11, Cond.methodLink RX2 183 yX1_init, Cond.instanceMethod yX1_init, Cond.code yX1_init cX1_init 4 none, Cond.methodLink RX1 3 objectInit, Cond.instanceMethod objectInit, Cond.code objectInit ⟨#[0xb1]⟩ 1 none, Cond.fieldLink RX1 9 "VersionTrans$Transaction" "number" "I", Cond.fieldLink RX1 15 "VersionTrans$Transaction" "writer" "Z", Cond.fieldLink RX1 19 "VersionTrans$Transaction" "sees" "I", Cond.arrayClass .boolean, Cond.fieldLink RX1 22 "VersionTrans$Transaction" "noted" "[Z"]
def wsX2_look : List Cond := .code yX2_look cX2_look 2 (some .int) :: ((wsX2_look_r1 ++ wsX2_look_r2) ++ wsX20 ++ wsX10 ++ (vx_atS RX2 151 "java/lang/IllegalArgumentException" ["java/lang/RuntimeException", "java/lang/Exception"]).filter goodWord ++ (vx_atS RX2 172 "java/lang/IllegalStateException" ["java/lang/RuntimeException", "java/lang/Exception"]).filter goodWord)
def wsX2_known : List Cond := .code yX2_known cX2_known 2 (some (.object "VersionTrans$Transaction")) :: ([.classLink RX2 147 "java/lang/IllegalArgumentException", .initialized "java/lang/IllegalArgumentException", .fieldLink RX2 144 "VersionTrans" "begun" "I", .fieldLink RX2 11 "VersionTrans" "transactions" "[LVersionTrans$Transaction;"] ++ wsX20 ++ (vx_atS RX2 151 "java/lang/IllegalArgumentException" ["java/lang/RuntimeException", "java/lang/Exception"]).filter goodWord)
def wsX2_requireTriple : List Cond := .code yX2_requireTriple cX2_requireTriple 1 none :: ([.classLink RX2 147 "java/lang/IllegalArgumentException", .initialized "java/lang/IllegalArgumentException"] ++ (vx_atS RX2 151 "java/lang/IllegalArgumentException" ["java/lang/RuntimeException", "java/lang/Exception"]).filter goodWord)
def wsX2_requireOpenWriter : List Cond := .code yX2_requireOpenWriter cX2_requireOpenWriter 1 none :: ([.classLink RX2 168 "java/lang/IllegalStateException", .initialized "java/lang/IllegalStateException", .fieldLink RX2 175 "VersionTrans$Transaction" "writer" "Z", .fieldLink RX2 128 "VersionTrans$Transaction" "state" "I"] ++ wsX10 ++ (vx_atS RX2 172 "java/lang/IllegalStateException" ["java/lang/RuntimeException", "java/lang/Exception"]).filter goodWord)
def wsX2_isChangedSince : List Cond := .code yX2_isChangedSince cX2_isChangedSince 3 (some .boolean) :: ([.fieldLink RX2 17 "VersionTrans" "newest" "[LVersionTrans$Row;", .fieldLink RX2 205 "VersionTrans$Row" "version" "I"] ++ wsX20 ++ wsX00)
def wsX2_sizeOfRingThrough : List Cond := .code yX2_sizeOfRingThrough cX2_sizeOfRingThrough 4 (some .int) :: ([.fieldLink RX2 131 "VersionTrans$Transaction" "waitsFor" "LVersionTrans$Transaction;"] ++ wsX10)
def wsX2_addRingMember : List Cond := .code yX2_addRingMember cX2_addRingMember 3 none :: ([.fieldLink RX2 138 "VersionTrans" "ringSize" "I", .fieldLink RX2 38 "VersionTrans" "ringMembers" "[I"] ++ wsX20)
def wsX2_keepRing : List Cond := .code yX2_keepRing cX2_keepRing 5 none :: ([.fieldLink RX2 138 "VersionTrans" "ringSize" "I", .fieldLink RX2 135 "VersionTrans$Transaction" "number" "I", .fieldLink RX2 131 "VersionTrans$Transaction" "waitsFor" "LVersionTrans$Transaction;", .methodLink RX2 249 yX2_addRingMember, .instanceMethod yX2_addRingMember, .selects RX2 yX2_addRingMember yX2_addRingMember, .initialized RX2, .code yX2_addRingMember cX2_addRingMember 3 none, .fieldLink RX2 38 "VersionTrans" "ringMembers" "[I"] ++ wsX20 ++ wsX10)
def wsX2_firstWaitingFor : List Cond := .code yX2_firstWaitingFor cX2_firstWaitingFor 6 (some (.object "VersionTrans$Transaction")) :: ([.fieldLink RX2 144 "VersionTrans" "begun" "I", .fieldLink RX2 11 "VersionTrans" "transactions" "[LVersionTrans$Transaction;", .fieldLink RX2 131 "VersionTrans$Transaction" "waitsFor" "LVersionTrans$Transaction;", .fieldLink RX2 240 "VersionTrans$Transaction" "beganToWait" "I"] ++ wsX20 ++ wsX10)
def wsX2_addToQueue : List Cond := .code yX2_addToQueue cX2_addToQueue 2 none :: ([.fieldLink RX2 259 "VersionTrans$Transaction" "nextInQueue" "LVersionTrans$Transaction;", .fieldLink RX2 262 "VersionTrans" "lastInQueue" "LVersionTrans$Transaction;", .fieldLink RX2 265 "VersionTrans" "firstInQueue" "LVersionTrans$Transaction;"] ++ wsX10 ++ wsX20)
def wsX2_queueThoseWaitingFor : List Cond := .code yX2_queueThoseWaitingFor cX2_queueThoseWaitingFor 4 none :: ([.fieldLink RX2 240 "VersionTrans$Transaction" "beganToWait" "I", .methodLink RX2 252 yX2_firstWaitingFor, .instanceMethod yX2_firstWaitingFor, .selects RX2 yX2_firstWaitingFor yX2_firstWaitingFor, .initialized RX2, .code yX2_firstWaitingFor cX2_firstWaitingFor 6 (some (.object "VersionTrans$Transaction")), .fieldLink RX2 144 "VersionTrans" "begun" "I", .fieldLink RX2 11 "VersionTrans" "transactions" "[LVersionTrans$Transaction;", .fieldLink RX2 131 "VersionTrans$Transaction" "waitsFor" "LVersionTrans$Transaction;", .methodLink RX2 256 yX2_addToQueue, .instanceMethod yX2_addToQueue, .selects RX2 yX2_addToQueue yX2_addToQueue, .code yX2_addToQueue cX2_addToQueue 2 none, .fieldLink RX2 259 "VersionTrans$Transaction" "nextInQueue" "LVersionTrans$Transaction;", .fieldLink RX2 262 "VersionTrans" "lastInQueue" "LVersionTrans$Transaction;", .fieldLink RX2 265 "VersionTrans" "firstInQueue" "LVersionTrans$Transaction;"] ++ wsX10 ++ wsX20)
def wsX2_finish : List Cond := .code yX2_finish cX2_finish 4 none :: ([.fieldLink RX2 128 "VersionTrans$Transaction" "state" "I", .fieldLink RX2 131 "VersionTrans$Transaction" "waitsFor" "LVersionTrans$Transaction;", .fieldLink RX2 25 "VersionTrans" "holder" "[LVersionTrans$Transaction;", .methodLink RX2 186 yX2_queueThoseWaitingFor, .instanceMethod yX2_queueThoseWaitingFor, .selects RX2 yX2_queueThoseWaitingFor yX2_queueThoseWaitingFor, .initialized RX2, .code yX2_queueThoseWaitingFor cX2_queueThoseWaitingFor 4 none, .fieldLink RX2 240 "VersionTrans$Transaction" "beganToWait" "I", .methodLink RX2 252 yX2_firstWaitingFor, .instanceMethod yX2_firstWaitingFor, .selects RX2 yX2_firstWaitingFor yX2_firstWaitingFor, .code yX2_firstWaitingFor cX2_firstWaitingFor 6 (some (.object "VersionTrans$Transaction")), .fieldLink RX2 144 "VersionTrans" "begun" "I", .fieldLink RX2 11 "VersionTrans" "transactions" "[LVersionTrans$Transaction;", .methodLink RX2 256 yX2_addToQueue, .instanceMethod yX2_addToQueue, .selects RX2 yX2_addToQueue yX2_addToQueue, .code yX2_addToQueue cX2_addToQueue 2 none, .fieldLink RX2 259 "VersionTrans$Transaction" "nextInQueue" "LVersionTrans$Transaction;", .fieldLink RX2 262 "VersionTrans" "lastInQueue" "LVersionTrans$Transaction;", .fieldLink RX2 265 "VersionTrans" "firstInQueue" "LVersionTrans$Transaction;"] ++ wsX10 ++ wsX20)
def wsX2_beginToWait_r1 : List Cond := [Cond.fieldLink RX2 231 "VersionTrans" "waitsBegun" "I", Cond.fieldLink RX2 128 "VersionTrans$Transaction" "state" "I", Cond.fieldLink RX2 25 "VersionTrans" "holder" "[LVersionTrans$Transaction;", Cond.fieldLink RX2 131 "VersionTrans$Transaction" "waitsFor" "LVersionTrans$Transaction;", Cond.fieldLink RX2 234 "VersionTrans$Transaction" "waitingTriple" "I", Cond.fieldLink RX2 237 "VersionTrans$Transaction" "waitingThere" "Z", Cond.fieldLink RX2 240 "VersionTrans$Transaction" "beganToWait" "I", Cond.fieldLink RX2 11 "VersionTrans" "transactions" "[LVersionTrans$Transaction;", Cond.fieldLink RX2 38 "VersionTrans" "ringMembers" "[I", Cond.methodLink RX2 243 yX2_sizeOfRingThrough, Cond.instanceMethod yX2_sizeOfRingThrough, Cond.selects RX2 yX2_sizeOfRingThrough yX2_sizeOfRingThrough, Cond.initialized RX2, Cond.code yX2_sizeOfRingThrough cX2_sizeOfRingThrough 4 (some .int), Cond.methodLink RX2 246 yX2_keepRing, Cond.instanceMethod yX2_keepRing, Cond.selects RX2 yX2_keepRing yX2_keepRing, Cond.code yX2_keepRing cX2_keepRing 5 none, Cond.fieldLink RX2 138 "VersionTrans" "ringSize" "I", Cond.fieldLink RX2 135 "VersionTrans$Transaction" "number" "I", Cond.methodLink RX2 249 yX2_addRingMember, Cond.instanceMethod yX2_addRingMember, Cond.selects RX2 yX2_addRingMember yX2_addRingMember, Cond.code yX2_addRingMember cX2_addRingMember 3 none]
def wsX2_beginToWait_r2 : List Cond := [Cond.methodLink RX2 110 yX2_finish, Cond.instanceMethod yX2_finish, Cond.selects RX2 yX2_finish yX2_finish, Cond.code yX2_finish cX2_finish 4 none, Cond.methodLink RX2 186 yX2_queueThoseWaitingFor, Cond.instanceMethod yX2_queueThoseWaitingFor, Cond.selects RX2 yX2_queueThoseWaitingFor yX2_queueThoseWaitingFor, Cond.code yX2_queueThoseWaitingFor cX2_queueThoseWaitingFor 4 none, Cond.methodLink RX2 252 yX2_firstWaitingFor, Cond.instanceMethod yX2_firstWaitingFor, Cond.selects RX2 yX2_firstWaitingFor yX2_firstWaitingFor, Cond.code yX2_firstWaitingFor cX2_firstWaitingFor 6 (some (.object "VersionTrans$Transaction")), Cond.fieldLink RX2 144 "VersionTrans" "begun" "I", Cond.methodLink RX2 256 yX2_addToQueue, Cond.instanceMethod yX2_addToQueue, Cond.selects RX2 yX2_addToQueue yX2_addToQueue, Cond.code yX2_addToQueue cX2_addToQueue 2 none, Cond.fieldLink RX2 259 "VersionTrans$Transaction" "nextInQueue" "LVersionTrans$Transaction;", Cond.fieldLink RX2 262 "VersionTrans" "lastInQueue" "LVersionTrans$Transaction;", Cond.fieldLink RX2 265 "VersionTrans" "firstInQueue" "LVersionTrans$Transaction;"]
def wsX2_beginToWait : List Cond := .code yX2_beginToWait cX2_beginToWait 5 none :: ((wsX2_beginToWait_r1 ++ wsX2_beginToWait_r2) ++ wsX20 ++ wsX10)
def wsX2_tryWrite_r1 : List Cond := [Cond.fieldLink RX2 128 "VersionTrans$Transaction" "state" "I", Cond.fieldLink RX2 131 "VersionTrans$Transaction" "waitsFor" "LVersionTrans$Transaction;", Cond.fieldLink RX2 87 "VersionTrans$Transaction" "sees" "I", Cond.fieldLink RX2 32 "VersionTrans" "failedByTriple" "[I", Cond.fieldLink RX2 25 "VersionTrans" "holder" "[LVersionTrans$Transaction;", Cond.fieldLink RX2 28 "VersionTrans" "written" "[Z", Cond.methodLink RX2 202 yX2_isChangedSince, Cond.instanceMethod yX2_isChangedSince, Cond.selects RX2 yX2_isChangedSince yX2_isChangedSince, Cond.initialized RX2, Cond.code yX2_isChangedSince cX2_isChangedSince 3 (some .boolean), Cond.fieldLink RX2 17 "VersionTrans" "newest" "[LVersionTrans$Row;", Cond.fieldLink RX2 205 "VersionTrans$Row" "version" "I", Cond.methodLink RX2 228 yX2_beginToWait, Cond.instanceMethod yX2_beginToWait, Cond.selects RX2 yX2_beginToWait yX2_beginToWait, Cond.code yX2_beginToWait cX2_beginToWait 5 none, Cond.fieldLink RX2 231 "VersionTrans" "waitsBegun" "I", Cond.fieldLink RX2 234 "VersionTrans$Transaction" "waitingTriple" "I", Cond.fieldLink RX2 237 "VersionTrans$Transaction" "waitingThere" "Z", Cond.fieldLink RX2 240 "VersionTrans$Transaction" "beganToWait" "I", Cond.fieldLink RX2 11 "VersionTrans" "transactions" "[LVersionTrans$Transaction;", Cond.fieldLink RX2 38 "VersionTrans" "ringMembers" "[I", Cond.methodLink RX2 243 yX2_sizeOfRingThrough]
def wsX2_tryWrite_r2 : List Cond := [Cond.instanceMethod yX2_sizeOfRingThrough, Cond.selects RX2 yX2_sizeOfRingThrough yX2_sizeOfRingThrough, Cond.code yX2_sizeOfRingThrough cX2_sizeOfRingThrough 4 (some .int), Cond.methodLink RX2 246 yX2_keepRing, Cond.instanceMethod yX2_keepRing, Cond.selects RX2 yX2_keepRing yX2_keepRing, Cond.code yX2_keepRing cX2_keepRing 5 none, Cond.fieldLink RX2 138 "VersionTrans" "ringSize" "I", Cond.fieldLink RX2 135 "VersionTrans$Transaction" "number" "I", Cond.methodLink RX2 249 yX2_addRingMember, Cond.instanceMethod yX2_addRingMember, Cond.selects RX2 yX2_addRingMember yX2_addRingMember, Cond.code yX2_addRingMember cX2_addRingMember 3 none, Cond.methodLink RX2 110 yX2_finish, Cond.instanceMethod yX2_finish, Cond.selects RX2 yX2_finish yX2_finish, Cond.code yX2_finish cX2_finish 4 none, Cond.methodLink RX2 186 yX2_queueThoseWaitingFor, Cond.instanceMethod yX2_queueThoseWaitingFor, Cond.selects RX2 yX2_queueThoseWaitingFor yX2_queueThoseWaitingFor, Cond.code yX2_queueThoseWaitingFor cX2_queueThoseWaitingFor 4 none, Cond.methodLink RX2 252 yX2_firstWaitingFor, Cond.instanceMethod yX2_firstWaitingFor, Cond.selects RX2 yX2_firstWaitingFor yX2_firstWaitingFor]
def wsX2_tryWrite_r3 : List Cond := [Cond.code yX2_firstWaitingFor cX2_firstWaitingFor 6 (some (.object "VersionTrans$Transaction")), Cond.fieldLink RX2 144 "VersionTrans" "begun" "I", Cond.methodLink RX2 256 yX2_addToQueue, Cond.instanceMethod yX2_addToQueue, Cond.selects RX2 yX2_addToQueue yX2_addToQueue, Cond.code yX2_addToQueue cX2_addToQueue 2 none, Cond.fieldLink RX2 259 "VersionTrans$Transaction" "nextInQueue" "LVersionTrans$Transaction;", Cond.fieldLink RX2 262 "VersionTrans" "lastInQueue" "LVersionTrans$Transaction;", Cond.fieldLink RX2 265 "VersionTrans" "firstInQueue" "LVersionTrans$Transaction;"]
def wsX2_tryWrite : List Cond := .code yX2_tryWrite cX2_tryWrite 4 none :: ((wsX2_tryWrite_r1 ++ (wsX2_tryWrite_r2 ++ wsX2_tryWrite_r3)) ++ wsX10 ++ wsX20 ++ wsX00)
def wsX2_retryQueued_r1 : List Cond := [Cond.fieldLink RX2 265 "VersionTrans" "firstInQueue" "LVersionTrans$Transaction;", Cond.fieldLink RX2 259 "VersionTrans$Transaction" "nextInQueue" "LVersionTrans$Transaction;", Cond.fieldLink RX2 262 "VersionTrans" "lastInQueue" "LVersionTrans$Transaction;", Cond.fieldLink RX2 128 "VersionTrans$Transaction" "state" "I", Cond.fieldLink RX2 234 "VersionTrans$Transaction" "waitingTriple" "I", Cond.fieldLink RX2 237 "VersionTrans$Transaction" "waitingThere" "Z", Cond.methodLink RX2 64 yX2_tryWrite, Cond.instanceMethod yX2_tryWrite, Cond.selects RX2 yX2_tryWrite yX2_tryWrite, Cond.initialized RX2, Cond.code yX2_tryWrite cX2_tryWrite 4 none, Cond.fieldLink RX2 131 "VersionTrans$Transaction" "waitsFor" "LVersionTrans$Transaction;", Cond.fieldLink RX2 87 "VersionTrans$Transaction" "sees" "I", Cond.fieldLink RX2 32 "VersionTrans" "failedByTriple" "[I", Cond.fieldLink RX2 25 "VersionTrans" "holder" "[LVersionTrans$Transaction;", Cond.fieldLink RX2 28 "VersionTrans" "written" "[Z", Cond.methodLink RX2 202 yX2_isChangedSince, Cond.instanceMethod yX2_isChangedSince, Cond.selects RX2 yX2_isChangedSince yX2_isChangedSince, Cond.code yX2_isChangedSince cX2_isChangedSince 3 (some .boolean), Cond.fieldLink RX2 17 "VersionTrans" "newest" "[LVersionTrans$Row;", Cond.fieldLink RX2 205 "VersionTrans$Row" "version" "I", Cond.methodLink RX2 228 yX2_beginToWait, Cond.instanceMethod yX2_beginToWait]
def wsX2_retryQueued_r2 : List Cond := [Cond.selects RX2 yX2_beginToWait yX2_beginToWait, Cond.code yX2_beginToWait cX2_beginToWait 5 none, Cond.fieldLink RX2 231 "VersionTrans" "waitsBegun" "I", Cond.fieldLink RX2 240 "VersionTrans$Transaction" "beganToWait" "I", Cond.fieldLink RX2 11 "VersionTrans" "transactions" "[LVersionTrans$Transaction;", Cond.fieldLink RX2 38 "VersionTrans" "ringMembers" "[I", Cond.methodLink RX2 243 yX2_sizeOfRingThrough, Cond.instanceMethod yX2_sizeOfRingThrough, Cond.selects RX2 yX2_sizeOfRingThrough yX2_sizeOfRingThrough, Cond.code yX2_sizeOfRingThrough cX2_sizeOfRingThrough 4 (some .int), Cond.methodLink RX2 246 yX2_keepRing, Cond.instanceMethod yX2_keepRing, Cond.selects RX2 yX2_keepRing yX2_keepRing, Cond.code yX2_keepRing cX2_keepRing 5 none, Cond.fieldLink RX2 138 "VersionTrans" "ringSize" "I", Cond.fieldLink RX2 135 "VersionTrans$Transaction" "number" "I", Cond.methodLink RX2 249 yX2_addRingMember, Cond.instanceMethod yX2_addRingMember, Cond.selects RX2 yX2_addRingMember yX2_addRingMember, Cond.code yX2_addRingMember cX2_addRingMember 3 none, Cond.methodLink RX2 110 yX2_finish, Cond.instanceMethod yX2_finish, Cond.selects RX2 yX2_finish yX2_finish, Cond.code yX2_finish cX2_finish 4 none]
def wsX2_retryQueued_r3 : List Cond := [Cond.methodLink RX2 186 yX2_queueThoseWaitingFor, Cond.instanceMethod yX2_queueThoseWaitingFor, Cond.selects RX2 yX2_queueThoseWaitingFor yX2_queueThoseWaitingFor, Cond.code yX2_queueThoseWaitingFor cX2_queueThoseWaitingFor 4 none, Cond.methodLink RX2 252 yX2_firstWaitingFor, Cond.instanceMethod yX2_firstWaitingFor, Cond.selects RX2 yX2_firstWaitingFor yX2_firstWaitingFor, Cond.code yX2_firstWaitingFor cX2_firstWaitingFor 6 (some (.object "VersionTrans$Transaction")), Cond.fieldLink RX2 144 "VersionTrans" "begun" "I", Cond.methodLink RX2 256 yX2_addToQueue, Cond.instanceMethod yX2_addToQueue, Cond.selects RX2 yX2_addToQueue yX2_addToQueue, Cond.code yX2_addToQueue cX2_addToQueue 2 none]
def wsX2_retryQueued : List Cond := .code yX2_retryQueued cX2_retryQueued 3 none :: ((wsX2_retryQueued_r1 ++ (wsX2_retryQueued_r2 ++ wsX2_retryQueued_r3)) ++ wsX20 ++ wsX10 ++ wsX00)
def wsX2_outcomeOfWrite : List Cond := .code yX2_outcomeOfWrite cX2_outcomeOfWrite 1 (some .int) :: ([.fieldLink RX2 128 "VersionTrans$Transaction" "state" "I"] ++ wsX10)
def wsX2_put_r1 : List Cond := [Cond.methodLink RX2 53 yX2_known, Cond.instanceMethod yX2_known, Cond.selects RX2 yX2_known yX2_known, Cond.initialized RX2, Cond.code yX2_known cX2_known 2 (some (.object "VersionTrans$Transaction")), Cond.classLink RX2 147 "java/lang/IllegalArgumentException", Cond.initialized "java/lang/IllegalArgumentException", Cond.fieldLink RX2 144 "VersionTrans" "begun" "I", Cond.fieldLink RX2 11 "VersionTrans" "transactions" "[LVersionTrans$Transaction;", Cond.methodLink RX2 57 yX2_requireTriple, Cond.static yX2_requireTriple, Cond.code yX2_requireTriple cX2_requireTriple 1 none, Cond.methodLink RX2 60 yX2_requireOpenWriter, Cond.static yX2_requireOpenWriter, Cond.code yX2_requireOpenWriter cX2_requireOpenWriter 1 none, Cond.classLink RX2 168 "java/lang/IllegalStateException", Cond.initialized "java/lang/IllegalStateException", Cond.fieldLink RX2 175 "VersionTrans$Transaction" "writer" "Z", Cond.fieldLink RX2 128 "VersionTrans$Transaction" "state" "I", Cond.methodLink RX2 64 yX2_tryWrite, Cond.instanceMethod yX2_tryWrite, Cond.selects RX2 yX2_tryWrite yX2_tryWrite, Cond.code yX2_tryWrite cX2_tryWrite 4 none, Cond.fieldLink RX2 131 "VersionTrans$Transaction" "waitsFor" "LVersionTrans$Transaction;"]
def wsX2_put_r2 : List Cond := [Cond.fieldLink RX2 87 "VersionTrans$Transaction" "sees" "I", Cond.fieldLink RX2 32 "VersionTrans" "failedByTriple" "[I", Cond.fieldLink RX2 25 "VersionTrans" "holder" "[LVersionTrans$Transaction;", Cond.fieldLink RX2 28 "VersionTrans" "written" "[Z", Cond.methodLink RX2 202 yX2_isChangedSince, Cond.instanceMethod yX2_isChangedSince, Cond.selects RX2 yX2_isChangedSince yX2_isChangedSince, Cond.code yX2_isChangedSince cX2_isChangedSince 3 (some .boolean), Cond.fieldLink RX2 17 "VersionTrans" "newest" "[LVersionTrans$Row;", Cond.fieldLink RX2 205 "VersionTrans$Row" "version" "I", Cond.methodLink RX2 228 yX2_beginToWait, Cond.instanceMethod yX2_beginToWait, Cond.selects RX2 yX2_beginToWait yX2_beginToWait, Cond.code yX2_beginToWait cX2_beginToWait 5 none, Cond.fieldLink RX2 231 "VersionTrans" "waitsBegun" "I", Cond.fieldLink RX2 234 "VersionTrans$Transaction" "waitingTriple" "I", Cond.fieldLink RX2 237 "VersionTrans$Transaction" "waitingThere" "Z", Cond.fieldLink RX2 240 "VersionTrans$Transaction" "beganToWait" "I", Cond.fieldLink RX2 38 "VersionTrans" "ringMembers" "[I", Cond.methodLink RX2 243 yX2_sizeOfRingThrough, Cond.instanceMethod yX2_sizeOfRingThrough, Cond.selects RX2 yX2_sizeOfRingThrough yX2_sizeOfRingThrough, Cond.code yX2_sizeOfRingThrough cX2_sizeOfRingThrough 4 (some .int), Cond.methodLink RX2 246 yX2_keepRing]
def wsX2_put_r3 : List Cond := [Cond.instanceMethod yX2_keepRing, Cond.selects RX2 yX2_keepRing yX2_keepRing, Cond.code yX2_keepRing cX2_keepRing 5 none, Cond.fieldLink RX2 138 "VersionTrans" "ringSize" "I", Cond.fieldLink RX2 135 "VersionTrans$Transaction" "number" "I", Cond.methodLink RX2 249 yX2_addRingMember, Cond.instanceMethod yX2_addRingMember, Cond.selects RX2 yX2_addRingMember yX2_addRingMember, Cond.code yX2_addRingMember cX2_addRingMember 3 none, Cond.methodLink RX2 110 yX2_finish, Cond.instanceMethod yX2_finish, Cond.selects RX2 yX2_finish yX2_finish, Cond.code yX2_finish cX2_finish 4 none, Cond.methodLink RX2 186 yX2_queueThoseWaitingFor, Cond.instanceMethod yX2_queueThoseWaitingFor, Cond.selects RX2 yX2_queueThoseWaitingFor yX2_queueThoseWaitingFor, Cond.code yX2_queueThoseWaitingFor cX2_queueThoseWaitingFor 4 none, Cond.methodLink RX2 252 yX2_firstWaitingFor, Cond.instanceMethod yX2_firstWaitingFor, Cond.selects RX2 yX2_firstWaitingFor yX2_firstWaitingFor, Cond.code yX2_firstWaitingFor cX2_firstWaitingFor 6 (some (.object "VersionTrans$Transaction")), Cond.methodLink RX2 256 yX2_addToQueue, Cond.instanceMethod yX2_addToQueue, Cond.selects RX2 yX2_addToQueue yX2_addToQueue]
def wsX2_put_r4 : List Cond := [Cond.code yX2_addToQueue cX2_addToQueue 2 none, Cond.fieldLink RX2 259 "VersionTrans$Transaction" "nextInQueue" "LVersionTrans$Transaction;", Cond.fieldLink RX2 262 "VersionTrans" "lastInQueue" "LVersionTrans$Transaction;", Cond.fieldLink RX2 265 "VersionTrans" "firstInQueue" "LVersionTrans$Transaction;", Cond.methodLink RX2 68 yX2_retryQueued, Cond.instanceMethod yX2_retryQueued, Cond.selects RX2 yX2_retryQueued yX2_retryQueued, Cond.code yX2_retryQueued cX2_retryQueued 3 none, Cond.methodLink RX2 71 yX2_outcomeOfWrite, Cond.static yX2_outcomeOfWrite, Cond.code yX2_outcomeOfWrite cX2_outcomeOfWrite 1 (some .int)]
def wsX2_put : List Cond := .code yX2_put cX2_put 5 (some .int) :: ((wsX2_put_r1 ++ (wsX2_put_r2 ++ (wsX2_put_r3 ++ wsX2_put_r4))) ++ wsX20 ++ wsX10 ++ wsX00 ++ (vx_atS RX2 151 "java/lang/IllegalArgumentException" ["java/lang/RuntimeException", "java/lang/Exception"]).filter goodWord ++ (vx_atS RX2 172 "java/lang/IllegalStateException" ["java/lang/RuntimeException", "java/lang/Exception"]).filter goodWord)
def wsX2_requireGraph : List Cond := .code yX2_requireGraph cX2_requireGraph 1 none :: ([.classLink RX2 147 "java/lang/IllegalArgumentException", .initialized "java/lang/IllegalArgumentException"] ++ (vx_atS RX2 151 "java/lang/IllegalArgumentException" ["java/lang/RuntimeException", "java/lang/Exception"]).filter goodWord)
def wsX2_note : List Cond := .code yX2_note cX2_note 4 (some .int) :: ([.fieldLink RX2 78 "VersionTrans$Transaction" "noted" "[Z", .fieldLink RX2 81 "VersionTrans$Transaction" "notes" "I", .methodLink RX2 53 yX2_known, .instanceMethod yX2_known, .selects RX2 yX2_known yX2_known, .initialized RX2, .code yX2_known cX2_known 2 (some (.object "VersionTrans$Transaction")), .classLink RX2 147 "java/lang/IllegalArgumentException", .initialized "java/lang/IllegalArgumentException", .fieldLink RX2 144 "VersionTrans" "begun" "I", .fieldLink RX2 11 "VersionTrans" "transactions" "[LVersionTrans$Transaction;", .methodLink RX2 75 yX2_requireGraph, .static yX2_requireGraph, .code yX2_requireGraph cX2_requireGraph 1 none, .methodLink RX2 60 yX2_requireOpenWriter, .static yX2_requireOpenWriter, .code yX2_requireOpenWriter cX2_requireOpenWriter 1 none, .classLink RX2 168 "java/lang/IllegalStateException", .initialized "java/lang/IllegalStateException", .fieldLink RX2 175 "VersionTrans$Transaction" "writer" "Z", .fieldLink RX2 128 "VersionTrans$Transaction" "state" "I"] ++ wsX10 ++ wsX20 ++ (vx_atS RX2 151 "java/lang/IllegalArgumentException" ["java/lang/RuntimeException", "java/lang/Exception"]).filter goodWord ++ (vx_atS RX2 172 "java/lang/IllegalStateException" ["java/lang/RuntimeException", "java/lang/Exception"]).filter goodWord)
def wsX2_requireNotEnded : List Cond := .code yX2_requireNotEnded cX2_requireNotEnded 1 none :: ([.classLink RX2 168 "java/lang/IllegalStateException", .initialized "java/lang/IllegalStateException", .methodLink RX2 164 yX1_hasEnded, .instanceMethod yX1_hasEnded, .selects RX1 yX1_hasEnded yX1_hasEnded, .initialized RX1, .code yX1_hasEnded cX1_hasEnded 1 (some .boolean), .fieldLink RX1 26 "VersionTrans$Transaction" "state" "I"] ++ wsX10 ++ (vx_atS RX2 172 "java/lang/IllegalStateException" ["java/lang/RuntimeException", "java/lang/Exception"]).filter goodWord)
def wsX2_isThere : List Cond := .code yX2_isThere cX2_isThere 4 (some .boolean) :: ([.fieldLink RX2 17 "VersionTrans" "newest" "[LVersionTrans$Row;", .fieldLink RX2 205 "VersionTrans$Row" "version" "I", .fieldLink RX2 208 "VersionTrans$Row" "older" "LVersionTrans$Row;", .fieldLink RX2 212 "VersionTrans$Row" "there" "Z"] ++ wsX20 ++ wsX00)
def wsX2_read_r1 : List Cond := [Cond.fieldLink RX2 25 "VersionTrans" "holder" "[LVersionTrans$Transaction;", Cond.fieldLink RX2 28 "VersionTrans" "written" "[Z", Cond.fieldLink RX2 87 "VersionTrans$Transaction" "sees" "I", Cond.methodLink RX2 53 yX2_known, Cond.instanceMethod yX2_known, Cond.selects RX2 yX2_known yX2_known, Cond.initialized RX2, Cond.code yX2_known cX2_known 2 (some (.object "VersionTrans$Transaction")), Cond.classLink RX2 147 "java/lang/IllegalArgumentException", Cond.initialized "java/lang/IllegalArgumentException", Cond.fieldLink RX2 144 "VersionTrans" "begun" "I", Cond.fieldLink RX2 11 "VersionTrans" "transactions" "[LVersionTrans$Transaction;", Cond.methodLink RX2 57 yX2_requireTriple, Cond.static yX2_requireTriple, Cond.code yX2_requireTriple cX2_requireTriple 1 none, Cond.methodLink RX2 84 yX2_requireNotEnded, Cond.static yX2_requireNotEnded, Cond.code yX2_requireNotEnded cX2_requireNotEnded 1 none, Cond.classLink RX2 168 "java/lang/IllegalStateException", Cond.initialized "java/lang/IllegalStateException", Cond.methodLink RX2 164 yX1_hasEnded, Cond.instanceMethod yX1_hasEnded, Cond.selects RX1 yX1_hasEnded yX1_hasEnded, Cond.initialized RX1]
def wsX2_read_r2 : List Cond := [Cond.code yX1_hasEnded cX1_hasEnded 1 (some .boolean), Cond.fieldLink RX1 26 "VersionTrans$Transaction" "state" "I", Cond.methodLink RX2 90 yX2_isThere, Cond.instanceMethod yX2_isThere, Cond.selects RX2 yX2_isThere yX2_isThere, Cond.code yX2_isThere cX2_isThere 4 (some .boolean), Cond.fieldLink RX2 17 "VersionTrans" "newest" "[LVersionTrans$Row;", Cond.fieldLink RX2 205 "VersionTrans$Row" "version" "I", Cond.fieldLink RX2 208 "VersionTrans$Row" "older" "LVersionTrans$Row;", Cond.fieldLink RX2 212 "VersionTrans$Row" "there" "Z"]
def wsX2_read : List Cond := .code yX2_read cX2_read 4 (some .boolean) :: ((wsX2_read_r1 ++ wsX2_read_r2) ++ wsX20 ++ wsX10 ++ wsX00 ++ (vx_atS RX2 151 "java/lang/IllegalArgumentException" ["java/lang/RuntimeException", "java/lang/Exception"]).filter goodWord ++ (vx_atS RX2 172 "java/lang/IllegalStateException" ["java/lang/RuntimeException", "java/lang/Exception"]).filter goodWord)
def wsX2_told_r1 : List Cond := [Cond.methodLink RX2 49 yX2_requireVersion, Cond.instanceMethod yX2_requireVersion, Cond.selects RX2 yX2_requireVersion yX2_requireVersion, Cond.initialized RX2, Cond.code yX2_requireVersion cX2_requireVersion 2 none, Cond.classLink RX2 147 "java/lang/IllegalArgumentException", Cond.initialized "java/lang/IllegalArgumentException", Cond.fieldLink RX2 41 "VersionTrans" "latestVersion" "I", Cond.methodLink RX2 117 yX2_leastKept, Cond.instanceMethod yX2_leastKept, Cond.selects RX2 yX2_leastKept yX2_leastKept, Cond.code yX2_leastKept cX2_leastKept 3 (some .int), Cond.fieldLink RX2 144 "VersionTrans" "begun" "I", Cond.fieldLink RX2 11 "VersionTrans" "transactions" "[LVersionTrans$Transaction;", Cond.fieldLink RX2 87 "VersionTrans$Transaction" "sees" "I", Cond.methodLink RX2 215 Lib.Math.min.name, Cond.static Lib.Math.min.name, Cond.initialized "java/lang/Math", Cond.code Lib.Math.min.name Lib.Math.min.code 2 (some .int), Cond.fieldLink RX2 21 "VersionTrans" "pins" "[I", Cond.methodLink RX2 164 yX1_hasEnded, Cond.instanceMethod yX1_hasEnded, Cond.selects RX1 yX1_hasEnded yX1_hasEnded, Cond.initialized RX1]
def wsX2_told_r2 : List Cond := [Cond.code yX1_hasEnded cX1_hasEnded 1 (some .boolean), Cond.fieldLink RX1 26 "VersionTrans$Transaction" "state" "I", Cond.methodLink RX2 57 yX2_requireTriple, Cond.static yX2_requireTriple, Cond.code yX2_requireTriple cX2_requireTriple 1 none, Cond.methodLink RX2 90 yX2_isThere, Cond.instanceMethod yX2_isThere, Cond.selects RX2 yX2_isThere yX2_isThere, Cond.code yX2_isThere cX2_isThere 4 (some .boolean), Cond.fieldLink RX2 17 "VersionTrans" "newest" "[LVersionTrans$Row;", Cond.fieldLink RX2 205 "VersionTrans$Row" "version" "I", Cond.fieldLink RX2 208 "VersionTrans$Row" "older" "LVersionTrans$Row;", Cond.fieldLink RX2 212 "VersionTrans$Row" "there" "Z"]
def wsX2_told : List Cond := .code yX2_told cX2_told 3 (some .boolean) :: ((wsX2_told_r1 ++ wsX2_told_r2) ++ wsX20 ++ wsX10 ++ wsX00 ++ (vx_atS RX2 151 "java/lang/IllegalArgumentException" ["java/lang/RuntimeException", "java/lang/Exception"]).filter goodWord)
def wsX2_requireNotWaiting : List Cond := .code yX2_requireNotWaiting cX2_requireNotWaiting 1 none :: ([.classLink RX2 168 "java/lang/IllegalStateException", .initialized "java/lang/IllegalStateException", .fieldLink RX2 128 "VersionTrans$Transaction" "state" "I"] ++ wsX10 ++ (vx_atS RX2 172 "java/lang/IllegalStateException" ["java/lang/RuntimeException", "java/lang/Exception"]).filter goodWord)
def wsX2_isGraphChangedSince : List Cond := .code yX2_isGraphChangedSince cX2_isGraphChangedSince 5 (some .boolean) :: ([.methodLink RX2 202 yX2_isChangedSince, .instanceMethod yX2_isChangedSince, .selects RX2 yX2_isChangedSince yX2_isChangedSince, .initialized RX2, .code yX2_isChangedSince cX2_isChangedSince 3 (some .boolean), .fieldLink RX2 17 "VersionTrans" "newest" "[LVersionTrans$Row;", .fieldLink RX2 205 "VersionTrans$Row" "version" "I"] ++ wsX20 ++ wsX00)
def wsX2_leastChangedNote : List Cond := .code yX2_leastChangedNote cX2_leastChangedNote 3 (some .int) :: ([.fieldLink RX2 78 "VersionTrans$Transaction" "noted" "[Z", .fieldLink RX2 87 "VersionTrans$Transaction" "sees" "I", .methodLink RX2 199 yX2_isGraphChangedSince, .instanceMethod yX2_isGraphChangedSince, .selects RX2 yX2_isGraphChangedSince yX2_isGraphChangedSince, .initialized RX2, .code yX2_isGraphChangedSince cX2_isGraphChangedSince 5 (some .boolean), .methodLink RX2 202 yX2_isChangedSince, .instanceMethod yX2_isChangedSince, .selects RX2 yX2_isChangedSince yX2_isChangedSince, .code yX2_isChangedSince cX2_isChangedSince 3 (some .boolean), .fieldLink RX2 17 "VersionTrans" "newest" "[LVersionTrans$Row;", .fieldLink RX2 205 "VersionTrans$Row" "version" "I"] ++ wsX10 ++ wsX20 ++ wsX00)
def wsX2_isRefused : List Cond := .code yX2_isRefused cX2_isRefused 2 (some .boolean) :: ([.fieldLink RX2 128 "VersionTrans$Transaction" "state" "I", .methodLink RX2 189 yX2_leastChangedNote, .instanceMethod yX2_leastChangedNote, .selects RX2 yX2_leastChangedNote yX2_leastChangedNote, .initialized RX2, .code yX2_leastChangedNote cX2_leastChangedNote 3 (some .int), .fieldLink RX2 78 "VersionTrans$Transaction" "noted" "[Z", .fieldLink RX2 87 "VersionTrans$Transaction" "sees" "I", .methodLink RX2 199 yX2_isGraphChangedSince, .instanceMethod yX2_isGraphChangedSince, .selects RX2 yX2_isGraphChangedSince yX2_isGraphChangedSince, .code yX2_isGraphChangedSince cX2_isGraphChangedSince 5 (some .boolean), .methodLink RX2 202 yX2_isChangedSince, .instanceMethod yX2_isChangedSince, .selects RX2 yX2_isChangedSince yX2_isChangedSince, .code yX2_isChangedSince cX2_isChangedSince 3 (some .boolean), .fieldLink RX2 17 "VersionTrans" "newest" "[LVersionTrans$Row;", .fieldLink RX2 205 "VersionTrans$Row" "version" "I"] ++ wsX10 ++ wsX20 ++ wsX00)
def wsX2_giveUp_r1 : List Cond := [Cond.fieldLink RX2 128 "VersionTrans$Transaction" "state" "I", Cond.fieldLink RX2 35 "VersionTrans" "refusedForGraph" "[I", Cond.methodLink RX2 189 yX2_leastChangedNote, Cond.instanceMethod yX2_leastChangedNote, Cond.selects RX2 yX2_leastChangedNote yX2_leastChangedNote, Cond.initialized RX2, Cond.code yX2_leastChangedNote cX2_leastChangedNote 3 (some .int), Cond.fieldLink RX2 78 "VersionTrans$Transaction" "noted" "[Z", Cond.fieldLink RX2 87 "VersionTrans$Transaction" "sees" "I", Cond.methodLink RX2 199 yX2_isGraphChangedSince, Cond.instanceMethod yX2_isGraphChangedSince, Cond.selects RX2 yX2_isGraphChangedSince yX2_isGraphChangedSince, Cond.code yX2_isGraphChangedSince cX2_isGraphChangedSince 5 (some .boolean), Cond.methodLink RX2 202 yX2_isChangedSince, Cond.instanceMethod yX2_isChangedSince, Cond.selects RX2 yX2_isChangedSince yX2_isChangedSince, Cond.code yX2_isChangedSince cX2_isChangedSince 3 (some .boolean), Cond.fieldLink RX2 17 "VersionTrans" "newest" "[LVersionTrans$Row;", Cond.fieldLink RX2 205 "VersionTrans$Row" "version" "I", Cond.methodLink RX2 110 yX2_finish, Cond.instanceMethod yX2_finish, Cond.selects RX2 yX2_finish yX2_finish, Cond.code yX2_finish cX2_finish 4 none, Cond.fieldLink RX2 131 "VersionTrans$Transaction" "waitsFor" "LVersionTrans$Transaction;"]
def wsX2_giveUp_r2 : List Cond := [Cond.fieldLink RX2 25 "VersionTrans" "holder" "[LVersionTrans$Transaction;", Cond.methodLink RX2 186 yX2_queueThoseWaitingFor, Cond.instanceMethod yX2_queueThoseWaitingFor, Cond.selects RX2 yX2_queueThoseWaitingFor yX2_queueThoseWaitingFor, Cond.code yX2_queueThoseWaitingFor cX2_queueThoseWaitingFor 4 none, Cond.fieldLink RX2 240 "VersionTrans$Transaction" "beganToWait" "I", Cond.methodLink RX2 252 yX2_firstWaitingFor, Cond.instanceMethod yX2_firstWaitingFor, Cond.selects RX2 yX2_firstWaitingFor yX2_firstWaitingFor, Cond.code yX2_firstWaitingFor cX2_firstWaitingFor 6 (some (.object "VersionTrans$Transaction")), Cond.fieldLink RX2 144 "VersionTrans" "begun" "I", Cond.fieldLink RX2 11 "VersionTrans" "transactions" "[LVersionTrans$Transaction;", Cond.methodLink RX2 256 yX2_addToQueue, Cond.instanceMethod yX2_addToQueue, Cond.selects RX2 yX2_addToQueue yX2_addToQueue, Cond.code yX2_addToQueue cX2_addToQueue 2 none, Cond.fieldLink RX2 259 "VersionTrans$Transaction" "nextInQueue" "LVersionTrans$Transaction;", Cond.fieldLink RX2 262 "VersionTrans" "lastInQueue" "LVersionTrans$Transaction;", Cond.fieldLink RX2 265 "VersionTrans" "firstInQueue" "LVersionTrans$Transaction;"]
def wsX2_giveUp : List Cond := .code yX2_giveUp cX2_giveUp 3 (some .int) :: ((wsX2_giveUp_r1 ++ wsX2_giveUp_r2) ++ wsX10 ++ wsX20 ++ wsX00)
def wsX2_addChanges_r1 : List Cond := [Cond.fieldLink RX2 25 "VersionTrans" "holder" "[LVersionTrans$Transaction;", Cond.fieldLink RX2 28 "VersionTrans" "written" "[Z", Cond.fieldLink RX2 87 "VersionTrans$Transaction" "sees" "I", Cond.fieldLink RX2 17 "VersionTrans" "newest" "[LVersionTrans$Row;", Cond.classLink RX2 15 RX0, Cond.instantiable RX0 3, Cond.initialized RX0, Cond.fieldLink RX2 125 "VersionTrans" "rowCount" "I", Cond.methodLink RX2 90 yX2_isThere, Cond.instanceMethod yX2_isThere, Cond.selects RX2 yX2_isThere yX2_isThere, Cond.initialized RX2, Cond.code yX2_isThere cX2_isThere 4 (some .boolean), Cond.fieldLink RX2 205 "VersionTrans$Row" "version" "I", Cond.fieldLink RX2 208 "VersionTrans$Row" "older" "LVersionTrans$Row;", Cond.fieldLink RX2 212 "VersionTrans$Row" "there" "Z", Cond.methodLink RX2 196 yX0_init, Cond.instanceMethod yX0_init, Cond.code yX0_init cX0_init 4 none, Cond.methodLink RX0 1 objectInit, Cond.instanceMethod objectInit, Cond.code objectInit ⟨#[0xb1]⟩ 1 none, Cond.fieldLink RX0 7 "VersionTrans$Row" "version" "I", Cond.fieldLink RX0 13 "VersionTrans$Row" "there" "Z"]
def wsX2_addChanges_r2 : List Cond := [Cond.fieldLink RX0 17 "VersionTrans$Row" "older" "LVersionTrans$Row;"]
def wsX2_addChanges : List Cond := .code yX2_addChanges cX2_addChanges 5 (some .int) :: ((wsX2_addChanges_r1 ++ wsX2_addChanges_r2) ++ wsX20 ++ wsX10 ++ wsX00)
def wsX2_makeVersion_r1 : List Cond := [Cond.fieldLink RX2 41 "VersionTrans" "latestVersion" "I", Cond.fieldLink RX2 87 "VersionTrans$Transaction" "sees" "I", Cond.methodLink RX2 192 yX2_addChanges, Cond.instanceMethod yX2_addChanges, Cond.selects RX2 yX2_addChanges yX2_addChanges, Cond.initialized RX2, Cond.code yX2_addChanges cX2_addChanges 5 (some .int), Cond.fieldLink RX2 25 "VersionTrans" "holder" "[LVersionTrans$Transaction;", Cond.fieldLink RX2 28 "VersionTrans" "written" "[Z", Cond.fieldLink RX2 17 "VersionTrans" "newest" "[LVersionTrans$Row;", Cond.classLink RX2 15 RX0, Cond.instantiable RX0 3, Cond.initialized RX0, Cond.fieldLink RX2 125 "VersionTrans" "rowCount" "I", Cond.methodLink RX2 90 yX2_isThere, Cond.instanceMethod yX2_isThere, Cond.selects RX2 yX2_isThere yX2_isThere, Cond.code yX2_isThere cX2_isThere 4 (some .boolean), Cond.fieldLink RX2 205 "VersionTrans$Row" "version" "I", Cond.fieldLink RX2 208 "VersionTrans$Row" "older" "LVersionTrans$Row;", Cond.fieldLink RX2 212 "VersionTrans$Row" "there" "Z", Cond.methodLink RX2 196 yX0_init, Cond.instanceMethod yX0_init, Cond.code yX0_init cX0_init 4 none]
def wsX2_makeVersion_r2 : List Cond := [Cond.methodLink RX0 1 objectInit, Cond.instanceMethod objectInit, Cond.code objectInit ⟨#[0xb1]⟩ 1 none, Cond.fieldLink RX0 7 "VersionTrans$Row" "version" "I", Cond.fieldLink RX0 13 "VersionTrans$Row" "there" "Z", Cond.fieldLink RX0 17 "VersionTrans$Row" "older" "LVersionTrans$Row;", Cond.methodLink RX2 110 yX2_finish, Cond.instanceMethod yX2_finish, Cond.selects RX2 yX2_finish yX2_finish, Cond.code yX2_finish cX2_finish 4 none, Cond.fieldLink RX2 128 "VersionTrans$Transaction" "state" "I", Cond.fieldLink RX2 131 "VersionTrans$Transaction" "waitsFor" "LVersionTrans$Transaction;", Cond.methodLink RX2 186 yX2_queueThoseWaitingFor, Cond.instanceMethod yX2_queueThoseWaitingFor, Cond.selects RX2 yX2_queueThoseWaitingFor yX2_queueThoseWaitingFor, Cond.code yX2_queueThoseWaitingFor cX2_queueThoseWaitingFor 4 none, Cond.fieldLink RX2 240 "VersionTrans$Transaction" "beganToWait" "I", Cond.methodLink RX2 252 yX2_firstWaitingFor, Cond.instanceMethod yX2_firstWaitingFor, Cond.selects RX2 yX2_firstWaitingFor yX2_firstWaitingFor, Cond.code yX2_firstWaitingFor cX2_firstWaitingFor 6 (some (.object "VersionTrans$Transaction")), Cond.fieldLink RX2 144 "VersionTrans" "begun" "I", Cond.fieldLink RX2 11 "VersionTrans" "transactions" "[LVersionTrans$Transaction;", Cond.methodLink RX2 256 yX2_addToQueue]
def wsX2_makeVersion_r3 : List Cond := [Cond.instanceMethod yX2_addToQueue, Cond.selects RX2 yX2_addToQueue yX2_addToQueue, Cond.code yX2_addToQueue cX2_addToQueue 2 none, Cond.fieldLink RX2 259 "VersionTrans$Transaction" "nextInQueue" "LVersionTrans$Transaction;", Cond.fieldLink RX2 262 "VersionTrans" "lastInQueue" "LVersionTrans$Transaction;", Cond.fieldLink RX2 265 "VersionTrans" "firstInQueue" "LVersionTrans$Transaction;"]
def wsX2_makeVersion : List Cond := .code yX2_makeVersion cX2_makeVersion 3 (some .int) :: ((wsX2_makeVersion_r1 ++ (wsX2_makeVersion_r2 ++ wsX2_makeVersion_r3)) ++ wsX20 ++ wsX10 ++ wsX00)
def wsX2_commit_r1 : List Cond := [Cond.methodLink RX2 53 yX2_known, Cond.instanceMethod yX2_known, Cond.selects RX2 yX2_known yX2_known, Cond.initialized RX2, Cond.code yX2_known cX2_known 2 (some (.object "VersionTrans$Transaction")), Cond.classLink RX2 147 "java/lang/IllegalArgumentException", Cond.initialized "java/lang/IllegalArgumentException", Cond.fieldLink RX2 144 "VersionTrans" "begun" "I", Cond.fieldLink RX2 11 "VersionTrans" "transactions" "[LVersionTrans$Transaction;", Cond.methodLink RX2 84 yX2_requireNotEnded, Cond.static yX2_requireNotEnded, Cond.code yX2_requireNotEnded cX2_requireNotEnded 1 none, Cond.classLink RX2 168 "java/lang/IllegalStateException", Cond.initialized "java/lang/IllegalStateException", Cond.methodLink RX2 164 yX1_hasEnded, Cond.instanceMethod yX1_hasEnded, Cond.selects RX1 yX1_hasEnded yX1_hasEnded, Cond.initialized RX1, Cond.code yX1_hasEnded cX1_hasEnded 1 (some .boolean), Cond.fieldLink RX1 26 "VersionTrans$Transaction" "state" "I", Cond.methodLink RX2 94 yX2_requireNotWaiting, Cond.static yX2_requireNotWaiting, Cond.code yX2_requireNotWaiting cX2_requireNotWaiting 1 none, Cond.fieldLink RX2 128 "VersionTrans$Transaction" "state" "I"]
def wsX2_commit_r2 : List Cond := [Cond.methodLink RX2 97 yX2_isRefused, Cond.instanceMethod yX2_isRefused, Cond.selects RX2 yX2_isRefused yX2_isRefused, Cond.code yX2_isRefused cX2_isRefused 2 (some .boolean), Cond.methodLink RX2 189 yX2_leastChangedNote, Cond.instanceMethod yX2_leastChangedNote, Cond.selects RX2 yX2_leastChangedNote yX2_leastChangedNote, Cond.code yX2_leastChangedNote cX2_leastChangedNote 3 (some .int), Cond.fieldLink RX2 78 "VersionTrans$Transaction" "noted" "[Z", Cond.fieldLink RX2 87 "VersionTrans$Transaction" "sees" "I", Cond.methodLink RX2 199 yX2_isGraphChangedSince, Cond.instanceMethod yX2_isGraphChangedSince, Cond.selects RX2 yX2_isGraphChangedSince yX2_isGraphChangedSince, Cond.code yX2_isGraphChangedSince cX2_isGraphChangedSince 5 (some .boolean), Cond.methodLink RX2 202 yX2_isChangedSince, Cond.instanceMethod yX2_isChangedSince, Cond.selects RX2 yX2_isChangedSince yX2_isChangedSince, Cond.code yX2_isChangedSince cX2_isChangedSince 3 (some .boolean), Cond.fieldLink RX2 17 "VersionTrans" "newest" "[LVersionTrans$Row;", Cond.fieldLink RX2 205 "VersionTrans$Row" "version" "I", Cond.methodLink RX2 101 yX2_giveUp, Cond.instanceMethod yX2_giveUp, Cond.selects RX2 yX2_giveUp yX2_giveUp, Cond.code yX2_giveUp cX2_giveUp 3 (some .int)]
def wsX2_commit_r3 : List Cond := [Cond.fieldLink RX2 35 "VersionTrans" "refusedForGraph" "[I", Cond.methodLink RX2 110 yX2_finish, Cond.instanceMethod yX2_finish, Cond.selects RX2 yX2_finish yX2_finish, Cond.code yX2_finish cX2_finish 4 none, Cond.fieldLink RX2 131 "VersionTrans$Transaction" "waitsFor" "LVersionTrans$Transaction;", Cond.fieldLink RX2 25 "VersionTrans" "holder" "[LVersionTrans$Transaction;", Cond.methodLink RX2 186 yX2_queueThoseWaitingFor, Cond.instanceMethod yX2_queueThoseWaitingFor, Cond.selects RX2 yX2_queueThoseWaitingFor yX2_queueThoseWaitingFor, Cond.code yX2_queueThoseWaitingFor cX2_queueThoseWaitingFor 4 none, Cond.fieldLink RX2 240 "VersionTrans$Transaction" "beganToWait" "I", Cond.methodLink RX2 252 yX2_firstWaitingFor, Cond.instanceMethod yX2_firstWaitingFor, Cond.selects RX2 yX2_firstWaitingFor yX2_firstWaitingFor, Cond.code yX2_firstWaitingFor cX2_firstWaitingFor 6 (some (.object "VersionTrans$Transaction")), Cond.methodLink RX2 256 yX2_addToQueue, Cond.instanceMethod yX2_addToQueue, Cond.selects RX2 yX2_addToQueue yX2_addToQueue, Cond.code yX2_addToQueue cX2_addToQueue 2 none, Cond.fieldLink RX2 259 "VersionTrans$Transaction" "nextInQueue" "LVersionTrans$Transaction;", Cond.fieldLink RX2 262 "VersionTrans" "lastInQueue" "LVersionTrans$Transaction;", Cond.fieldLink RX2 265 "VersionTrans" "firstInQueue" "LVersionTrans$Transaction;", Cond.methodLink RX2 104 yX2_makeVersion]
def wsX2_commit_r4 : List Cond := [Cond.instanceMethod yX2_makeVersion, Cond.selects RX2 yX2_makeVersion yX2_makeVersion, Cond.code yX2_makeVersion cX2_makeVersion 3 (some .int), Cond.fieldLink RX2 41 "VersionTrans" "latestVersion" "I", Cond.methodLink RX2 192 yX2_addChanges, Cond.instanceMethod yX2_addChanges, Cond.selects RX2 yX2_addChanges yX2_addChanges, Cond.code yX2_addChanges cX2_addChanges 5 (some .int), Cond.fieldLink RX2 28 "VersionTrans" "written" "[Z", Cond.classLink RX2 15 RX0, Cond.instantiable RX0 3, Cond.initialized RX0, Cond.fieldLink RX2 125 "VersionTrans" "rowCount" "I", Cond.methodLink RX2 90 yX2_isThere, Cond.instanceMethod yX2_isThere, Cond.selects RX2 yX2_isThere yX2_isThere, Cond.code yX2_isThere cX2_isThere 4 (some .boolean), Cond.fieldLink RX2 208 "VersionTrans$Row" "older" "LVersionTrans$Row;", Cond.fieldLink RX2 212 "VersionTrans$Row" "there" "Z", Cond.methodLink RX2 196 yX0_init, Cond.instanceMethod yX0_init, Cond.code yX0_init cX0_init 4 none, Cond.methodLink RX0 1 objectInit, Cond.instanceMethod objectInit]
def wsX2_commit_r5 : List Cond := [Cond.code objectInit ⟨#[0xb1]⟩ 1 none, Cond.fieldLink RX0 7 "VersionTrans$Row" "version" "I", Cond.fieldLink RX0 13 "VersionTrans$Row" "there" "Z", Cond.fieldLink RX0 17 "VersionTrans$Row" "older" "LVersionTrans$Row;", Cond.methodLink RX2 68 yX2_retryQueued, Cond.instanceMethod yX2_retryQueued, Cond.selects RX2 yX2_retryQueued yX2_retryQueued, Cond.code yX2_retryQueued cX2_retryQueued 3 none, Cond.fieldLink RX2 234 "VersionTrans$Transaction" "waitingTriple" "I", Cond.fieldLink RX2 237 "VersionTrans$Transaction" "waitingThere" "Z", Cond.methodLink RX2 64 yX2_tryWrite, Cond.instanceMethod yX2_tryWrite, Cond.selects RX2 yX2_tryWrite yX2_tryWrite, Cond.code yX2_tryWrite cX2_tryWrite 4 none, Cond.fieldLink RX2 32 "VersionTrans" "failedByTriple" "[I", Cond.methodLink RX2 228 yX2_beginToWait, Cond.instanceMethod yX2_beginToWait, Cond.selects RX2 yX2_beginToWait yX2_beginToWait, Cond.code yX2_beginToWait cX2_beginToWait 5 none, Cond.fieldLink RX2 231 "VersionTrans" "waitsBegun" "I", Cond.fieldLink RX2 38 "VersionTrans" "ringMembers" "[I", Cond.methodLink RX2 243 yX2_sizeOfRingThrough, Cond.instanceMethod yX2_sizeOfRingThrough, Cond.selects RX2 yX2_sizeOfRingThrough yX2_sizeOfRingThrough]
def wsX2_commit_r6 : List Cond := [Cond.code yX2_sizeOfRingThrough cX2_sizeOfRingThrough 4 (some .int), Cond.methodLink RX2 246 yX2_keepRing, Cond.instanceMethod yX2_keepRing, Cond.selects RX2 yX2_keepRing yX2_keepRing, Cond.code yX2_keepRing cX2_keepRing 5 none, Cond.fieldLink RX2 138 "VersionTrans" "ringSize" "I", Cond.fieldLink RX2 135 "VersionTrans$Transaction" "number" "I", Cond.methodLink RX2 249 yX2_addRingMember, Cond.instanceMethod yX2_addRingMember, Cond.selects RX2 yX2_addRingMember yX2_addRingMember, Cond.code yX2_addRingMember cX2_addRingMember 3 none]
def wsX2_commit : List Cond := .code yX2_commit cX2_commit 4 (some .int) :: ((wsX2_commit_r1 ++ (wsX2_commit_r2 ++ (wsX2_commit_r3 ++ (wsX2_commit_r4 ++ (wsX2_commit_r5 ++ wsX2_commit_r6))))) ++ wsX20 ++ wsX10 ++ wsX00 ++ (vx_atS RX2 151 "java/lang/IllegalArgumentException" ["java/lang/RuntimeException", "java/lang/Exception"]).filter goodWord ++ (vx_atS RX2 172 "java/lang/IllegalStateException" ["java/lang/RuntimeException", "java/lang/Exception"]).filter goodWord)
def wsX2_countOwnWrites : List Cond := .code yX2_countOwnWrites cX2_countOwnWrites 4 (some .int) :: ([.fieldLink RX2 25 "VersionTrans" "holder" "[LVersionTrans$Transaction;"] ++ wsX20)
def wsX2_abort_r1 : List Cond := [Cond.methodLink RX2 53 yX2_known, Cond.instanceMethod yX2_known, Cond.selects RX2 yX2_known yX2_known, Cond.initialized RX2, Cond.code yX2_known cX2_known 2 (some (.object "VersionTrans$Transaction")), Cond.classLink RX2 147 "java/lang/IllegalArgumentException", Cond.initialized "java/lang/IllegalArgumentException", Cond.fieldLink RX2 144 "VersionTrans" "begun" "I", Cond.fieldLink RX2 11 "VersionTrans" "transactions" "[LVersionTrans$Transaction;", Cond.methodLink RX2 84 yX2_requireNotEnded, Cond.static yX2_requireNotEnded, Cond.code yX2_requireNotEnded cX2_requireNotEnded 1 none, Cond.classLink RX2 168 "java/lang/IllegalStateException", Cond.initialized "java/lang/IllegalStateException", Cond.methodLink RX2 164 yX1_hasEnded, Cond.instanceMethod yX1_hasEnded, Cond.selects RX1 yX1_hasEnded yX1_hasEnded, Cond.initialized RX1, Cond.code yX1_hasEnded cX1_hasEnded 1 (some .boolean), Cond.fieldLink RX1 26 "VersionTrans$Transaction" "state" "I", Cond.methodLink RX2 107 yX2_countOwnWrites, Cond.instanceMethod yX2_countOwnWrites, Cond.selects RX2 yX2_countOwnWrites yX2_countOwnWrites, Cond.code yX2_countOwnWrites cX2_countOwnWrites 4 (some .int)]
def wsX2_abort_r2 : List Cond := [Cond.fieldLink RX2 25 "VersionTrans" "holder" "[LVersionTrans$Transaction;", Cond.methodLink RX2 110 yX2_finish, Cond.instanceMethod yX2_finish, Cond.selects RX2 yX2_finish yX2_finish, Cond.code yX2_finish cX2_finish 4 none, Cond.fieldLink RX2 128 "VersionTrans$Transaction" "state" "I", Cond.fieldLink RX2 131 "VersionTrans$Transaction" "waitsFor" "LVersionTrans$Transaction;", Cond.methodLink RX2 186 yX2_queueThoseWaitingFor, Cond.instanceMethod yX2_queueThoseWaitingFor, Cond.selects RX2 yX2_queueThoseWaitingFor yX2_queueThoseWaitingFor, Cond.code yX2_queueThoseWaitingFor cX2_queueThoseWaitingFor 4 none, Cond.fieldLink RX2 240 "VersionTrans$Transaction" "beganToWait" "I", Cond.methodLink RX2 252 yX2_firstWaitingFor, Cond.instanceMethod yX2_firstWaitingFor, Cond.selects RX2 yX2_firstWaitingFor yX2_firstWaitingFor, Cond.code yX2_firstWaitingFor cX2_firstWaitingFor 6 (some (.object "VersionTrans$Transaction")), Cond.methodLink RX2 256 yX2_addToQueue, Cond.instanceMethod yX2_addToQueue, Cond.selects RX2 yX2_addToQueue yX2_addToQueue, Cond.code yX2_addToQueue cX2_addToQueue 2 none, Cond.fieldLink RX2 259 "VersionTrans$Transaction" "nextInQueue" "LVersionTrans$Transaction;", Cond.fieldLink RX2 262 "VersionTrans" "lastInQueue" "LVersionTrans$Transaction;", Cond.fieldLink RX2 265 "VersionTrans" "firstInQueue" "LVersionTrans$Transaction;", Cond.methodLink RX2 68 yX2_retryQueued]
def wsX2_abort_r3 : List Cond := [Cond.instanceMethod yX2_retryQueued, Cond.selects RX2 yX2_retryQueued yX2_retryQueued, Cond.code yX2_retryQueued cX2_retryQueued 3 none, Cond.fieldLink RX2 234 "VersionTrans$Transaction" "waitingTriple" "I", Cond.fieldLink RX2 237 "VersionTrans$Transaction" "waitingThere" "Z", Cond.methodLink RX2 64 yX2_tryWrite, Cond.instanceMethod yX2_tryWrite, Cond.selects RX2 yX2_tryWrite yX2_tryWrite, Cond.code yX2_tryWrite cX2_tryWrite 4 none, Cond.fieldLink RX2 87 "VersionTrans$Transaction" "sees" "I", Cond.fieldLink RX2 32 "VersionTrans" "failedByTriple" "[I", Cond.fieldLink RX2 28 "VersionTrans" "written" "[Z", Cond.methodLink RX2 202 yX2_isChangedSince, Cond.instanceMethod yX2_isChangedSince, Cond.selects RX2 yX2_isChangedSince yX2_isChangedSince, Cond.code yX2_isChangedSince cX2_isChangedSince 3 (some .boolean), Cond.fieldLink RX2 17 "VersionTrans" "newest" "[LVersionTrans$Row;", Cond.fieldLink RX2 205 "VersionTrans$Row" "version" "I", Cond.methodLink RX2 228 yX2_beginToWait, Cond.instanceMethod yX2_beginToWait, Cond.selects RX2 yX2_beginToWait yX2_beginToWait, Cond.code yX2_beginToWait cX2_beginToWait 5 none, Cond.fieldLink RX2 231 "VersionTrans" "waitsBegun" "I", Cond.fieldLink RX2 38 "VersionTrans" "ringMembers" "[I"]
def wsX2_abort_r4 : List Cond := [Cond.methodLink RX2 243 yX2_sizeOfRingThrough, Cond.instanceMethod yX2_sizeOfRingThrough, Cond.selects RX2 yX2_sizeOfRingThrough yX2_sizeOfRingThrough, Cond.code yX2_sizeOfRingThrough cX2_sizeOfRingThrough 4 (some .int), Cond.methodLink RX2 246 yX2_keepRing, Cond.instanceMethod yX2_keepRing, Cond.selects RX2 yX2_keepRing yX2_keepRing, Cond.code yX2_keepRing cX2_keepRing 5 none, Cond.fieldLink RX2 138 "VersionTrans" "ringSize" "I", Cond.fieldLink RX2 135 "VersionTrans$Transaction" "number" "I", Cond.methodLink RX2 249 yX2_addRingMember, Cond.instanceMethod yX2_addRingMember, Cond.selects RX2 yX2_addRingMember yX2_addRingMember, Cond.code yX2_addRingMember cX2_addRingMember 3 none]
def wsX2_abort : List Cond := .code yX2_abort cX2_abort 4 (some .int) :: ((wsX2_abort_r1 ++ (wsX2_abort_r2 ++ (wsX2_abort_r3 ++ wsX2_abort_r4))) ++ wsX20 ++ wsX10 ++ wsX00 ++ (vx_atS RX2 151 "java/lang/IllegalArgumentException" ["java/lang/RuntimeException", "java/lang/Exception"]).filter goodWord ++ (vx_atS RX2 172 "java/lang/IllegalStateException" ["java/lang/RuntimeException", "java/lang/Exception"]).filter goodWord)
def wsX2_pin_r1 : List Cond := [Cond.fieldLink RX2 21 "VersionTrans" "pins" "[I", Cond.methodLink RX2 49 yX2_requireVersion, Cond.instanceMethod yX2_requireVersion, Cond.selects RX2 yX2_requireVersion yX2_requireVersion, Cond.initialized RX2, Cond.code yX2_requireVersion cX2_requireVersion 2 none, Cond.classLink RX2 147 "java/lang/IllegalArgumentException", Cond.initialized "java/lang/IllegalArgumentException", Cond.fieldLink RX2 41 "VersionTrans" "latestVersion" "I", Cond.methodLink RX2 117 yX2_leastKept, Cond.instanceMethod yX2_leastKept, Cond.selects RX2 yX2_leastKept yX2_leastKept, Cond.code yX2_leastKept cX2_leastKept 3 (some .int), Cond.fieldLink RX2 144 "VersionTrans" "begun" "I", Cond.fieldLink RX2 11 "VersionTrans" "transactions" "[LVersionTrans$Transaction;", Cond.fieldLink RX2 87 "VersionTrans$Transaction" "sees" "I", Cond.methodLink RX2 215 Lib.Math.min.name, Cond.static Lib.Math.min.name, Cond.initialized "java/lang/Math", Cond.code Lib.Math.min.name Lib.Math.min.code 2 (some .int), Cond.methodLink RX2 164 yX1_hasEnded, Cond.instanceMethod yX1_hasEnded, Cond.selects RX1 yX1_hasEnded yX1_hasEnded, Cond.initialized RX1]
def wsX2_pin_r2 : List Cond := [Cond.code yX1_hasEnded cX1_hasEnded 1 (some .boolean), Cond.fieldLink RX1 26 "VersionTrans$Transaction" "state" "I"]
def wsX2_pin : List Cond := .code yX2_pin cX2_pin 2 (some .int) :: ((wsX2_pin_r1 ++ wsX2_pin_r2) ++ wsX20 ++ wsX10 ++ (vx_atS RX2 151 "java/lang/IllegalArgumentException" ["java/lang/RuntimeException", "java/lang/Exception"]).filter goodWord)
def wsX2_requirePinned : List Cond := .code yX2_requirePinned cX2_requirePinned 2 none :: ([.classLink RX2 147 "java/lang/IllegalArgumentException", .initialized "java/lang/IllegalArgumentException", .fieldLink RX2 41 "VersionTrans" "latestVersion" "I", .fieldLink RX2 21 "VersionTrans" "pins" "[I"] ++ wsX20 ++ (vx_atS RX2 151 "java/lang/IllegalArgumentException" ["java/lang/RuntimeException", "java/lang/Exception"]).filter goodWord)
def wsX2_unpin : List Cond := .code yX2_unpin cX2_unpin 2 (some .int) :: ([.fieldLink RX2 21 "VersionTrans" "pins" "[I", .methodLink RX2 114 yX2_requirePinned, .instanceMethod yX2_requirePinned, .selects RX2 yX2_requirePinned yX2_requirePinned, .initialized RX2, .code yX2_requirePinned cX2_requirePinned 2 none, .classLink RX2 147 "java/lang/IllegalArgumentException", .initialized "java/lang/IllegalArgumentException", .fieldLink RX2 41 "VersionTrans" "latestVersion" "I"] ++ wsX20 ++ (vx_atS RX2 151 "java/lang/IllegalArgumentException" ["java/lang/RuntimeException", "java/lang/Exception"]).filter goodWord)
def wsX2_countRows : List Cond := .code yX2_countRows cX2_countRows 3 (some .int) :: ([.fieldLink RX2 208 "VersionTrans$Row" "older" "LVersionTrans$Row;"] ++ wsX00)
def wsX2_cutBelow : List Cond := .code yX2_cutBelow cX2_cutBelow 3 none :: ([.fieldLink RX2 17 "VersionTrans" "newest" "[LVersionTrans$Row;", .fieldLink RX2 208 "VersionTrans$Row" "older" "LVersionTrans$Row;"] ++ wsX20 ++ wsX00)
def wsX2_dropOldRows : List Cond := .code yX2_dropOldRows cX2_dropOldRows 6 (some .int) :: ([.fieldLink RX2 17 "VersionTrans" "newest" "[LVersionTrans$Row;", .fieldLink RX2 205 "VersionTrans$Row" "version" "I", .fieldLink RX2 208 "VersionTrans$Row" "older" "LVersionTrans$Row;", .fieldLink RX2 212 "VersionTrans$Row" "there" "Z", .methodLink RX2 220 yX2_countRows, .static yX2_countRows, .initialized RX2, .code yX2_countRows cX2_countRows 3 (some .int), .methodLink RX2 224 yX2_cutBelow, .instanceMethod yX2_cutBelow, .selects RX2 yX2_cutBelow yX2_cutBelow, .code yX2_cutBelow cX2_cutBelow 3 none] ++ wsX20 ++ wsX00)
def wsX2_free_r1 : List Cond := [Cond.fieldLink RX2 125 "VersionTrans" "rowCount" "I", Cond.methodLink RX2 117 yX2_leastKept, Cond.instanceMethod yX2_leastKept, Cond.selects RX2 yX2_leastKept yX2_leastKept, Cond.initialized RX2, Cond.code yX2_leastKept cX2_leastKept 3 (some .int), Cond.fieldLink RX2 41 "VersionTrans" "latestVersion" "I", Cond.fieldLink RX2 144 "VersionTrans" "begun" "I", Cond.fieldLink RX2 11 "VersionTrans" "transactions" "[LVersionTrans$Transaction;", Cond.fieldLink RX2 87 "VersionTrans$Transaction" "sees" "I", Cond.methodLink RX2 215 Lib.Math.min.name, Cond.static Lib.Math.min.name, Cond.initialized "java/lang/Math", Cond.code Lib.Math.min.name Lib.Math.min.code 2 (some .int), Cond.fieldLink RX2 21 "VersionTrans" "pins" "[I", Cond.methodLink RX2 164 yX1_hasEnded, Cond.instanceMethod yX1_hasEnded, Cond.selects RX1 yX1_hasEnded yX1_hasEnded, Cond.initialized RX1, Cond.code yX1_hasEnded cX1_hasEnded 1 (some .boolean), Cond.fieldLink RX1 26 "VersionTrans$Transaction" "state" "I", Cond.methodLink RX2 121 yX2_dropOldRows, Cond.instanceMethod yX2_dropOldRows, Cond.selects RX2 yX2_dropOldRows yX2_dropOldRows]
def wsX2_free_r2 : List Cond := [Cond.code yX2_dropOldRows cX2_dropOldRows 6 (some .int), Cond.fieldLink RX2 17 "VersionTrans" "newest" "[LVersionTrans$Row;", Cond.fieldLink RX2 205 "VersionTrans$Row" "version" "I", Cond.fieldLink RX2 208 "VersionTrans$Row" "older" "LVersionTrans$Row;", Cond.fieldLink RX2 212 "VersionTrans$Row" "there" "Z", Cond.methodLink RX2 220 yX2_countRows, Cond.static yX2_countRows, Cond.code yX2_countRows cX2_countRows 3 (some .int), Cond.methodLink RX2 224 yX2_cutBelow, Cond.instanceMethod yX2_cutBelow, Cond.selects RX2 yX2_cutBelow yX2_cutBelow, Cond.code yX2_cutBelow cX2_cutBelow 3 none]
def wsX2_free : List Cond := .code yX2_free cX2_free 4 (some .int) :: ((wsX2_free_r1 ++ wsX2_free_r2) ++ wsX20 ++ wsX10 ++ wsX00)
def wsX2_rows : List Cond := .code yX2_rows cX2_rows 1 (some .int) :: ([.fieldLink RX2 125 "VersionTrans" "rowCount" "I"] ++ wsX20)
def wsX2_latest : List Cond := .code yX2_latest cX2_latest 1 (some .int) :: ([.fieldLink RX2 41 "VersionTrans" "latestVersion" "I"] ++ wsX20)
def wsX2_least : List Cond := .code yX2_least cX2_least 1 (some .int) :: ([.methodLink RX2 117 yX2_leastKept, .instanceMethod yX2_leastKept, .selects RX2 yX2_leastKept yX2_leastKept, .initialized RX2, .code yX2_leastKept cX2_leastKept 3 (some .int), .fieldLink RX2 41 "VersionTrans" "latestVersion" "I", .fieldLink RX2 144 "VersionTrans" "begun" "I", .fieldLink RX2 11 "VersionTrans" "transactions" "[LVersionTrans$Transaction;", .fieldLink RX2 87 "VersionTrans$Transaction" "sees" "I", .methodLink RX2 215 Lib.Math.min.name, .static Lib.Math.min.name, .initialized "java/lang/Math", .code Lib.Math.min.name Lib.Math.min.code 2 (some .int), .fieldLink RX2 21 "VersionTrans" "pins" "[I", .methodLink RX2 164 yX1_hasEnded, .instanceMethod yX1_hasEnded, .selects RX1 yX1_hasEnded yX1_hasEnded, .initialized RX1, .code yX1_hasEnded cX1_hasEnded 1 (some .boolean), .fieldLink RX1 26 "VersionTrans$Transaction" "state" "I"] ++ wsX20 ++ wsX10)
def wsX2_state : List Cond := .code yX2_state cX2_state 2 (some .int) :: ([.fieldLink RX2 128 "VersionTrans$Transaction" "state" "I", .methodLink RX2 53 yX2_known, .instanceMethod yX2_known, .selects RX2 yX2_known yX2_known, .initialized RX2, .code yX2_known cX2_known 2 (some (.object "VersionTrans$Transaction")), .classLink RX2 147 "java/lang/IllegalArgumentException", .initialized "java/lang/IllegalArgumentException", .fieldLink RX2 144 "VersionTrans" "begun" "I", .fieldLink RX2 11 "VersionTrans" "transactions" "[LVersionTrans$Transaction;"] ++ wsX10 ++ wsX20 ++ (vx_atS RX2 151 "java/lang/IllegalArgumentException" ["java/lang/RuntimeException", "java/lang/Exception"]).filter goodWord)
def wsX2_waits : List Cond := .code yX2_waits cX2_waits 3 (some .int) :: ([.fieldLink RX2 131 "VersionTrans$Transaction" "waitsFor" "LVersionTrans$Transaction;", .fieldLink RX2 135 "VersionTrans$Transaction" "number" "I", .methodLink RX2 53 yX2_known, .instanceMethod yX2_known, .selects RX2 yX2_known yX2_known, .initialized RX2, .code yX2_known cX2_known 2 (some (.object "VersionTrans$Transaction")), .classLink RX2 147 "java/lang/IllegalArgumentException", .initialized "java/lang/IllegalArgumentException", .fieldLink RX2 144 "VersionTrans" "begun" "I", .fieldLink RX2 11 "VersionTrans" "transactions" "[LVersionTrans$Transaction;"] ++ wsX10 ++ wsX20 ++ (vx_atS RX2 151 "java/lang/IllegalArgumentException" ["java/lang/RuntimeException", "java/lang/Exception"]).filter goodWord)
def wsX2_ring : List Cond := .code yX2_ring cX2_ring 2 (some .int) :: ([.fieldLink RX2 138 "VersionTrans" "ringSize" "I", .fieldLink RX2 38 "VersionTrans" "ringMembers" "[I"] ++ wsX20)
def wsX2_requireKind : List Cond := .code yX2_requireKind cX2_requireKind 1 none :: ([.classLink RX2 147 "java/lang/IllegalArgumentException", .initialized "java/lang/IllegalArgumentException"] ++ (vx_atS RX2 151 "java/lang/IllegalArgumentException" ["java/lang/RuntimeException", "java/lang/Exception"]).filter goodWord)
def wsX2_conflicts : List Cond := .code yX2_conflicts cX2_conflicts 3 (some .int) :: ([.fieldLink RX2 32 "VersionTrans" "failedByTriple" "[I", .fieldLink RX2 35 "VersionTrans" "refusedForGraph" "[I", .methodLink RX2 141 yX2_requireKind, .static yX2_requireKind, .initialized RX2, .code yX2_requireKind cX2_requireKind 1 none, .classLink RX2 147 "java/lang/IllegalArgumentException", .initialized "java/lang/IllegalArgumentException", .methodLink RX2 57 yX2_requireTriple, .static yX2_requireTriple, .code yX2_requireTriple cX2_requireTriple 1 none, .methodLink RX2 75 yX2_requireGraph, .static yX2_requireGraph, .code yX2_requireGraph cX2_requireGraph 1 none] ++ wsX20 ++ (vx_atS RX2 151 "java/lang/IllegalArgumentException" ["java/lang/RuntimeException", "java/lang/Exception"]).filter goodWord)
def wsX3_thrown : List Cond := .code yX3_thrown cX3_thrown 1 (some .int) :: ([.fieldLink RX3 1 "VersionTransModel" "thrown" "I"] ++ wsX30)
def wsX3_init : List Cond := .code yX3_init cX3_init 2 none :: ([.methodLink RX3 7 objectInit, .instanceMethod objectInit, .code objectInit ⟨#[0xb1]⟩ 1 none, .arrayClass .int, .fieldLink RX3 13 "VersionTransModel" "rowTriples" "[I", .fieldLink RX3 17 "VersionTransModel" "rowVersions" "[I", .arrayClass .boolean, .fieldLink RX3 20 "VersionTransModel" "rowTells" "[Z", .fieldLink RX3 24 "VersionTransModel" "pins" "[I", .fieldLink RX3 27 "VersionTransModel" "writers" "[Z", .fieldLink RX3 30 "VersionTransModel" "sees" "[I", .fieldLink RX3 33 "VersionTransModel" "states" "[I", .fieldLink RX3 36 "VersionTransModel" "notes" "[I", .fieldLink RX3 39 "VersionTransModel" "wrote" "[I", .fieldLink RX3 42 "VersionTransModel" "waitsFor" "[I", .fieldLink RX3 45 "VersionTransModel" "waitTriples" "[I", .fieldLink RX3 48 "VersionTransModel" "waitTells" "[Z", .fieldLink RX3 51 "VersionTransModel" "since" "[I", .fieldLink RX3 54 "VersionTransModel" "holders" "[I", .fieldLink RX3 57 "VersionTransModel" "queue" "[I", .fieldLink RX3 60 "VersionTransModel" "ring" "[I", .fieldLink RX3 63 "VersionTransModel" "failures" "[I", .fieldLink RX3 66 "VersionTransModel" "refusals" "[I", .fieldLink RX3 69 "VersionTransModel" "best" "[I"] ++ wsX30)
def wsX3_fails : List Cond := .code yX3_fails cX3_fails 3 (some .boolean) :: ([.fieldLink RX3 1 "VersionTransModel" "thrown" "I"] ++ wsX30)
def wsX3_isTransaction : List Cond := .code yX3_isTransaction cX3_isTransaction 2 (some .boolean) :: ([.fieldLink RX3 72 "VersionTransModel" "count" "I"] ++ wsX30)
def wsX3_isTriple : List Cond := .code yX3_isTriple cX3_isTriple 1 (some .boolean) :: ([])
def wsX3_isLive : List Cond := .code yX3_isLive cX3_isLive 2 (some .boolean) :: ([.fieldLink RX3 33 "VersionTransModel" "states" "[I"] ++ wsX30)
def wsX3_leastKept : List Cond := .code yX3_leastKept cX3_leastKept 3 (some .int) :: ([.fieldLink RX3 79 "VersionTransModel" "latest" "I", .fieldLink RX3 72 "VersionTransModel" "count" "I", .fieldLink RX3 30 "VersionTransModel" "sees" "[I", .fieldLink RX3 24 "VersionTransModel" "pins" "[I", .methodLink RX3 89 yX3_isLive, .instanceMethod yX3_isLive, .selects RX3 yX3_isLive yX3_isLive, .initialized RX3, .code yX3_isLive cX3_isLive 2 (some .boolean), .fieldLink RX3 33 "VersionTransModel" "states" "[I"] ++ wsX30)
def wsX3_isTellable : List Cond := .code yX3_isTellable cX3_isTellable 2 (some .boolean) :: ([.fieldLink RX3 79 "VersionTransModel" "latest" "I", .methodLink RX3 75 yX3_leastKept, .instanceMethod yX3_leastKept, .selects RX3 yX3_leastKept yX3_leastKept, .initialized RX3, .code yX3_leastKept cX3_leastKept 3 (some .int), .fieldLink RX3 72 "VersionTransModel" "count" "I", .fieldLink RX3 30 "VersionTransModel" "sees" "[I", .fieldLink RX3 24 "VersionTransModel" "pins" "[I", .methodLink RX3 89 yX3_isLive, .instanceMethod yX3_isLive, .selects RX3 yX3_isLive yX3_isLive, .code yX3_isLive cX3_isLive 2 (some .boolean), .fieldLink RX3 33 "VersionTransModel" "states" "[I"] ++ wsX30)
def wsX3_rowOf : List Cond := .code yX3_rowOf cX3_rowOf 5 (some .int) :: ([.fieldLink RX3 82 "VersionTransModel" "rows" "I", .fieldLink RX3 13 "VersionTransModel" "rowTriples" "[I", .fieldLink RX3 17 "VersionTransModel" "rowVersions" "[I"] ++ wsX30)
def wsX3_isThere : List Cond := .code yX3_isThere cX3_isThere 4 (some .boolean) :: ([.fieldLink RX3 20 "VersionTransModel" "rowTells" "[Z", .methodLink RX3 85 yX3_rowOf, .instanceMethod yX3_rowOf, .selects RX3 yX3_rowOf yX3_rowOf, .initialized RX3, .code yX3_rowOf cX3_rowOf 5 (some .int), .fieldLink RX3 82 "VersionTransModel" "rows" "I", .fieldLink RX3 13 "VersionTransModel" "rowTriples" "[I", .fieldLink RX3 17 "VersionTransModel" "rowVersions" "[I"] ++ wsX30)
def wsX3_hasAbove : List Cond := .code yX3_hasAbove cX3_hasAbove 4 (some .boolean) :: ([.fieldLink RX3 82 "VersionTransModel" "rows" "I", .fieldLink RX3 13 "VersionTransModel" "rowTriples" "[I", .fieldLink RX3 17 "VersionTransModel" "rowVersions" "[I"] ++ wsX30)
def wsX3_least : List Cond := .code yX3_least cX3_least 1 (some .int) :: ([.fieldLink RX3 1 "VersionTransModel" "thrown" "I", .methodLink RX3 75 yX3_leastKept, .instanceMethod yX3_leastKept, .selects RX3 yX3_leastKept yX3_leastKept, .initialized RX3, .code yX3_leastKept cX3_leastKept 3 (some .int), .fieldLink RX3 79 "VersionTransModel" "latest" "I", .fieldLink RX3 72 "VersionTransModel" "count" "I", .fieldLink RX3 30 "VersionTransModel" "sees" "[I", .fieldLink RX3 24 "VersionTransModel" "pins" "[I", .methodLink RX3 89 yX3_isLive, .instanceMethod yX3_isLive, .selects RX3 yX3_isLive yX3_isLive, .code yX3_isLive cX3_isLive 2 (some .boolean), .fieldLink RX3 33 "VersionTransModel" "states" "[I"] ++ wsX30)
def wsX3_latest : List Cond := .code yX3_latest cX3_latest 1 (some .int) :: ([.fieldLink RX3 1 "VersionTransModel" "thrown" "I", .fieldLink RX3 79 "VersionTransModel" "latest" "I"] ++ wsX30)
def wsX3_rows : List Cond := .code yX3_rows cX3_rows 1 (some .int) :: ([.fieldLink RX3 1 "VersionTransModel" "thrown" "I", .fieldLink RX3 82 "VersionTransModel" "rows" "I"] ++ wsX30)
def wsX3_told_r1 : List Cond := [Cond.methodLink RX3 93 yX3_isTellable, Cond.instanceMethod yX3_isTellable, Cond.selects RX3 yX3_isTellable yX3_isTellable, Cond.initialized RX3, Cond.code yX3_isTellable cX3_isTellable 2 (some .boolean), Cond.fieldLink RX3 79 "VersionTransModel" "latest" "I", Cond.methodLink RX3 75 yX3_leastKept, Cond.instanceMethod yX3_leastKept, Cond.selects RX3 yX3_leastKept yX3_leastKept, Cond.code yX3_leastKept cX3_leastKept 3 (some .int), Cond.fieldLink RX3 72 "VersionTransModel" "count" "I", Cond.fieldLink RX3 30 "VersionTransModel" "sees" "[I", Cond.fieldLink RX3 24 "VersionTransModel" "pins" "[I", Cond.methodLink RX3 89 yX3_isLive, Cond.instanceMethod yX3_isLive, Cond.selects RX3 yX3_isLive yX3_isLive, Cond.code yX3_isLive cX3_isLive 2 (some .boolean), Cond.fieldLink RX3 33 "VersionTransModel" "states" "[I", Cond.methodLink RX3 96 yX3_isTriple, Cond.static yX3_isTriple, Cond.code yX3_isTriple cX3_isTriple 1 (some .boolean), Cond.methodLink RX3 99 yX3_fails, Cond.instanceMethod yX3_fails, Cond.selects RX3 yX3_fails yX3_fails]
def wsX3_told_r2 : List Cond := [Cond.code yX3_fails cX3_fails 3 (some .boolean), Cond.fieldLink RX3 1 "VersionTransModel" "thrown" "I", Cond.methodLink RX3 103 yX3_isThere, Cond.instanceMethod yX3_isThere, Cond.selects RX3 yX3_isThere yX3_isThere, Cond.code yX3_isThere cX3_isThere 4 (some .boolean), Cond.fieldLink RX3 20 "VersionTransModel" "rowTells" "[Z", Cond.methodLink RX3 85 yX3_rowOf, Cond.instanceMethod yX3_rowOf, Cond.selects RX3 yX3_rowOf yX3_rowOf, Cond.code yX3_rowOf cX3_rowOf 5 (some .int), Cond.fieldLink RX3 82 "VersionTransModel" "rows" "I", Cond.fieldLink RX3 13 "VersionTransModel" "rowTriples" "[I", Cond.fieldLink RX3 17 "VersionTransModel" "rowVersions" "[I"]
def wsX3_told : List Cond := .code yX3_told cX3_told 3 (some .boolean) :: ((wsX3_told_r1 ++ wsX3_told_r2) ++ wsX30)
def wsX3_pin : List Cond := .code yX3_pin cX3_pin 2 (some .int) :: ([.fieldLink RX3 24 "VersionTransModel" "pins" "[I", .methodLink RX3 93 yX3_isTellable, .instanceMethod yX3_isTellable, .selects RX3 yX3_isTellable yX3_isTellable, .initialized RX3, .code yX3_isTellable cX3_isTellable 2 (some .boolean), .fieldLink RX3 79 "VersionTransModel" "latest" "I", .methodLink RX3 75 yX3_leastKept, .instanceMethod yX3_leastKept, .selects RX3 yX3_leastKept yX3_leastKept, .code yX3_leastKept cX3_leastKept 3 (some .int), .fieldLink RX3 72 "VersionTransModel" "count" "I", .fieldLink RX3 30 "VersionTransModel" "sees" "[I", .methodLink RX3 89 yX3_isLive, .instanceMethod yX3_isLive, .selects RX3 yX3_isLive yX3_isLive, .code yX3_isLive cX3_isLive 2 (some .boolean), .fieldLink RX3 33 "VersionTransModel" "states" "[I", .methodLink RX3 99 yX3_fails, .instanceMethod yX3_fails, .selects RX3 yX3_fails yX3_fails, .code yX3_fails cX3_fails 3 (some .boolean), .fieldLink RX3 1 "VersionTransModel" "thrown" "I"] ++ wsX30)
def wsX3_unpin : List Cond := .code yX3_unpin cX3_unpin 2 (some .int) :: ([.fieldLink RX3 24 "VersionTransModel" "pins" "[I", .methodLink RX3 99 yX3_fails, .instanceMethod yX3_fails, .selects RX3 yX3_fails yX3_fails, .initialized RX3, .code yX3_fails cX3_fails 3 (some .boolean), .fieldLink RX3 1 "VersionTransModel" "thrown" "I"] ++ wsX30)
def wsX3_free : List Cond := .code yX3_free cX3_free 7 (some .int) :: ([.fieldLink RX3 1 "VersionTransModel" "thrown" "I", .fieldLink RX3 69 "VersionTransModel" "best" "[I", .fieldLink RX3 17 "VersionTransModel" "rowVersions" "[I", .fieldLink RX3 82 "VersionTransModel" "rows" "I", .fieldLink RX3 13 "VersionTransModel" "rowTriples" "[I", .fieldLink RX3 20 "VersionTransModel" "rowTells" "[Z", .methodLink RX3 75 yX3_leastKept, .instanceMethod yX3_leastKept, .selects RX3 yX3_leastKept yX3_leastKept, .initialized RX3, .code yX3_leastKept cX3_leastKept 3 (some .int), .fieldLink RX3 79 "VersionTransModel" "latest" "I", .fieldLink RX3 72 "VersionTransModel" "count" "I", .fieldLink RX3 30 "VersionTransModel" "sees" "[I", .fieldLink RX3 24 "VersionTransModel" "pins" "[I", .methodLink RX3 89 yX3_isLive, .instanceMethod yX3_isLive, .selects RX3 yX3_isLive yX3_isLive, .code yX3_isLive cX3_isLive 2 (some .boolean), .fieldLink RX3 33 "VersionTransModel" "states" "[I", .methodLink RX3 85 yX3_rowOf, .instanceMethod yX3_rowOf, .selects RX3 yX3_rowOf yX3_rowOf, .code yX3_rowOf cX3_rowOf 5 (some .int)] ++ wsX30)
def wsX3_start : List Cond := .code yX3_start cX3_start 3 (some .int) :: ([.fieldLink RX3 27 "VersionTransModel" "writers" "[Z", .fieldLink RX3 72 "VersionTransModel" "count" "I", .fieldLink RX3 30 "VersionTransModel" "sees" "[I", .fieldLink RX3 33 "VersionTransModel" "states" "[I", .fieldLink RX3 42 "VersionTransModel" "waitsFor" "[I"] ++ wsX30)
def wsX3_begin : List Cond := .code yX3_begin cX3_begin 1 (some .int) :: ([.fieldLink RX3 72 "VersionTransModel" "count" "I", .fieldLink RX3 1 "VersionTransModel" "thrown" "I", .fieldLink RX3 79 "VersionTransModel" "latest" "I", .methodLink RX3 107 yX3_start, .instanceMethod yX3_start, .selects RX3 yX3_start yX3_start, .initialized RX3, .code yX3_start cX3_start 3 (some .int), .fieldLink RX3 27 "VersionTransModel" "writers" "[Z", .fieldLink RX3 30 "VersionTransModel" "sees" "[I", .fieldLink RX3 33 "VersionTransModel" "states" "[I", .fieldLink RX3 42 "VersionTransModel" "waitsFor" "[I"] ++ wsX30)
def wsX3_look_r1 : List Cond := [Cond.fieldLink RX3 72 "VersionTransModel" "count" "I", Cond.methodLink RX3 93 yX3_isTellable, Cond.instanceMethod yX3_isTellable, Cond.selects RX3 yX3_isTellable yX3_isTellable, Cond.initialized RX3, Cond.code yX3_isTellable cX3_isTellable 2 (some .boolean), Cond.fieldLink RX3 79 "VersionTransModel" "latest" "I", Cond.methodLink RX3 75 yX3_leastKept, Cond.instanceMethod yX3_leastKept, Cond.selects RX3 yX3_leastKept yX3_leastKept, Cond.code yX3_leastKept cX3_leastKept 3 (some .int), Cond.fieldLink RX3 30 "VersionTransModel" "sees" "[I", Cond.fieldLink RX3 24 "VersionTransModel" "pins" "[I", Cond.methodLink RX3 89 yX3_isLive, Cond.instanceMethod yX3_isLive, Cond.selects RX3 yX3_isLive yX3_isLive, Cond.code yX3_isLive cX3_isLive 2 (some .boolean), Cond.fieldLink RX3 33 "VersionTransModel" "states" "[I", Cond.methodLink RX3 99 yX3_fails, Cond.instanceMethod yX3_fails, Cond.selects RX3 yX3_fails yX3_fails, Cond.code yX3_fails cX3_fails 3 (some .boolean), Cond.fieldLink RX3 1 "VersionTransModel" "thrown" "I", Cond.methodLink RX3 107 yX3_start]
def wsX3_look_r2 : List Cond := [Cond.instanceMethod yX3_start, Cond.selects RX3 yX3_start yX3_start, Cond.code yX3_start cX3_start 3 (some .int), Cond.fieldLink RX3 27 "VersionTransModel" "writers" "[Z", Cond.fieldLink RX3 42 "VersionTransModel" "waitsFor" "[I"]
def wsX3_look : List Cond := .code yX3_look cX3_look 2 (some .int) :: ((wsX3_look_r1 ++ wsX3_look_r2) ++ wsX30)
def wsX3_state : List Cond := .code yX3_state cX3_state 2 (some .int) :: ([.fieldLink RX3 33 "VersionTransModel" "states" "[I", .methodLink RX3 111 yX3_isTransaction, .instanceMethod yX3_isTransaction, .selects RX3 yX3_isTransaction yX3_isTransaction, .initialized RX3, .code yX3_isTransaction cX3_isTransaction 2 (some .boolean), .fieldLink RX3 72 "VersionTransModel" "count" "I", .methodLink RX3 99 yX3_fails, .instanceMethod yX3_fails, .selects RX3 yX3_fails yX3_fails, .code yX3_fails cX3_fails 3 (some .boolean), .fieldLink RX3 1 "VersionTransModel" "thrown" "I"] ++ wsX30)
def wsX3_waits : List Cond := .code yX3_waits cX3_waits 2 (some .int) :: ([.fieldLink RX3 33 "VersionTransModel" "states" "[I", .fieldLink RX3 42 "VersionTransModel" "waitsFor" "[I", .methodLink RX3 111 yX3_isTransaction, .instanceMethod yX3_isTransaction, .selects RX3 yX3_isTransaction yX3_isTransaction, .initialized RX3, .code yX3_isTransaction cX3_isTransaction 2 (some .boolean), .fieldLink RX3 72 "VersionTransModel" "count" "I", .methodLink RX3 99 yX3_fails, .instanceMethod yX3_fails, .selects RX3 yX3_fails yX3_fails, .code yX3_fails cX3_fails 3 (some .boolean), .fieldLink RX3 1 "VersionTransModel" "thrown" "I"] ++ wsX30)
def wsX3_read_r1 : List Cond := [Cond.fieldLink RX3 39 "VersionTransModel" "wrote" "[I", Cond.fieldLink RX3 30 "VersionTransModel" "sees" "[I", Cond.methodLink RX3 111 yX3_isTransaction, Cond.instanceMethod yX3_isTransaction, Cond.selects RX3 yX3_isTransaction yX3_isTransaction, Cond.initialized RX3, Cond.code yX3_isTransaction cX3_isTransaction 2 (some .boolean), Cond.fieldLink RX3 72 "VersionTransModel" "count" "I", Cond.methodLink RX3 96 yX3_isTriple, Cond.static yX3_isTriple, Cond.code yX3_isTriple cX3_isTriple 1 (some .boolean), Cond.methodLink RX3 89 yX3_isLive, Cond.instanceMethod yX3_isLive, Cond.selects RX3 yX3_isLive yX3_isLive, Cond.code yX3_isLive cX3_isLive 2 (some .boolean), Cond.fieldLink RX3 33 "VersionTransModel" "states" "[I", Cond.methodLink RX3 99 yX3_fails, Cond.instanceMethod yX3_fails, Cond.selects RX3 yX3_fails yX3_fails, Cond.code yX3_fails cX3_fails 3 (some .boolean), Cond.fieldLink RX3 1 "VersionTransModel" "thrown" "I", Cond.methodLink RX3 103 yX3_isThere, Cond.instanceMethod yX3_isThere, Cond.selects RX3 yX3_isThere yX3_isThere]
def wsX3_read_r2 : List Cond := [Cond.code yX3_isThere cX3_isThere 4 (some .boolean), Cond.fieldLink RX3 20 "VersionTransModel" "rowTells" "[Z", Cond.methodLink RX3 85 yX3_rowOf, Cond.instanceMethod yX3_rowOf, Cond.selects RX3 yX3_rowOf yX3_rowOf, Cond.code yX3_rowOf cX3_rowOf 5 (some .int), Cond.fieldLink RX3 82 "VersionTransModel" "rows" "I", Cond.fieldLink RX3 13 "VersionTransModel" "rowTriples" "[I", Cond.fieldLink RX3 17 "VersionTransModel" "rowVersions" "[I"]
def wsX3_read : List Cond := .code yX3_read cX3_read 5 (some .boolean) :: ((wsX3_read_r1 ++ wsX3_read_r2) ++ wsX30)
def wsX3_canWrite : List Cond := .code yX3_canWrite cX3_canWrite 2 (some .boolean) :: ([.fieldLink RX3 33 "VersionTransModel" "states" "[I", .fieldLink RX3 27 "VersionTransModel" "writers" "[Z"] ++ wsX30)
def wsX3_note : List Cond := .code yX3_note cX3_note 6 (some .int) :: ([.fieldLink RX3 36 "VersionTransModel" "notes" "[I", .methodLink RX3 111 yX3_isTransaction, .instanceMethod yX3_isTransaction, .selects RX3 yX3_isTransaction yX3_isTransaction, .initialized RX3, .code yX3_isTransaction cX3_isTransaction 2 (some .boolean), .fieldLink RX3 72 "VersionTransModel" "count" "I", .methodLink RX3 114 yX3_canWrite, .instanceMethod yX3_canWrite, .selects RX3 yX3_canWrite yX3_canWrite, .code yX3_canWrite cX3_canWrite 2 (some .boolean), .fieldLink RX3 33 "VersionTransModel" "states" "[I", .fieldLink RX3 27 "VersionTransModel" "writers" "[Z", .methodLink RX3 99 yX3_fails, .instanceMethod yX3_fails, .selects RX3 yX3_fails yX3_fails, .code yX3_fails cX3_fails 3 (some .boolean), .fieldLink RX3 1 "VersionTransModel" "thrown" "I"] ++ wsX30)
def wsX3_end : List Cond := .code yX3_end cX3_end 7 none :: ([.fieldLink RX3 33 "VersionTransModel" "states" "[I", .fieldLink RX3 54 "VersionTransModel" "holders" "[I", .fieldLink RX3 72 "VersionTransModel" "count" "I", .fieldLink RX3 42 "VersionTransModel" "waitsFor" "[I", .fieldLink RX3 51 "VersionTransModel" "since" "[I", .fieldLink RX3 57 "VersionTransModel" "queue" "[I", .fieldLink RX3 144 "VersionTransModel" "queueTo" "I"] ++ wsX30)
def wsX3_takeRing : List Cond := .code yX3_takeRing cX3_takeRing 6 none :: ([.fieldLink RX3 138 "VersionTransModel" "ringSize" "I", .fieldLink RX3 60 "VersionTransModel" "ring" "[I", .fieldLink RX3 42 "VersionTransModel" "waitsFor" "[I", .methodLink RX3 141 yX3_end, .instanceMethod yX3_end, .selects RX3 yX3_end yX3_end, .initialized RX3, .code yX3_end cX3_end 7 none, .fieldLink RX3 33 "VersionTransModel" "states" "[I", .fieldLink RX3 54 "VersionTransModel" "holders" "[I", .fieldLink RX3 72 "VersionTransModel" "count" "I", .fieldLink RX3 51 "VersionTransModel" "since" "[I", .fieldLink RX3 57 "VersionTransModel" "queue" "[I", .fieldLink RX3 144 "VersionTransModel" "queueTo" "I"] ++ wsX30)
def wsX3_lookForRing : List Cond := .code yX3_lookForRing cX3_lookForRing 4 none :: ([.fieldLink RX3 33 "VersionTransModel" "states" "[I", .fieldLink RX3 42 "VersionTransModel" "waitsFor" "[I", .methodLink RX3 134 yX3_takeRing, .instanceMethod yX3_takeRing, .selects RX3 yX3_takeRing yX3_takeRing, .initialized RX3, .code yX3_takeRing cX3_takeRing 6 none, .fieldLink RX3 138 "VersionTransModel" "ringSize" "I", .fieldLink RX3 60 "VersionTransModel" "ring" "[I", .methodLink RX3 141 yX3_end, .instanceMethod yX3_end, .selects RX3 yX3_end yX3_end, .code yX3_end cX3_end 7 none, .fieldLink RX3 54 "VersionTransModel" "holders" "[I", .fieldLink RX3 72 "VersionTransModel" "count" "I", .fieldLink RX3 51 "VersionTransModel" "since" "[I", .fieldLink RX3 57 "VersionTransModel" "queue" "[I", .fieldLink RX3 144 "VersionTransModel" "queueTo" "I"] ++ wsX30)
def wsX3_write_r1 : List Cond := [Cond.fieldLink RX3 42 "VersionTransModel" "waitsFor" "[I", Cond.fieldLink RX3 33 "VersionTransModel" "states" "[I", Cond.fieldLink RX3 30 "VersionTransModel" "sees" "[I", Cond.fieldLink RX3 63 "VersionTransModel" "failures" "[I", Cond.fieldLink RX3 54 "VersionTransModel" "holders" "[I", Cond.fieldLink RX3 45 "VersionTransModel" "waitTriples" "[I", Cond.fieldLink RX3 48 "VersionTransModel" "waitTells" "[Z", Cond.fieldLink RX3 51 "VersionTransModel" "since" "[I", Cond.fieldLink RX3 127 "VersionTransModel" "clock" "I", Cond.fieldLink RX3 39 "VersionTransModel" "wrote" "[I", Cond.methodLink RX3 124 yX3_hasAbove, Cond.instanceMethod yX3_hasAbove, Cond.selects RX3 yX3_hasAbove yX3_hasAbove, Cond.initialized RX3, Cond.code yX3_hasAbove cX3_hasAbove 4 (some .boolean), Cond.fieldLink RX3 82 "VersionTransModel" "rows" "I", Cond.fieldLink RX3 13 "VersionTransModel" "rowTriples" "[I", Cond.fieldLink RX3 17 "VersionTransModel" "rowVersions" "[I", Cond.methodLink RX3 130 yX3_lookForRing, Cond.instanceMethod yX3_lookForRing, Cond.selects RX3 yX3_lookForRing yX3_lookForRing, Cond.code yX3_lookForRing cX3_lookForRing 4 none, Cond.methodLink RX3 134 yX3_takeRing, Cond.instanceMethod yX3_takeRing]
def wsX3_write_r2 : List Cond := [Cond.selects RX3 yX3_takeRing yX3_takeRing, Cond.code yX3_takeRing cX3_takeRing 6 none, Cond.fieldLink RX3 138 "VersionTransModel" "ringSize" "I", Cond.fieldLink RX3 60 "VersionTransModel" "ring" "[I", Cond.methodLink RX3 141 yX3_end, Cond.instanceMethod yX3_end, Cond.selects RX3 yX3_end yX3_end, Cond.code yX3_end cX3_end 7 none, Cond.fieldLink RX3 72 "VersionTransModel" "count" "I", Cond.fieldLink RX3 57 "VersionTransModel" "queue" "[I", Cond.fieldLink RX3 144 "VersionTransModel" "queueTo" "I"]
def wsX3_write : List Cond := .code yX3_write cX3_write 4 none :: ((wsX3_write_r1 ++ wsX3_write_r2) ++ wsX30)
def wsX3_goOn_r1 : List Cond := [Cond.fieldLink RX3 147 "VersionTransModel" "queueFrom" "I", Cond.fieldLink RX3 144 "VersionTransModel" "queueTo" "I", Cond.fieldLink RX3 57 "VersionTransModel" "queue" "[I", Cond.fieldLink RX3 33 "VersionTransModel" "states" "[I", Cond.fieldLink RX3 45 "VersionTransModel" "waitTriples" "[I", Cond.fieldLink RX3 48 "VersionTransModel" "waitTells" "[Z", Cond.methodLink RX3 117 yX3_write, Cond.instanceMethod yX3_write, Cond.selects RX3 yX3_write yX3_write, Cond.initialized RX3, Cond.code yX3_write cX3_write 4 none, Cond.fieldLink RX3 42 "VersionTransModel" "waitsFor" "[I", Cond.fieldLink RX3 30 "VersionTransModel" "sees" "[I", Cond.fieldLink RX3 63 "VersionTransModel" "failures" "[I", Cond.fieldLink RX3 54 "VersionTransModel" "holders" "[I", Cond.fieldLink RX3 51 "VersionTransModel" "since" "[I", Cond.fieldLink RX3 127 "VersionTransModel" "clock" "I", Cond.fieldLink RX3 39 "VersionTransModel" "wrote" "[I", Cond.methodLink RX3 124 yX3_hasAbove, Cond.instanceMethod yX3_hasAbove, Cond.selects RX3 yX3_hasAbove yX3_hasAbove, Cond.code yX3_hasAbove cX3_hasAbove 4 (some .boolean), Cond.fieldLink RX3 82 "VersionTransModel" "rows" "I", Cond.fieldLink RX3 13 "VersionTransModel" "rowTriples" "[I"]
def wsX3_goOn_r2 : List Cond := [Cond.fieldLink RX3 17 "VersionTransModel" "rowVersions" "[I", Cond.methodLink RX3 130 yX3_lookForRing, Cond.instanceMethod yX3_lookForRing, Cond.selects RX3 yX3_lookForRing yX3_lookForRing, Cond.code yX3_lookForRing cX3_lookForRing 4 none, Cond.methodLink RX3 134 yX3_takeRing, Cond.instanceMethod yX3_takeRing, Cond.selects RX3 yX3_takeRing yX3_takeRing, Cond.code yX3_takeRing cX3_takeRing 6 none, Cond.fieldLink RX3 138 "VersionTransModel" "ringSize" "I", Cond.fieldLink RX3 60 "VersionTransModel" "ring" "[I", Cond.methodLink RX3 141 yX3_end, Cond.instanceMethod yX3_end, Cond.selects RX3 yX3_end yX3_end, Cond.code yX3_end cX3_end 7 none, Cond.fieldLink RX3 72 "VersionTransModel" "count" "I"]
def wsX3_goOn : List Cond := .code yX3_goOn cX3_goOn 2 none :: ((wsX3_goOn_r1 ++ wsX3_goOn_r2) ++ wsX30)
def wsX3_put_r1 : List Cond := [Cond.fieldLink RX3 33 "VersionTransModel" "states" "[I", Cond.methodLink RX3 111 yX3_isTransaction, Cond.instanceMethod yX3_isTransaction, Cond.selects RX3 yX3_isTransaction yX3_isTransaction, Cond.initialized RX3, Cond.code yX3_isTransaction cX3_isTransaction 2 (some .boolean), Cond.fieldLink RX3 72 "VersionTransModel" "count" "I", Cond.methodLink RX3 96 yX3_isTriple, Cond.static yX3_isTriple, Cond.code yX3_isTriple cX3_isTriple 1 (some .boolean), Cond.methodLink RX3 114 yX3_canWrite, Cond.instanceMethod yX3_canWrite, Cond.selects RX3 yX3_canWrite yX3_canWrite, Cond.code yX3_canWrite cX3_canWrite 2 (some .boolean), Cond.fieldLink RX3 27 "VersionTransModel" "writers" "[Z", Cond.methodLink RX3 99 yX3_fails, Cond.instanceMethod yX3_fails, Cond.selects RX3 yX3_fails yX3_fails, Cond.code yX3_fails cX3_fails 3 (some .boolean), Cond.fieldLink RX3 1 "VersionTransModel" "thrown" "I", Cond.methodLink RX3 117 yX3_write, Cond.instanceMethod yX3_write, Cond.selects RX3 yX3_write yX3_write, Cond.code yX3_write cX3_write 4 none]
def wsX3_put_r2 : List Cond := [Cond.fieldLink RX3 42 "VersionTransModel" "waitsFor" "[I", Cond.fieldLink RX3 30 "VersionTransModel" "sees" "[I", Cond.fieldLink RX3 63 "VersionTransModel" "failures" "[I", Cond.fieldLink RX3 54 "VersionTransModel" "holders" "[I", Cond.fieldLink RX3 45 "VersionTransModel" "waitTriples" "[I", Cond.fieldLink RX3 48 "VersionTransModel" "waitTells" "[Z", Cond.fieldLink RX3 51 "VersionTransModel" "since" "[I", Cond.fieldLink RX3 127 "VersionTransModel" "clock" "I", Cond.fieldLink RX3 39 "VersionTransModel" "wrote" "[I", Cond.methodLink RX3 124 yX3_hasAbove, Cond.instanceMethod yX3_hasAbove, Cond.selects RX3 yX3_hasAbove yX3_hasAbove, Cond.code yX3_hasAbove cX3_hasAbove 4 (some .boolean), Cond.fieldLink RX3 82 "VersionTransModel" "rows" "I", Cond.fieldLink RX3 13 "VersionTransModel" "rowTriples" "[I", Cond.fieldLink RX3 17 "VersionTransModel" "rowVersions" "[I", Cond.methodLink RX3 130 yX3_lookForRing, Cond.instanceMethod yX3_lookForRing, Cond.selects RX3 yX3_lookForRing yX3_lookForRing, Cond.code yX3_lookForRing cX3_lookForRing 4 none, Cond.methodLink RX3 134 yX3_takeRing, Cond.instanceMethod yX3_takeRing, Cond.selects RX3 yX3_takeRing yX3_takeRing, Cond.code yX3_takeRing cX3_takeRing 6 none]
def wsX3_put_r3 : List Cond := [Cond.fieldLink RX3 138 "VersionTransModel" "ringSize" "I", Cond.fieldLink RX3 60 "VersionTransModel" "ring" "[I", Cond.methodLink RX3 141 yX3_end, Cond.instanceMethod yX3_end, Cond.selects RX3 yX3_end yX3_end, Cond.code yX3_end cX3_end 7 none, Cond.fieldLink RX3 57 "VersionTransModel" "queue" "[I", Cond.fieldLink RX3 144 "VersionTransModel" "queueTo" "I", Cond.methodLink RX3 121 yX3_goOn, Cond.instanceMethod yX3_goOn, Cond.selects RX3 yX3_goOn yX3_goOn, Cond.code yX3_goOn cX3_goOn 2 none, Cond.fieldLink RX3 147 "VersionTransModel" "queueFrom" "I"]
def wsX3_put : List Cond := .code yX3_put cX3_put 6 (some .int) :: ((wsX3_put_r1 ++ (wsX3_put_r2 ++ wsX3_put_r3)) ++ wsX30)
def wsX3_writes : List Cond := .code yX3_writes cX3_writes 4 (some .int) :: ([.fieldLink RX3 39 "VersionTransModel" "wrote" "[I"] ++ wsX30)
def wsX3_abort_r1 : List Cond := [Cond.methodLink RX3 111 yX3_isTransaction, Cond.instanceMethod yX3_isTransaction, Cond.selects RX3 yX3_isTransaction yX3_isTransaction, Cond.initialized RX3, Cond.code yX3_isTransaction cX3_isTransaction 2 (some .boolean), Cond.fieldLink RX3 72 "VersionTransModel" "count" "I", Cond.methodLink RX3 89 yX3_isLive, Cond.instanceMethod yX3_isLive, Cond.selects RX3 yX3_isLive yX3_isLive, Cond.code yX3_isLive cX3_isLive 2 (some .boolean), Cond.fieldLink RX3 33 "VersionTransModel" "states" "[I", Cond.methodLink RX3 99 yX3_fails, Cond.instanceMethod yX3_fails, Cond.selects RX3 yX3_fails yX3_fails, Cond.code yX3_fails cX3_fails 3 (some .boolean), Cond.fieldLink RX3 1 "VersionTransModel" "thrown" "I", Cond.methodLink RX3 141 yX3_end, Cond.instanceMethod yX3_end, Cond.selects RX3 yX3_end yX3_end, Cond.code yX3_end cX3_end 7 none, Cond.fieldLink RX3 54 "VersionTransModel" "holders" "[I", Cond.fieldLink RX3 42 "VersionTransModel" "waitsFor" "[I", Cond.fieldLink RX3 51 "VersionTransModel" "since" "[I", Cond.fieldLink RX3 57 "VersionTransModel" "queue" "[I"]
def wsX3_abort_r2 : List Cond := [Cond.fieldLink RX3 144 "VersionTransModel" "queueTo" "I", Cond.methodLink RX3 121 yX3_goOn, Cond.instanceMethod yX3_goOn, Cond.selects RX3 yX3_goOn yX3_goOn, Cond.code yX3_goOn cX3_goOn 2 none, Cond.fieldLink RX3 147 "VersionTransModel" "queueFrom" "I", Cond.fieldLink RX3 45 "VersionTransModel" "waitTriples" "[I", Cond.fieldLink RX3 48 "VersionTransModel" "waitTells" "[Z", Cond.methodLink RX3 117 yX3_write, Cond.instanceMethod yX3_write, Cond.selects RX3 yX3_write yX3_write, Cond.code yX3_write cX3_write 4 none, Cond.fieldLink RX3 30 "VersionTransModel" "sees" "[I", Cond.fieldLink RX3 63 "VersionTransModel" "failures" "[I", Cond.fieldLink RX3 127 "VersionTransModel" "clock" "I", Cond.fieldLink RX3 39 "VersionTransModel" "wrote" "[I", Cond.methodLink RX3 124 yX3_hasAbove, Cond.instanceMethod yX3_hasAbove, Cond.selects RX3 yX3_hasAbove yX3_hasAbove, Cond.code yX3_hasAbove cX3_hasAbove 4 (some .boolean), Cond.fieldLink RX3 82 "VersionTransModel" "rows" "I", Cond.fieldLink RX3 13 "VersionTransModel" "rowTriples" "[I", Cond.fieldLink RX3 17 "VersionTransModel" "rowVersions" "[I", Cond.methodLink RX3 130 yX3_lookForRing]
def wsX3_abort_r3 : List Cond := [Cond.instanceMethod yX3_lookForRing, Cond.selects RX3 yX3_lookForRing yX3_lookForRing, Cond.code yX3_lookForRing cX3_lookForRing 4 none, Cond.methodLink RX3 134 yX3_takeRing, Cond.instanceMethod yX3_takeRing, Cond.selects RX3 yX3_takeRing yX3_takeRing, Cond.code yX3_takeRing cX3_takeRing 6 none, Cond.fieldLink RX3 138 "VersionTransModel" "ringSize" "I", Cond.fieldLink RX3 60 "VersionTransModel" "ring" "[I", Cond.methodLink RX3 150 yX3_writes, Cond.instanceMethod yX3_writes, Cond.selects RX3 yX3_writes yX3_writes, Cond.code yX3_writes cX3_writes 4 (some .int)]
def wsX3_abort : List Cond := .code yX3_abort cX3_abort 3 (some .int) :: ((wsX3_abort_r1 ++ (wsX3_abort_r2 ++ wsX3_abort_r3)) ++ wsX30)
def wsX3_changed : List Cond := .code yX3_changed cX3_changed 4 (some .int) :: ([.fieldLink RX3 36 "VersionTransModel" "notes" "[I", .fieldLink RX3 30 "VersionTransModel" "sees" "[I", .methodLink RX3 124 yX3_hasAbove, .instanceMethod yX3_hasAbove, .selects RX3 yX3_hasAbove yX3_hasAbove, .initialized RX3, .code yX3_hasAbove cX3_hasAbove 4 (some .boolean), .fieldLink RX3 82 "VersionTransModel" "rows" "I", .fieldLink RX3 13 "VersionTransModel" "rowTriples" "[I", .fieldLink RX3 17 "VersionTransModel" "rowVersions" "[I"] ++ wsX30)
def wsX3_commit_r1 : List Cond := [Cond.fieldLink RX3 33 "VersionTransModel" "states" "[I", Cond.fieldLink RX3 66 "VersionTransModel" "refusals" "[I", Cond.fieldLink RX3 30 "VersionTransModel" "sees" "[I", Cond.fieldLink RX3 79 "VersionTransModel" "latest" "I", Cond.fieldLink RX3 39 "VersionTransModel" "wrote" "[I", Cond.fieldLink RX3 13 "VersionTransModel" "rowTriples" "[I", Cond.fieldLink RX3 82 "VersionTransModel" "rows" "I", Cond.fieldLink RX3 17 "VersionTransModel" "rowVersions" "[I", Cond.fieldLink RX3 20 "VersionTransModel" "rowTells" "[Z", Cond.methodLink RX3 111 yX3_isTransaction, Cond.instanceMethod yX3_isTransaction, Cond.selects RX3 yX3_isTransaction yX3_isTransaction, Cond.initialized RX3, Cond.code yX3_isTransaction cX3_isTransaction 2 (some .boolean), Cond.fieldLink RX3 72 "VersionTransModel" "count" "I", Cond.methodLink RX3 89 yX3_isLive, Cond.instanceMethod yX3_isLive, Cond.selects RX3 yX3_isLive yX3_isLive, Cond.code yX3_isLive cX3_isLive 2 (some .boolean), Cond.methodLink RX3 99 yX3_fails, Cond.instanceMethod yX3_fails, Cond.selects RX3 yX3_fails yX3_fails, Cond.code yX3_fails cX3_fails 3 (some .boolean), Cond.fieldLink RX3 1 "VersionTransModel" "thrown" "I"]
def wsX3_commit_r2 : List Cond := [Cond.methodLink RX3 154 yX3_changed, Cond.instanceMethod yX3_changed, Cond.selects RX3 yX3_changed yX3_changed, Cond.code yX3_changed cX3_changed 4 (some .int), Cond.fieldLink RX3 36 "VersionTransModel" "notes" "[I", Cond.methodLink RX3 124 yX3_hasAbove, Cond.instanceMethod yX3_hasAbove, Cond.selects RX3 yX3_hasAbove yX3_hasAbove, Cond.code yX3_hasAbove cX3_hasAbove 4 (some .boolean), Cond.methodLink RX3 141 yX3_end, Cond.instanceMethod yX3_end, Cond.selects RX3 yX3_end yX3_end, Cond.code yX3_end cX3_end 7 none, Cond.fieldLink RX3 54 "VersionTransModel" "holders" "[I", Cond.fieldLink RX3 42 "VersionTransModel" "waitsFor" "[I", Cond.fieldLink RX3 51 "VersionTransModel" "since" "[I", Cond.fieldLink RX3 57 "VersionTransModel" "queue" "[I", Cond.fieldLink RX3 144 "VersionTransModel" "queueTo" "I", Cond.methodLink RX3 121 yX3_goOn, Cond.instanceMethod yX3_goOn, Cond.selects RX3 yX3_goOn yX3_goOn, Cond.code yX3_goOn cX3_goOn 2 none, Cond.fieldLink RX3 147 "VersionTransModel" "queueFrom" "I", Cond.fieldLink RX3 45 "VersionTransModel" "waitTriples" "[I"]
def wsX3_commit_r3 : List Cond := [Cond.fieldLink RX3 48 "VersionTransModel" "waitTells" "[Z", Cond.methodLink RX3 117 yX3_write, Cond.instanceMethod yX3_write, Cond.selects RX3 yX3_write yX3_write, Cond.code yX3_write cX3_write 4 none, Cond.fieldLink RX3 63 "VersionTransModel" "failures" "[I", Cond.fieldLink RX3 127 "VersionTransModel" "clock" "I", Cond.methodLink RX3 130 yX3_lookForRing, Cond.instanceMethod yX3_lookForRing, Cond.selects RX3 yX3_lookForRing yX3_lookForRing, Cond.code yX3_lookForRing cX3_lookForRing 4 none, Cond.methodLink RX3 134 yX3_takeRing, Cond.instanceMethod yX3_takeRing, Cond.selects RX3 yX3_takeRing yX3_takeRing, Cond.code yX3_takeRing cX3_takeRing 6 none, Cond.fieldLink RX3 138 "VersionTransModel" "ringSize" "I", Cond.fieldLink RX3 60 "VersionTransModel" "ring" "[I", Cond.methodLink RX3 103 yX3_isThere, Cond.instanceMethod yX3_isThere, Cond.selects RX3 yX3_isThere yX3_isThere, Cond.code yX3_isThere cX3_isThere 4 (some .boolean), Cond.methodLink RX3 85 yX3_rowOf, Cond.instanceMethod yX3_rowOf, Cond.selects RX3 yX3_rowOf yX3_rowOf]
def wsX3_commit_r4 : List Cond := [Cond.code yX3_rowOf cX3_rowOf 5 (some .int)]
def wsX3_commit : List Cond := .code yX3_commit cX3_commit 8 (some .int) :: ((wsX3_commit_r1 ++ (wsX3_commit_r2 ++ (wsX3_commit_r3 ++ wsX3_commit_r4))) ++ wsX30)
def wsX3_ring : List Cond := .code yX3_ring cX3_ring 2 (some .int) :: ([.fieldLink RX3 1 "VersionTransModel" "thrown" "I", .fieldLink RX3 138 "VersionTransModel" "ringSize" "I", .fieldLink RX3 60 "VersionTransModel" "ring" "[I"] ++ wsX30)
def wsX3_conflicts : List Cond := .code yX3_conflicts cX3_conflicts 3 (some .int) :: ([.fieldLink RX3 63 "VersionTransModel" "failures" "[I", .fieldLink RX3 66 "VersionTransModel" "refusals" "[I", .methodLink RX3 99 yX3_fails, .instanceMethod yX3_fails, .selects RX3 yX3_fails yX3_fails, .initialized RX3, .code yX3_fails cX3_fails 3 (some .boolean), .fieldLink RX3 1 "VersionTransModel" "thrown" "I"] ++ wsX30)
def wsJ9_min_7cf53 : List Cond := .code yJ9_min_7cf53 cJ9_min_7cf53 2 (some .int) :: ([])
def wsL_begin_r1 : List Cond := [Cond.classLink RL 13 "java/lang/IllegalStateException", Cond.methodLink RL 7 yX2_begin, Cond.instanceMethod yX2_begin, Cond.selects RX2 yX2_begin yX2_begin, Cond.initialized RX2, Cond.code yX2_begin cX2_begin 1 (some .int), Cond.fieldLink RX2 41 "VersionTrans" "latestVersion" "I", Cond.methodLink RX2 45 yX2_enter, Cond.instanceMethod yX2_enter, Cond.selects RX2 yX2_enter yX2_enter, Cond.code yX2_enter cX2_enter 4 (some .int), Cond.classLink RX2 168 "java/lang/IllegalStateException", Cond.initialized "java/lang/IllegalStateException", Cond.fieldLink RX2 144 "VersionTrans" "begun" "I", Cond.fieldLink RX2 11 "VersionTrans" "transactions" "[LVersionTrans$Transaction;", Cond.classLink RX2 9 RX1, Cond.instantiable RX1 11, Cond.initialized RX1, Cond.methodLink RX2 183 yX1_init, Cond.instanceMethod yX1_init, Cond.code yX1_init cX1_init 4 none, Cond.methodLink RX1 3 objectInit, Cond.instanceMethod objectInit, Cond.code objectInit ⟨#[0xb1]⟩ 1 none]
def wsL_begin_r2 : List Cond := [Cond.fieldLink RX1 9 "VersionTrans$Transaction" "number" "I", Cond.fieldLink RX1 15 "VersionTrans$Transaction" "writer" "Z", Cond.fieldLink RX1 19 "VersionTrans$Transaction" "sees" "I", Cond.arrayClass .boolean, Cond.fieldLink RX1 22 "VersionTrans$Transaction" "noted" "[Z", Cond.fieldLink RX1 26 "VersionTrans$Transaction" "state" "I"]
def wsL_begin : List Cond := .codeWith yL_begin cL_begin 3 (some .int) [(0, 8, 11, 13)] :: ((wsL_begin_r1 ++ wsL_begin_r2) ++ wsX20 ++ wsX10 ++ (vx_atS RX2 172 "java/lang/IllegalStateException" ["java/lang/RuntimeException", "java/lang/Exception"]).filter goodWord)
def wsL_look_r1 : List Cond := [Cond.classLink RL 19 "java/lang/IllegalArgumentException", Cond.classLink RL 13 "java/lang/IllegalStateException", Cond.methodLink RL 15 yX2_look, Cond.instanceMethod yX2_look, Cond.selects RX2 yX2_look yX2_look, Cond.initialized RX2, Cond.code yX2_look cX2_look 2 (some .int), Cond.methodLink RX2 49 yX2_requireVersion, Cond.instanceMethod yX2_requireVersion, Cond.selects RX2 yX2_requireVersion yX2_requireVersion, Cond.code yX2_requireVersion cX2_requireVersion 2 none, Cond.classLink RX2 147 "java/lang/IllegalArgumentException", Cond.initialized "java/lang/IllegalArgumentException", Cond.fieldLink RX2 41 "VersionTrans" "latestVersion" "I", Cond.methodLink RX2 117 yX2_leastKept, Cond.instanceMethod yX2_leastKept, Cond.selects RX2 yX2_leastKept yX2_leastKept, Cond.code yX2_leastKept cX2_leastKept 3 (some .int), Cond.fieldLink RX2 144 "VersionTrans" "begun" "I", Cond.fieldLink RX2 11 "VersionTrans" "transactions" "[LVersionTrans$Transaction;", Cond.fieldLink RX2 87 "VersionTrans$Transaction" "sees" "I", Cond.methodLink RX2 215 Lib.Math.min.name, Cond.static Lib.Math.min.name, Cond.initialized "java/lang/Math"]
def wsL_look_r2 : List Cond := [Cond.code Lib.Math.min.name Lib.Math.min.code 2 (some .int), Cond.fieldLink RX2 21 "VersionTrans" "pins" "[I", Cond.methodLink RX2 164 yX1_hasEnded, Cond.instanceMethod yX1_hasEnded, Cond.selects RX1 yX1_hasEnded yX1_hasEnded, Cond.initialized RX1, Cond.code yX1_hasEnded cX1_hasEnded 1 (some .boolean), Cond.fieldLink RX1 26 "VersionTrans$Transaction" "state" "I", Cond.methodLink RX2 45 yX2_enter, Cond.instanceMethod yX2_enter, Cond.selects RX2 yX2_enter yX2_enter, Cond.code yX2_enter cX2_enter 4 (some .int), Cond.classLink RX2 168 "java/lang/IllegalStateException", Cond.initialized "java/lang/IllegalStateException", Cond.classLink RX2 9 RX1, Cond.instantiable RX1 11, Cond.methodLink RX2 183 yX1_init, Cond.instanceMethod yX1_init, Cond.code yX1_init cX1_init 4 none, Cond.methodLink RX1 3 objectInit, Cond.instanceMethod objectInit, Cond.code objectInit ⟨#[0xb1]⟩ 1 none, Cond.fieldLink RX1 9 "VersionTrans$Transaction" "number" "I", Cond.fieldLink RX1 15 "VersionTrans$Transaction" "writer" "Z"]
def wsL_look_r3 : List Cond := [Cond.fieldLink RX1 19 "VersionTrans$Transaction" "sees" "I", Cond.arrayClass .boolean, Cond.fieldLink RX1 22 "VersionTrans$Transaction" "noted" "[Z"]
def wsL_look : List Cond := .codeWith yL_look cL_look 4 (some .int) [(0, 9, 12, 19), (0, 9, 15, 13)] :: ((wsL_look_r1 ++ (wsL_look_r2 ++ wsL_look_r3)) ++ wsX20 ++ wsX10 ++ (vx_atS RX2 151 "java/lang/IllegalArgumentException" ["java/lang/RuntimeException", "java/lang/Exception"]).filter goodWord ++ (vx_atS RX2 172 "java/lang/IllegalStateException" ["java/lang/RuntimeException", "java/lang/Exception"]).filter goodWord)
def wsL_put_r1 : List Cond := [Cond.classLink RL 19 "java/lang/IllegalArgumentException", Cond.classLink RL 13 "java/lang/IllegalStateException", Cond.methodLink RL 21 yX2_put, Cond.instanceMethod yX2_put, Cond.selects RX2 yX2_put yX2_put, Cond.initialized RX2, Cond.code yX2_put cX2_put 5 (some .int), Cond.methodLink RX2 53 yX2_known, Cond.instanceMethod yX2_known, Cond.selects RX2 yX2_known yX2_known, Cond.code yX2_known cX2_known 2 (some (.object "VersionTrans$Transaction")), Cond.classLink RX2 147 "java/lang/IllegalArgumentException", Cond.initialized "java/lang/IllegalArgumentException", Cond.fieldLink RX2 144 "VersionTrans" "begun" "I", Cond.fieldLink RX2 11 "VersionTrans" "transactions" "[LVersionTrans$Transaction;", Cond.methodLink RX2 57 yX2_requireTriple, Cond.static yX2_requireTriple, Cond.code yX2_requireTriple cX2_requireTriple 1 none, Cond.methodLink RX2 60 yX2_requireOpenWriter, Cond.static yX2_requireOpenWriter, Cond.code yX2_requireOpenWriter cX2_requireOpenWriter 1 none, Cond.classLink RX2 168 "java/lang/IllegalStateException", Cond.initialized "java/lang/IllegalStateException", Cond.fieldLink RX2 175 "VersionTrans$Transaction" "writer" "Z"]
def wsL_put_r2 : List Cond := [Cond.fieldLink RX2 128 "VersionTrans$Transaction" "state" "I", Cond.methodLink RX2 64 yX2_tryWrite, Cond.instanceMethod yX2_tryWrite, Cond.selects RX2 yX2_tryWrite yX2_tryWrite, Cond.code yX2_tryWrite cX2_tryWrite 4 none, Cond.fieldLink RX2 131 "VersionTrans$Transaction" "waitsFor" "LVersionTrans$Transaction;", Cond.fieldLink RX2 87 "VersionTrans$Transaction" "sees" "I", Cond.fieldLink RX2 32 "VersionTrans" "failedByTriple" "[I", Cond.fieldLink RX2 25 "VersionTrans" "holder" "[LVersionTrans$Transaction;", Cond.fieldLink RX2 28 "VersionTrans" "written" "[Z", Cond.methodLink RX2 202 yX2_isChangedSince, Cond.instanceMethod yX2_isChangedSince, Cond.selects RX2 yX2_isChangedSince yX2_isChangedSince, Cond.code yX2_isChangedSince cX2_isChangedSince 3 (some .boolean), Cond.fieldLink RX2 17 "VersionTrans" "newest" "[LVersionTrans$Row;", Cond.fieldLink RX2 205 "VersionTrans$Row" "version" "I", Cond.methodLink RX2 228 yX2_beginToWait, Cond.instanceMethod yX2_beginToWait, Cond.selects RX2 yX2_beginToWait yX2_beginToWait, Cond.code yX2_beginToWait cX2_beginToWait 5 none, Cond.fieldLink RX2 231 "VersionTrans" "waitsBegun" "I", Cond.fieldLink RX2 234 "VersionTrans$Transaction" "waitingTriple" "I", Cond.fieldLink RX2 237 "VersionTrans$Transaction" "waitingThere" "Z", Cond.fieldLink RX2 240 "VersionTrans$Transaction" "beganToWait" "I"]
def wsL_put_r3 : List Cond := [Cond.fieldLink RX2 38 "VersionTrans" "ringMembers" "[I", Cond.methodLink RX2 243 yX2_sizeOfRingThrough, Cond.instanceMethod yX2_sizeOfRingThrough, Cond.selects RX2 yX2_sizeOfRingThrough yX2_sizeOfRingThrough, Cond.code yX2_sizeOfRingThrough cX2_sizeOfRingThrough 4 (some .int), Cond.methodLink RX2 246 yX2_keepRing, Cond.instanceMethod yX2_keepRing, Cond.selects RX2 yX2_keepRing yX2_keepRing, Cond.code yX2_keepRing cX2_keepRing 5 none, Cond.fieldLink RX2 138 "VersionTrans" "ringSize" "I", Cond.fieldLink RX2 135 "VersionTrans$Transaction" "number" "I", Cond.methodLink RX2 249 yX2_addRingMember, Cond.instanceMethod yX2_addRingMember, Cond.selects RX2 yX2_addRingMember yX2_addRingMember, Cond.code yX2_addRingMember cX2_addRingMember 3 none, Cond.methodLink RX2 110 yX2_finish, Cond.instanceMethod yX2_finish, Cond.selects RX2 yX2_finish yX2_finish, Cond.code yX2_finish cX2_finish 4 none, Cond.methodLink RX2 186 yX2_queueThoseWaitingFor, Cond.instanceMethod yX2_queueThoseWaitingFor, Cond.selects RX2 yX2_queueThoseWaitingFor yX2_queueThoseWaitingFor, Cond.code yX2_queueThoseWaitingFor cX2_queueThoseWaitingFor 4 none, Cond.methodLink RX2 252 yX2_firstWaitingFor]
def wsL_put_r4 : List Cond := [Cond.instanceMethod yX2_firstWaitingFor, Cond.selects RX2 yX2_firstWaitingFor yX2_firstWaitingFor, Cond.code yX2_firstWaitingFor cX2_firstWaitingFor 6 (some (.object "VersionTrans$Transaction")), Cond.methodLink RX2 256 yX2_addToQueue, Cond.instanceMethod yX2_addToQueue, Cond.selects RX2 yX2_addToQueue yX2_addToQueue, Cond.code yX2_addToQueue cX2_addToQueue 2 none, Cond.fieldLink RX2 259 "VersionTrans$Transaction" "nextInQueue" "LVersionTrans$Transaction;", Cond.fieldLink RX2 262 "VersionTrans" "lastInQueue" "LVersionTrans$Transaction;", Cond.fieldLink RX2 265 "VersionTrans" "firstInQueue" "LVersionTrans$Transaction;", Cond.methodLink RX2 68 yX2_retryQueued, Cond.instanceMethod yX2_retryQueued, Cond.selects RX2 yX2_retryQueued yX2_retryQueued, Cond.code yX2_retryQueued cX2_retryQueued 3 none, Cond.methodLink RX2 71 yX2_outcomeOfWrite, Cond.static yX2_outcomeOfWrite, Cond.code yX2_outcomeOfWrite cX2_outcomeOfWrite 1 (some .int)]
def wsL_put : List Cond := .codeWith yL_put cL_put 6 (some .int) [(0, 12, 15, 19), (0, 12, 19, 13)] :: ((wsL_put_r1 ++ (wsL_put_r2 ++ (wsL_put_r3 ++ wsL_put_r4))) ++ wsX20 ++ wsX10 ++ wsX00 ++ (vx_atS RX2 151 "java/lang/IllegalArgumentException" ["java/lang/RuntimeException", "java/lang/Exception"]).filter goodWord ++ (vx_atS RX2 172 "java/lang/IllegalStateException" ["java/lang/RuntimeException", "java/lang/Exception"]).filter goodWord)
def wsL_note_r1 : List Cond := [Cond.classLink RL 19 "java/lang/IllegalArgumentException", Cond.classLink RL 13 "java/lang/IllegalStateException", Cond.methodLink RL 25 yX2_note, Cond.instanceMethod yX2_note, Cond.selects RX2 yX2_note yX2_note, Cond.initialized RX2, Cond.code yX2_note cX2_note 4 (some .int), Cond.fieldLink RX2 78 "VersionTrans$Transaction" "noted" "[Z", Cond.fieldLink RX2 81 "VersionTrans$Transaction" "notes" "I", Cond.methodLink RX2 53 yX2_known, Cond.instanceMethod yX2_known, Cond.selects RX2 yX2_known yX2_known, Cond.code yX2_known cX2_known 2 (some (.object "VersionTrans$Transaction")), Cond.classLink RX2 147 "java/lang/IllegalArgumentException", Cond.initialized "java/lang/IllegalArgumentException", Cond.fieldLink RX2 144 "VersionTrans" "begun" "I", Cond.fieldLink RX2 11 "VersionTrans" "transactions" "[LVersionTrans$Transaction;", Cond.methodLink RX2 75 yX2_requireGraph, Cond.static yX2_requireGraph, Cond.code yX2_requireGraph cX2_requireGraph 1 none, Cond.methodLink RX2 60 yX2_requireOpenWriter, Cond.static yX2_requireOpenWriter, Cond.code yX2_requireOpenWriter cX2_requireOpenWriter 1 none, Cond.classLink RX2 168 "java/lang/IllegalStateException"]
def wsL_note_r2 : List Cond := [Cond.initialized "java/lang/IllegalStateException", Cond.fieldLink RX2 175 "VersionTrans$Transaction" "writer" "Z", Cond.fieldLink RX2 128 "VersionTrans$Transaction" "state" "I"]
def wsL_note : List Cond := .codeWith yL_note cL_note 5 (some .int) [(0, 10, 13, 19), (0, 10, 17, 13)] :: ((wsL_note_r1 ++ wsL_note_r2) ++ wsX10 ++ wsX20 ++ (vx_atS RX2 151 "java/lang/IllegalArgumentException" ["java/lang/RuntimeException", "java/lang/Exception"]).filter goodWord ++ (vx_atS RX2 172 "java/lang/IllegalStateException" ["java/lang/RuntimeException", "java/lang/Exception"]).filter goodWord)
def wsL_read_r1 : List Cond := [Cond.classLink RL 19 "java/lang/IllegalArgumentException", Cond.classLink RL 13 "java/lang/IllegalStateException", Cond.methodLink RL 29 yX2_read, Cond.instanceMethod yX2_read, Cond.selects RX2 yX2_read yX2_read, Cond.initialized RX2, Cond.code yX2_read cX2_read 4 (some .boolean), Cond.fieldLink RX2 25 "VersionTrans" "holder" "[LVersionTrans$Transaction;", Cond.fieldLink RX2 28 "VersionTrans" "written" "[Z", Cond.fieldLink RX2 87 "VersionTrans$Transaction" "sees" "I", Cond.methodLink RX2 53 yX2_known, Cond.instanceMethod yX2_known, Cond.selects RX2 yX2_known yX2_known, Cond.code yX2_known cX2_known 2 (some (.object "VersionTrans$Transaction")), Cond.classLink RX2 147 "java/lang/IllegalArgumentException", Cond.initialized "java/lang/IllegalArgumentException", Cond.fieldLink RX2 144 "VersionTrans" "begun" "I", Cond.fieldLink RX2 11 "VersionTrans" "transactions" "[LVersionTrans$Transaction;", Cond.methodLink RX2 57 yX2_requireTriple, Cond.static yX2_requireTriple, Cond.code yX2_requireTriple cX2_requireTriple 1 none, Cond.methodLink RX2 84 yX2_requireNotEnded, Cond.static yX2_requireNotEnded, Cond.code yX2_requireNotEnded cX2_requireNotEnded 1 none]
def wsL_read_r2 : List Cond := [Cond.classLink RX2 168 "java/lang/IllegalStateException", Cond.initialized "java/lang/IllegalStateException", Cond.methodLink RX2 164 yX1_hasEnded, Cond.instanceMethod yX1_hasEnded, Cond.selects RX1 yX1_hasEnded yX1_hasEnded, Cond.initialized RX1, Cond.code yX1_hasEnded cX1_hasEnded 1 (some .boolean), Cond.fieldLink RX1 26 "VersionTrans$Transaction" "state" "I", Cond.methodLink RX2 90 yX2_isThere, Cond.instanceMethod yX2_isThere, Cond.selects RX2 yX2_isThere yX2_isThere, Cond.code yX2_isThere cX2_isThere 4 (some .boolean), Cond.fieldLink RX2 17 "VersionTrans" "newest" "[LVersionTrans$Row;", Cond.fieldLink RX2 205 "VersionTrans$Row" "version" "I", Cond.fieldLink RX2 208 "VersionTrans$Row" "older" "LVersionTrans$Row;", Cond.fieldLink RX2 212 "VersionTrans$Row" "there" "Z"]
def wsL_read : List Cond := .codeWith yL_read cL_read 5 (some .int) [(0, 17, 20, 19), (0, 17, 24, 13)] :: ((wsL_read_r1 ++ wsL_read_r2) ++ wsX20 ++ wsX10 ++ wsX00 ++ (vx_atS RX2 151 "java/lang/IllegalArgumentException" ["java/lang/RuntimeException", "java/lang/Exception"]).filter goodWord ++ (vx_atS RX2 172 "java/lang/IllegalStateException" ["java/lang/RuntimeException", "java/lang/Exception"]).filter goodWord)
def wsL_told_r1 : List Cond := [Cond.classLink RL 19 "java/lang/IllegalArgumentException", Cond.methodLink RL 33 yX2_told, Cond.instanceMethod yX2_told, Cond.selects RX2 yX2_told yX2_told, Cond.initialized RX2, Cond.code yX2_told cX2_told 3 (some .boolean), Cond.methodLink RX2 49 yX2_requireVersion, Cond.instanceMethod yX2_requireVersion, Cond.selects RX2 yX2_requireVersion yX2_requireVersion, Cond.code yX2_requireVersion cX2_requireVersion 2 none, Cond.classLink RX2 147 "java/lang/IllegalArgumentException", Cond.initialized "java/lang/IllegalArgumentException", Cond.fieldLink RX2 41 "VersionTrans" "latestVersion" "I", Cond.methodLink RX2 117 yX2_leastKept, Cond.instanceMethod yX2_leastKept, Cond.selects RX2 yX2_leastKept yX2_leastKept, Cond.code yX2_leastKept cX2_leastKept 3 (some .int), Cond.fieldLink RX2 144 "VersionTrans" "begun" "I", Cond.fieldLink RX2 11 "VersionTrans" "transactions" "[LVersionTrans$Transaction;", Cond.fieldLink RX2 87 "VersionTrans$Transaction" "sees" "I", Cond.methodLink RX2 215 Lib.Math.min.name, Cond.static Lib.Math.min.name, Cond.initialized "java/lang/Math", Cond.code Lib.Math.min.name Lib.Math.min.code 2 (some .int)]
def wsL_told_r2 : List Cond := [Cond.fieldLink RX2 21 "VersionTrans" "pins" "[I", Cond.methodLink RX2 164 yX1_hasEnded, Cond.instanceMethod yX1_hasEnded, Cond.selects RX1 yX1_hasEnded yX1_hasEnded, Cond.initialized RX1, Cond.code yX1_hasEnded cX1_hasEnded 1 (some .boolean), Cond.fieldLink RX1 26 "VersionTrans$Transaction" "state" "I", Cond.methodLink RX2 57 yX2_requireTriple, Cond.static yX2_requireTriple, Cond.code yX2_requireTriple cX2_requireTriple 1 none, Cond.methodLink RX2 90 yX2_isThere, Cond.instanceMethod yX2_isThere, Cond.selects RX2 yX2_isThere yX2_isThere, Cond.code yX2_isThere cX2_isThere 4 (some .boolean), Cond.fieldLink RX2 17 "VersionTrans" "newest" "[LVersionTrans$Row;", Cond.fieldLink RX2 205 "VersionTrans$Row" "version" "I", Cond.fieldLink RX2 208 "VersionTrans$Row" "older" "LVersionTrans$Row;", Cond.fieldLink RX2 212 "VersionTrans$Row" "there" "Z"]
def wsL_told : List Cond := .codeWith yL_told cL_told 5 (some .int) [(0, 17, 20, 19)] :: ((wsL_told_r1 ++ wsL_told_r2) ++ wsX20 ++ wsX10 ++ wsX00 ++ (vx_atS RX2 151 "java/lang/IllegalArgumentException" ["java/lang/RuntimeException", "java/lang/Exception"]).filter goodWord)
def wsL_commit_r1 : List Cond := [Cond.classLink RL 19 "java/lang/IllegalArgumentException", Cond.classLink RL 13 "java/lang/IllegalStateException", Cond.methodLink RL 36 yX2_commit, Cond.instanceMethod yX2_commit, Cond.selects RX2 yX2_commit yX2_commit, Cond.initialized RX2, Cond.code yX2_commit cX2_commit 4 (some .int), Cond.methodLink RX2 53 yX2_known, Cond.instanceMethod yX2_known, Cond.selects RX2 yX2_known yX2_known, Cond.code yX2_known cX2_known 2 (some (.object "VersionTrans$Transaction")), Cond.classLink RX2 147 "java/lang/IllegalArgumentException", Cond.initialized "java/lang/IllegalArgumentException", Cond.fieldLink RX2 144 "VersionTrans" "begun" "I", Cond.fieldLink RX2 11 "VersionTrans" "transactions" "[LVersionTrans$Transaction;", Cond.methodLink RX2 84 yX2_requireNotEnded, Cond.static yX2_requireNotEnded, Cond.code yX2_requireNotEnded cX2_requireNotEnded 1 none, Cond.classLink RX2 168 "java/lang/IllegalStateException", Cond.initialized "java/lang/IllegalStateException", Cond.methodLink RX2 164 yX1_hasEnded, Cond.instanceMethod yX1_hasEnded, Cond.selects RX1 yX1_hasEnded yX1_hasEnded, Cond.initialized RX1]
def wsL_commit_r2 : List Cond := [Cond.code yX1_hasEnded cX1_hasEnded 1 (some .boolean), Cond.fieldLink RX1 26 "VersionTrans$Transaction" "state" "I", Cond.methodLink RX2 94 yX2_requireNotWaiting, Cond.static yX2_requireNotWaiting, Cond.code yX2_requireNotWaiting cX2_requireNotWaiting 1 none, Cond.fieldLink RX2 128 "VersionTrans$Transaction" "state" "I", Cond.methodLink RX2 97 yX2_isRefused, Cond.instanceMethod yX2_isRefused, Cond.selects RX2 yX2_isRefused yX2_isRefused, Cond.code yX2_isRefused cX2_isRefused 2 (some .boolean), Cond.methodLink RX2 189 yX2_leastChangedNote, Cond.instanceMethod yX2_leastChangedNote, Cond.selects RX2 yX2_leastChangedNote yX2_leastChangedNote, Cond.code yX2_leastChangedNote cX2_leastChangedNote 3 (some .int), Cond.fieldLink RX2 78 "VersionTrans$Transaction" "noted" "[Z", Cond.fieldLink RX2 87 "VersionTrans$Transaction" "sees" "I", Cond.methodLink RX2 199 yX2_isGraphChangedSince, Cond.instanceMethod yX2_isGraphChangedSince, Cond.selects RX2 yX2_isGraphChangedSince yX2_isGraphChangedSince, Cond.code yX2_isGraphChangedSince cX2_isGraphChangedSince 5 (some .boolean), Cond.methodLink RX2 202 yX2_isChangedSince, Cond.instanceMethod yX2_isChangedSince, Cond.selects RX2 yX2_isChangedSince yX2_isChangedSince, Cond.code yX2_isChangedSince cX2_isChangedSince 3 (some .boolean)]
def wsL_commit_r3 : List Cond := [Cond.fieldLink RX2 17 "VersionTrans" "newest" "[LVersionTrans$Row;", Cond.fieldLink RX2 205 "VersionTrans$Row" "version" "I", Cond.methodLink RX2 101 yX2_giveUp, Cond.instanceMethod yX2_giveUp, Cond.selects RX2 yX2_giveUp yX2_giveUp, Cond.code yX2_giveUp cX2_giveUp 3 (some .int), Cond.fieldLink RX2 35 "VersionTrans" "refusedForGraph" "[I", Cond.methodLink RX2 110 yX2_finish, Cond.instanceMethod yX2_finish, Cond.selects RX2 yX2_finish yX2_finish, Cond.code yX2_finish cX2_finish 4 none, Cond.fieldLink RX2 131 "VersionTrans$Transaction" "waitsFor" "LVersionTrans$Transaction;", Cond.fieldLink RX2 25 "VersionTrans" "holder" "[LVersionTrans$Transaction;", Cond.methodLink RX2 186 yX2_queueThoseWaitingFor, Cond.instanceMethod yX2_queueThoseWaitingFor, Cond.selects RX2 yX2_queueThoseWaitingFor yX2_queueThoseWaitingFor, Cond.code yX2_queueThoseWaitingFor cX2_queueThoseWaitingFor 4 none, Cond.fieldLink RX2 240 "VersionTrans$Transaction" "beganToWait" "I", Cond.methodLink RX2 252 yX2_firstWaitingFor, Cond.instanceMethod yX2_firstWaitingFor, Cond.selects RX2 yX2_firstWaitingFor yX2_firstWaitingFor, Cond.code yX2_firstWaitingFor cX2_firstWaitingFor 6 (some (.object "VersionTrans$Transaction")), Cond.methodLink RX2 256 yX2_addToQueue, Cond.instanceMethod yX2_addToQueue]
def wsL_commit_r4 : List Cond := [Cond.selects RX2 yX2_addToQueue yX2_addToQueue, Cond.code yX2_addToQueue cX2_addToQueue 2 none, Cond.fieldLink RX2 259 "VersionTrans$Transaction" "nextInQueue" "LVersionTrans$Transaction;", Cond.fieldLink RX2 262 "VersionTrans" "lastInQueue" "LVersionTrans$Transaction;", Cond.fieldLink RX2 265 "VersionTrans" "firstInQueue" "LVersionTrans$Transaction;", Cond.methodLink RX2 104 yX2_makeVersion, Cond.instanceMethod yX2_makeVersion, Cond.selects RX2 yX2_makeVersion yX2_makeVersion, Cond.code yX2_makeVersion cX2_makeVersion 3 (some .int), Cond.fieldLink RX2 41 "VersionTrans" "latestVersion" "I", Cond.methodLink RX2 192 yX2_addChanges, Cond.instanceMethod yX2_addChanges, Cond.selects RX2 yX2_addChanges yX2_addChanges, Cond.code yX2_addChanges cX2_addChanges 5 (some .int), Cond.fieldLink RX2 28 "VersionTrans" "written" "[Z", Cond.classLink RX2 15 RX0, Cond.instantiable RX0 3, Cond.initialized RX0, Cond.fieldLink RX2 125 "VersionTrans" "rowCount" "I", Cond.methodLink RX2 90 yX2_isThere, Cond.instanceMethod yX2_isThere, Cond.selects RX2 yX2_isThere yX2_isThere, Cond.code yX2_isThere cX2_isThere 4 (some .boolean), Cond.fieldLink RX2 208 "VersionTrans$Row" "older" "LVersionTrans$Row;"]
def wsL_commit_r5 : List Cond := [Cond.fieldLink RX2 212 "VersionTrans$Row" "there" "Z", Cond.methodLink RX2 196 yX0_init, Cond.instanceMethod yX0_init, Cond.code yX0_init cX0_init 4 none, Cond.methodLink RX0 1 objectInit, Cond.instanceMethod objectInit, Cond.code objectInit ⟨#[0xb1]⟩ 1 none, Cond.fieldLink RX0 7 "VersionTrans$Row" "version" "I", Cond.fieldLink RX0 13 "VersionTrans$Row" "there" "Z", Cond.fieldLink RX0 17 "VersionTrans$Row" "older" "LVersionTrans$Row;", Cond.methodLink RX2 68 yX2_retryQueued, Cond.instanceMethod yX2_retryQueued, Cond.selects RX2 yX2_retryQueued yX2_retryQueued, Cond.code yX2_retryQueued cX2_retryQueued 3 none, Cond.fieldLink RX2 234 "VersionTrans$Transaction" "waitingTriple" "I", Cond.fieldLink RX2 237 "VersionTrans$Transaction" "waitingThere" "Z", Cond.methodLink RX2 64 yX2_tryWrite, Cond.instanceMethod yX2_tryWrite, Cond.selects RX2 yX2_tryWrite yX2_tryWrite, Cond.code yX2_tryWrite cX2_tryWrite 4 none, Cond.fieldLink RX2 32 "VersionTrans" "failedByTriple" "[I", Cond.methodLink RX2 228 yX2_beginToWait, Cond.instanceMethod yX2_beginToWait, Cond.selects RX2 yX2_beginToWait yX2_beginToWait]
def wsL_commit_r6 : List Cond := [Cond.code yX2_beginToWait cX2_beginToWait 5 none, Cond.fieldLink RX2 231 "VersionTrans" "waitsBegun" "I", Cond.fieldLink RX2 38 "VersionTrans" "ringMembers" "[I", Cond.methodLink RX2 243 yX2_sizeOfRingThrough, Cond.instanceMethod yX2_sizeOfRingThrough, Cond.selects RX2 yX2_sizeOfRingThrough yX2_sizeOfRingThrough, Cond.code yX2_sizeOfRingThrough cX2_sizeOfRingThrough 4 (some .int), Cond.methodLink RX2 246 yX2_keepRing, Cond.instanceMethod yX2_keepRing, Cond.selects RX2 yX2_keepRing yX2_keepRing, Cond.code yX2_keepRing cX2_keepRing 5 none, Cond.fieldLink RX2 138 "VersionTrans" "ringSize" "I", Cond.fieldLink RX2 135 "VersionTrans$Transaction" "number" "I", Cond.methodLink RX2 249 yX2_addRingMember, Cond.instanceMethod yX2_addRingMember, Cond.selects RX2 yX2_addRingMember yX2_addRingMember, Cond.code yX2_addRingMember cX2_addRingMember 3 none]
def wsL_commit : List Cond := .codeWith yL_commit cL_commit 4 (some .int) [(0, 9, 12, 19), (0, 9, 15, 13)] :: ((wsL_commit_r1 ++ (wsL_commit_r2 ++ (wsL_commit_r3 ++ (wsL_commit_r4 ++ (wsL_commit_r5 ++ wsL_commit_r6))))) ++ wsX20 ++ wsX10 ++ wsX00 ++ (vx_atS RX2 151 "java/lang/IllegalArgumentException" ["java/lang/RuntimeException", "java/lang/Exception"]).filter goodWord ++ (vx_atS RX2 172 "java/lang/IllegalStateException" ["java/lang/RuntimeException", "java/lang/Exception"]).filter goodWord)
def wsL_abort_r1 : List Cond := [Cond.classLink RL 19 "java/lang/IllegalArgumentException", Cond.classLink RL 13 "java/lang/IllegalStateException", Cond.methodLink RL 39 yX2_abort, Cond.instanceMethod yX2_abort, Cond.selects RX2 yX2_abort yX2_abort, Cond.initialized RX2, Cond.code yX2_abort cX2_abort 4 (some .int), Cond.methodLink RX2 53 yX2_known, Cond.instanceMethod yX2_known, Cond.selects RX2 yX2_known yX2_known, Cond.code yX2_known cX2_known 2 (some (.object "VersionTrans$Transaction")), Cond.classLink RX2 147 "java/lang/IllegalArgumentException", Cond.initialized "java/lang/IllegalArgumentException", Cond.fieldLink RX2 144 "VersionTrans" "begun" "I", Cond.fieldLink RX2 11 "VersionTrans" "transactions" "[LVersionTrans$Transaction;", Cond.methodLink RX2 84 yX2_requireNotEnded, Cond.static yX2_requireNotEnded, Cond.code yX2_requireNotEnded cX2_requireNotEnded 1 none, Cond.classLink RX2 168 "java/lang/IllegalStateException", Cond.initialized "java/lang/IllegalStateException", Cond.methodLink RX2 164 yX1_hasEnded, Cond.instanceMethod yX1_hasEnded, Cond.selects RX1 yX1_hasEnded yX1_hasEnded, Cond.initialized RX1]
def wsL_abort_r2 : List Cond := [Cond.code yX1_hasEnded cX1_hasEnded 1 (some .boolean), Cond.fieldLink RX1 26 "VersionTrans$Transaction" "state" "I", Cond.methodLink RX2 107 yX2_countOwnWrites, Cond.instanceMethod yX2_countOwnWrites, Cond.selects RX2 yX2_countOwnWrites yX2_countOwnWrites, Cond.code yX2_countOwnWrites cX2_countOwnWrites 4 (some .int), Cond.fieldLink RX2 25 "VersionTrans" "holder" "[LVersionTrans$Transaction;", Cond.methodLink RX2 110 yX2_finish, Cond.instanceMethod yX2_finish, Cond.selects RX2 yX2_finish yX2_finish, Cond.code yX2_finish cX2_finish 4 none, Cond.fieldLink RX2 128 "VersionTrans$Transaction" "state" "I", Cond.fieldLink RX2 131 "VersionTrans$Transaction" "waitsFor" "LVersionTrans$Transaction;", Cond.methodLink RX2 186 yX2_queueThoseWaitingFor, Cond.instanceMethod yX2_queueThoseWaitingFor, Cond.selects RX2 yX2_queueThoseWaitingFor yX2_queueThoseWaitingFor, Cond.code yX2_queueThoseWaitingFor cX2_queueThoseWaitingFor 4 none, Cond.fieldLink RX2 240 "VersionTrans$Transaction" "beganToWait" "I", Cond.methodLink RX2 252 yX2_firstWaitingFor, Cond.instanceMethod yX2_firstWaitingFor, Cond.selects RX2 yX2_firstWaitingFor yX2_firstWaitingFor, Cond.code yX2_firstWaitingFor cX2_firstWaitingFor 6 (some (.object "VersionTrans$Transaction")), Cond.methodLink RX2 256 yX2_addToQueue, Cond.instanceMethod yX2_addToQueue]
def wsL_abort_r3 : List Cond := [Cond.selects RX2 yX2_addToQueue yX2_addToQueue, Cond.code yX2_addToQueue cX2_addToQueue 2 none, Cond.fieldLink RX2 259 "VersionTrans$Transaction" "nextInQueue" "LVersionTrans$Transaction;", Cond.fieldLink RX2 262 "VersionTrans" "lastInQueue" "LVersionTrans$Transaction;", Cond.fieldLink RX2 265 "VersionTrans" "firstInQueue" "LVersionTrans$Transaction;", Cond.methodLink RX2 68 yX2_retryQueued, Cond.instanceMethod yX2_retryQueued, Cond.selects RX2 yX2_retryQueued yX2_retryQueued, Cond.code yX2_retryQueued cX2_retryQueued 3 none, Cond.fieldLink RX2 234 "VersionTrans$Transaction" "waitingTriple" "I", Cond.fieldLink RX2 237 "VersionTrans$Transaction" "waitingThere" "Z", Cond.methodLink RX2 64 yX2_tryWrite, Cond.instanceMethod yX2_tryWrite, Cond.selects RX2 yX2_tryWrite yX2_tryWrite, Cond.code yX2_tryWrite cX2_tryWrite 4 none, Cond.fieldLink RX2 87 "VersionTrans$Transaction" "sees" "I", Cond.fieldLink RX2 32 "VersionTrans" "failedByTriple" "[I", Cond.fieldLink RX2 28 "VersionTrans" "written" "[Z", Cond.methodLink RX2 202 yX2_isChangedSince, Cond.instanceMethod yX2_isChangedSince, Cond.selects RX2 yX2_isChangedSince yX2_isChangedSince, Cond.code yX2_isChangedSince cX2_isChangedSince 3 (some .boolean), Cond.fieldLink RX2 17 "VersionTrans" "newest" "[LVersionTrans$Row;", Cond.fieldLink RX2 205 "VersionTrans$Row" "version" "I"]
def wsL_abort_r4 : List Cond := [Cond.methodLink RX2 228 yX2_beginToWait, Cond.instanceMethod yX2_beginToWait, Cond.selects RX2 yX2_beginToWait yX2_beginToWait, Cond.code yX2_beginToWait cX2_beginToWait 5 none, Cond.fieldLink RX2 231 "VersionTrans" "waitsBegun" "I", Cond.fieldLink RX2 38 "VersionTrans" "ringMembers" "[I", Cond.methodLink RX2 243 yX2_sizeOfRingThrough, Cond.instanceMethod yX2_sizeOfRingThrough, Cond.selects RX2 yX2_sizeOfRingThrough yX2_sizeOfRingThrough, Cond.code yX2_sizeOfRingThrough cX2_sizeOfRingThrough 4 (some .int), Cond.methodLink RX2 246 yX2_keepRing, Cond.instanceMethod yX2_keepRing, Cond.selects RX2 yX2_keepRing yX2_keepRing, Cond.code yX2_keepRing cX2_keepRing 5 none, Cond.fieldLink RX2 138 "VersionTrans" "ringSize" "I", Cond.fieldLink RX2 135 "VersionTrans$Transaction" "number" "I", Cond.methodLink RX2 249 yX2_addRingMember, Cond.instanceMethod yX2_addRingMember, Cond.selects RX2 yX2_addRingMember yX2_addRingMember, Cond.code yX2_addRingMember cX2_addRingMember 3 none]
def wsL_abort : List Cond := .codeWith yL_abort cL_abort 4 (some .int) [(0, 9, 12, 19), (0, 9, 15, 13)] :: ((wsL_abort_r1 ++ (wsL_abort_r2 ++ (wsL_abort_r3 ++ wsL_abort_r4))) ++ wsX20 ++ wsX10 ++ wsX00 ++ (vx_atS RX2 151 "java/lang/IllegalArgumentException" ["java/lang/RuntimeException", "java/lang/Exception"]).filter goodWord ++ (vx_atS RX2 172 "java/lang/IllegalStateException" ["java/lang/RuntimeException", "java/lang/Exception"]).filter goodWord)
def wsL_pin_r1 : List Cond := [Cond.classLink RL 19 "java/lang/IllegalArgumentException", Cond.methodLink RL 42 yX2_pin, Cond.instanceMethod yX2_pin, Cond.selects RX2 yX2_pin yX2_pin, Cond.initialized RX2, Cond.code yX2_pin cX2_pin 2 (some .int), Cond.fieldLink RX2 21 "VersionTrans" "pins" "[I", Cond.methodLink RX2 49 yX2_requireVersion, Cond.instanceMethod yX2_requireVersion, Cond.selects RX2 yX2_requireVersion yX2_requireVersion, Cond.code yX2_requireVersion cX2_requireVersion 2 none, Cond.classLink RX2 147 "java/lang/IllegalArgumentException", Cond.initialized "java/lang/IllegalArgumentException", Cond.fieldLink RX2 41 "VersionTrans" "latestVersion" "I", Cond.methodLink RX2 117 yX2_leastKept, Cond.instanceMethod yX2_leastKept, Cond.selects RX2 yX2_leastKept yX2_leastKept, Cond.code yX2_leastKept cX2_leastKept 3 (some .int), Cond.fieldLink RX2 144 "VersionTrans" "begun" "I", Cond.fieldLink RX2 11 "VersionTrans" "transactions" "[LVersionTrans$Transaction;", Cond.fieldLink RX2 87 "VersionTrans$Transaction" "sees" "I", Cond.methodLink RX2 215 Lib.Math.min.name, Cond.static Lib.Math.min.name, Cond.initialized "java/lang/Math"]
def wsL_pin_r2 : List Cond := [Cond.code Lib.Math.min.name Lib.Math.min.code 2 (some .int), Cond.methodLink RX2 164 yX1_hasEnded, Cond.instanceMethod yX1_hasEnded, Cond.selects RX1 yX1_hasEnded yX1_hasEnded, Cond.initialized RX1, Cond.code yX1_hasEnded cX1_hasEnded 1 (some .boolean), Cond.fieldLink RX1 26 "VersionTrans$Transaction" "state" "I"]
def wsL_pin : List Cond := .codeWith yL_pin cL_pin 4 (some .int) [(0, 9, 12, 19)] :: ((wsL_pin_r1 ++ wsL_pin_r2) ++ wsX20 ++ wsX10 ++ (vx_atS RX2 151 "java/lang/IllegalArgumentException" ["java/lang/RuntimeException", "java/lang/Exception"]).filter goodWord)
def wsL_unpin : List Cond := .codeWith yL_unpin cL_unpin 4 (some .int) [(0, 9, 12, 19)] :: ([.classLink RL 19 "java/lang/IllegalArgumentException", .methodLink RL 45 yX2_unpin, .instanceMethod yX2_unpin, .selects RX2 yX2_unpin yX2_unpin, .initialized RX2, .code yX2_unpin cX2_unpin 2 (some .int), .fieldLink RX2 21 "VersionTrans" "pins" "[I", .methodLink RX2 114 yX2_requirePinned, .instanceMethod yX2_requirePinned, .selects RX2 yX2_requirePinned yX2_requirePinned, .code yX2_requirePinned cX2_requirePinned 2 none, .classLink RX2 147 "java/lang/IllegalArgumentException", .initialized "java/lang/IllegalArgumentException", .fieldLink RX2 41 "VersionTrans" "latestVersion" "I"] ++ wsX20 ++ (vx_atS RX2 151 "java/lang/IllegalArgumentException" ["java/lang/RuntimeException", "java/lang/Exception"]).filter goodWord)
def wsL_state : List Cond := .codeWith yL_state cL_state 4 (some .int) [(0, 9, 12, 19)] :: ([.classLink RL 19 "java/lang/IllegalArgumentException", .methodLink RL 48 yX2_state, .instanceMethod yX2_state, .selects RX2 yX2_state yX2_state, .initialized RX2, .code yX2_state cX2_state 2 (some .int), .fieldLink RX2 128 "VersionTrans$Transaction" "state" "I", .methodLink RX2 53 yX2_known, .instanceMethod yX2_known, .selects RX2 yX2_known yX2_known, .code yX2_known cX2_known 2 (some (.object "VersionTrans$Transaction")), .classLink RX2 147 "java/lang/IllegalArgumentException", .initialized "java/lang/IllegalArgumentException", .fieldLink RX2 144 "VersionTrans" "begun" "I", .fieldLink RX2 11 "VersionTrans" "transactions" "[LVersionTrans$Transaction;"] ++ wsX10 ++ wsX20 ++ (vx_atS RX2 151 "java/lang/IllegalArgumentException" ["java/lang/RuntimeException", "java/lang/Exception"]).filter goodWord)
def wsL_waits : List Cond := .codeWith yL_waits cL_waits 4 (some .int) [(0, 9, 12, 19)] :: ([.classLink RL 19 "java/lang/IllegalArgumentException", .methodLink RL 51 yX2_waits, .instanceMethod yX2_waits, .selects RX2 yX2_waits yX2_waits, .initialized RX2, .code yX2_waits cX2_waits 3 (some .int), .fieldLink RX2 131 "VersionTrans$Transaction" "waitsFor" "LVersionTrans$Transaction;", .fieldLink RX2 135 "VersionTrans$Transaction" "number" "I", .methodLink RX2 53 yX2_known, .instanceMethod yX2_known, .selects RX2 yX2_known yX2_known, .code yX2_known cX2_known 2 (some (.object "VersionTrans$Transaction")), .classLink RX2 147 "java/lang/IllegalArgumentException", .initialized "java/lang/IllegalArgumentException", .fieldLink RX2 144 "VersionTrans" "begun" "I", .fieldLink RX2 11 "VersionTrans" "transactions" "[LVersionTrans$Transaction;"] ++ wsX10 ++ wsX20 ++ (vx_atS RX2 151 "java/lang/IllegalArgumentException" ["java/lang/RuntimeException", "java/lang/Exception"]).filter goodWord)
def wsL_conflicts : List Cond := .codeWith yL_conflicts cL_conflicts 5 (some .int) [(0, 10, 13, 19)] :: ([.classLink RL 19 "java/lang/IllegalArgumentException", .methodLink RL 54 yX2_conflicts, .instanceMethod yX2_conflicts, .selects RX2 yX2_conflicts yX2_conflicts, .initialized RX2, .code yX2_conflicts cX2_conflicts 3 (some .int), .fieldLink RX2 32 "VersionTrans" "failedByTriple" "[I", .fieldLink RX2 35 "VersionTrans" "refusedForGraph" "[I", .methodLink RX2 141 yX2_requireKind, .static yX2_requireKind, .code yX2_requireKind cX2_requireKind 1 none, .classLink RX2 147 "java/lang/IllegalArgumentException", .initialized "java/lang/IllegalArgumentException", .methodLink RX2 57 yX2_requireTriple, .static yX2_requireTriple, .code yX2_requireTriple cX2_requireTriple 1 none, .methodLink RX2 75 yX2_requireGraph, .static yX2_requireGraph, .code yX2_requireGraph cX2_requireGraph 1 none] ++ wsX20 ++ (vx_atS RX2 151 "java/lang/IllegalArgumentException" ["java/lang/RuntimeException", "java/lang/Exception"]).filter goodWord)
def wsL_law0_r1 : List Cond := [Cond.classLink RL 8 RX2, Cond.instantiable RX2 15, Cond.initialized RX2, Cond.classLink RL 58 RX3, Cond.instantiable RX3 27, Cond.initialized RX3, Cond.arrayClass .long, Cond.methodLink RL 57 yX2_init, Cond.instanceMethod yX2_init, Cond.code yX2_init cX2_init 1 none, Cond.methodLink RX2 3 objectInit, Cond.instanceMethod objectInit, Cond.code objectInit ⟨#[0xb1]⟩ 1 none, Cond.classLink RX2 9 RX1, Cond.fieldLink RX2 11 "VersionTrans" "transactions" "[LVersionTrans$Transaction;", Cond.classLink RX2 15 RX0, Cond.fieldLink RX2 17 "VersionTrans" "newest" "[LVersionTrans$Row;", Cond.arrayClass .int, Cond.fieldLink RX2 21 "VersionTrans" "pins" "[I", Cond.fieldLink RX2 25 "VersionTrans" "holder" "[LVersionTrans$Transaction;", Cond.arrayClass .boolean, Cond.fieldLink RX2 28 "VersionTrans" "written" "[Z", Cond.fieldLink RX2 32 "VersionTrans" "failedByTriple" "[I", Cond.fieldLink RX2 35 "VersionTrans" "refusedForGraph" "[I"]
def wsL_law0_r2 : List Cond := [Cond.fieldLink RX2 38 "VersionTrans" "ringMembers" "[I", Cond.methodLink RL 60 yX3_init, Cond.instanceMethod yX3_init, Cond.code yX3_init cX3_init 2 none, Cond.methodLink RX3 7 objectInit, Cond.fieldLink RX3 13 "VersionTransModel" "rowTriples" "[I", Cond.fieldLink RX3 17 "VersionTransModel" "rowVersions" "[I", Cond.fieldLink RX3 20 "VersionTransModel" "rowTells" "[Z", Cond.fieldLink RX3 24 "VersionTransModel" "pins" "[I", Cond.fieldLink RX3 27 "VersionTransModel" "writers" "[Z", Cond.fieldLink RX3 30 "VersionTransModel" "sees" "[I", Cond.fieldLink RX3 33 "VersionTransModel" "states" "[I", Cond.fieldLink RX3 36 "VersionTransModel" "notes" "[I", Cond.fieldLink RX3 39 "VersionTransModel" "wrote" "[I", Cond.fieldLink RX3 42 "VersionTransModel" "waitsFor" "[I", Cond.fieldLink RX3 45 "VersionTransModel" "waitTriples" "[I", Cond.fieldLink RX3 48 "VersionTransModel" "waitTells" "[Z", Cond.fieldLink RX3 51 "VersionTransModel" "since" "[I", Cond.fieldLink RX3 54 "VersionTransModel" "holders" "[I", Cond.fieldLink RX3 57 "VersionTransModel" "queue" "[I", Cond.fieldLink RX3 60 "VersionTransModel" "ring" "[I", Cond.fieldLink RX3 63 "VersionTransModel" "failures" "[I", Cond.fieldLink RX3 66 "VersionTransModel" "refusals" "[I", Cond.fieldLink RX3 69 "VersionTransModel" "best" "[I"]
def wsL_law0_r3 : List Cond := [Cond.methodLink RL 61 yL_begin, Cond.static yL_begin, Cond.initialized RL, Cond.codeWith yL_begin cL_begin 3 (some .int) [(0, 8, 11, 13)], Cond.classLink RL 13 "java/lang/IllegalStateException", Cond.methodLink RL 7 yX2_begin, Cond.instanceMethod yX2_begin, Cond.selects RX2 yX2_begin yX2_begin, Cond.code yX2_begin cX2_begin 1 (some .int), Cond.fieldLink RX2 41 "VersionTrans" "latestVersion" "I", Cond.methodLink RX2 45 yX2_enter, Cond.instanceMethod yX2_enter, Cond.selects RX2 yX2_enter yX2_enter, Cond.code yX2_enter cX2_enter 4 (some .int), Cond.classLink RX2 168 "java/lang/IllegalStateException", Cond.initialized "java/lang/IllegalStateException", Cond.fieldLink RX2 144 "VersionTrans" "begun" "I", Cond.instantiable RX1 11, Cond.initialized RX1, Cond.methodLink RX2 183 yX1_init, Cond.instanceMethod yX1_init, Cond.code yX1_init cX1_init 4 none, Cond.methodLink RX1 3 objectInit, Cond.fieldLink RX1 9 "VersionTrans$Transaction" "number" "I"]
def wsL_law0_r4 : List Cond := [Cond.fieldLink RX1 15 "VersionTrans$Transaction" "writer" "Z", Cond.fieldLink RX1 19 "VersionTrans$Transaction" "sees" "I", Cond.fieldLink RX1 22 "VersionTrans$Transaction" "noted" "[Z", Cond.fieldLink RX1 26 "VersionTrans$Transaction" "state" "I", Cond.methodLink RL 66 yX3_begin, Cond.instanceMethod yX3_begin, Cond.selects RX3 yX3_begin yX3_begin, Cond.code yX3_begin cX3_begin 1 (some .int), Cond.fieldLink RX3 72 "VersionTransModel" "count" "I", Cond.fieldLink RX3 1 "VersionTransModel" "thrown" "I", Cond.fieldLink RX3 79 "VersionTransModel" "latest" "I", Cond.methodLink RX3 107 yX3_start, Cond.instanceMethod yX3_start, Cond.selects RX3 yX3_start yX3_start, Cond.code yX3_start cX3_start 3 (some .int), Cond.methodLink RL 67 yX3_thrown, Cond.instanceMethod yX3_thrown, Cond.selects RX3 yX3_thrown yX3_thrown, Cond.code yX3_thrown cX3_thrown 1 (some .int), Cond.methodLink RL 70 yL_look, Cond.static yL_look, Cond.codeWith yL_look cL_look 4 (some .int) [(0, 9, 12, 19), (0, 9, 15, 13)], Cond.classLink RL 19 "java/lang/IllegalArgumentException", Cond.methodLink RL 15 yX2_look]
def wsL_law0_r5 : List Cond := [Cond.instanceMethod yX2_look, Cond.selects RX2 yX2_look yX2_look, Cond.code yX2_look cX2_look 2 (some .int), Cond.methodLink RX2 49 yX2_requireVersion, Cond.instanceMethod yX2_requireVersion, Cond.selects RX2 yX2_requireVersion yX2_requireVersion, Cond.code yX2_requireVersion cX2_requireVersion 2 none, Cond.classLink RX2 147 "java/lang/IllegalArgumentException", Cond.initialized "java/lang/IllegalArgumentException", Cond.methodLink RX2 117 yX2_leastKept, Cond.instanceMethod yX2_leastKept, Cond.selects RX2 yX2_leastKept yX2_leastKept, Cond.code yX2_leastKept cX2_leastKept 3 (some .int), Cond.fieldLink RX2 87 "VersionTrans$Transaction" "sees" "I", Cond.methodLink RX2 215 Lib.Math.min.name, Cond.static Lib.Math.min.name, Cond.initialized "java/lang/Math", Cond.code Lib.Math.min.name Lib.Math.min.code 2 (some .int), Cond.methodLink RX2 164 yX1_hasEnded, Cond.instanceMethod yX1_hasEnded, Cond.selects RX1 yX1_hasEnded yX1_hasEnded, Cond.code yX1_hasEnded cX1_hasEnded 1 (some .boolean), Cond.methodLink RL 73 yX3_look, Cond.instanceMethod yX3_look]
def wsL_law0_r6 : List Cond := [Cond.selects RX3 yX3_look yX3_look, Cond.code yX3_look cX3_look 2 (some .int), Cond.methodLink RX3 93 yX3_isTellable, Cond.instanceMethod yX3_isTellable, Cond.selects RX3 yX3_isTellable yX3_isTellable, Cond.code yX3_isTellable cX3_isTellable 2 (some .boolean), Cond.methodLink RX3 75 yX3_leastKept, Cond.instanceMethod yX3_leastKept, Cond.selects RX3 yX3_leastKept yX3_leastKept, Cond.code yX3_leastKept cX3_leastKept 3 (some .int), Cond.methodLink RX3 89 yX3_isLive, Cond.instanceMethod yX3_isLive, Cond.selects RX3 yX3_isLive yX3_isLive, Cond.code yX3_isLive cX3_isLive 2 (some .boolean), Cond.methodLink RX3 99 yX3_fails, Cond.instanceMethod yX3_fails, Cond.selects RX3 yX3_fails yX3_fails, Cond.code yX3_fails cX3_fails 3 (some .boolean), Cond.methodLink RL 74 yL_put, Cond.static yL_put, Cond.codeWith yL_put cL_put 6 (some .int) [(0, 12, 15, 19), (0, 12, 19, 13)], Cond.methodLink RL 21 yX2_put, Cond.instanceMethod yX2_put, Cond.selects RX2 yX2_put yX2_put]
def wsL_law0_r7 : List Cond := [Cond.code yX2_put cX2_put 5 (some .int), Cond.methodLink RX2 53 yX2_known, Cond.instanceMethod yX2_known, Cond.selects RX2 yX2_known yX2_known, Cond.code yX2_known cX2_known 2 (some (.object "VersionTrans$Transaction")), Cond.methodLink RX2 57 yX2_requireTriple, Cond.static yX2_requireTriple, Cond.code yX2_requireTriple cX2_requireTriple 1 none, Cond.methodLink RX2 60 yX2_requireOpenWriter, Cond.static yX2_requireOpenWriter, Cond.code yX2_requireOpenWriter cX2_requireOpenWriter 1 none, Cond.fieldLink RX2 175 "VersionTrans$Transaction" "writer" "Z", Cond.fieldLink RX2 128 "VersionTrans$Transaction" "state" "I", Cond.methodLink RX2 64 yX2_tryWrite, Cond.instanceMethod yX2_tryWrite, Cond.selects RX2 yX2_tryWrite yX2_tryWrite, Cond.code yX2_tryWrite cX2_tryWrite 4 none, Cond.fieldLink RX2 131 "VersionTrans$Transaction" "waitsFor" "LVersionTrans$Transaction;", Cond.methodLink RX2 202 yX2_isChangedSince, Cond.instanceMethod yX2_isChangedSince, Cond.selects RX2 yX2_isChangedSince yX2_isChangedSince, Cond.code yX2_isChangedSince cX2_isChangedSince 3 (some .boolean), Cond.fieldLink RX2 205 "VersionTrans$Row" "version" "I", Cond.methodLink RX2 228 yX2_beginToWait]
def wsL_law0_r8 : List Cond := [Cond.instanceMethod yX2_beginToWait, Cond.selects RX2 yX2_beginToWait yX2_beginToWait, Cond.code yX2_beginToWait cX2_beginToWait 5 none, Cond.fieldLink RX2 231 "VersionTrans" "waitsBegun" "I", Cond.fieldLink RX2 234 "VersionTrans$Transaction" "waitingTriple" "I", Cond.fieldLink RX2 237 "VersionTrans$Transaction" "waitingThere" "Z", Cond.fieldLink RX2 240 "VersionTrans$Transaction" "beganToWait" "I", Cond.methodLink RX2 243 yX2_sizeOfRingThrough, Cond.instanceMethod yX2_sizeOfRingThrough, Cond.selects RX2 yX2_sizeOfRingThrough yX2_sizeOfRingThrough, Cond.code yX2_sizeOfRingThrough cX2_sizeOfRingThrough 4 (some .int), Cond.methodLink RX2 246 yX2_keepRing, Cond.instanceMethod yX2_keepRing, Cond.selects RX2 yX2_keepRing yX2_keepRing, Cond.code yX2_keepRing cX2_keepRing 5 none, Cond.fieldLink RX2 138 "VersionTrans" "ringSize" "I", Cond.fieldLink RX2 135 "VersionTrans$Transaction" "number" "I", Cond.methodLink RX2 249 yX2_addRingMember, Cond.instanceMethod yX2_addRingMember, Cond.selects RX2 yX2_addRingMember yX2_addRingMember, Cond.code yX2_addRingMember cX2_addRingMember 3 none, Cond.methodLink RX2 110 yX2_finish, Cond.instanceMethod yX2_finish, Cond.selects RX2 yX2_finish yX2_finish]
def wsL_law0_r9 : List Cond := [Cond.code yX2_finish cX2_finish 4 none, Cond.methodLink RX2 186 yX2_queueThoseWaitingFor, Cond.instanceMethod yX2_queueThoseWaitingFor, Cond.selects RX2 yX2_queueThoseWaitingFor yX2_queueThoseWaitingFor, Cond.code yX2_queueThoseWaitingFor cX2_queueThoseWaitingFor 4 none, Cond.methodLink RX2 252 yX2_firstWaitingFor, Cond.instanceMethod yX2_firstWaitingFor, Cond.selects RX2 yX2_firstWaitingFor yX2_firstWaitingFor, Cond.code yX2_firstWaitingFor cX2_firstWaitingFor 6 (some (.object "VersionTrans$Transaction")), Cond.methodLink RX2 256 yX2_addToQueue, Cond.instanceMethod yX2_addToQueue, Cond.selects RX2 yX2_addToQueue yX2_addToQueue, Cond.code yX2_addToQueue cX2_addToQueue 2 none, Cond.fieldLink RX2 259 "VersionTrans$Transaction" "nextInQueue" "LVersionTrans$Transaction;", Cond.fieldLink RX2 262 "VersionTrans" "lastInQueue" "LVersionTrans$Transaction;", Cond.fieldLink RX2 265 "VersionTrans" "firstInQueue" "LVersionTrans$Transaction;", Cond.methodLink RX2 68 yX2_retryQueued, Cond.instanceMethod yX2_retryQueued, Cond.selects RX2 yX2_retryQueued yX2_retryQueued, Cond.code yX2_retryQueued cX2_retryQueued 3 none, Cond.methodLink RX2 71 yX2_outcomeOfWrite, Cond.static yX2_outcomeOfWrite, Cond.code yX2_outcomeOfWrite cX2_outcomeOfWrite 1 (some .int), Cond.methodLink RL 77 yX3_put]
def wsL_law0_r10 : List Cond := [Cond.instanceMethod yX3_put, Cond.selects RX3 yX3_put yX3_put, Cond.code yX3_put cX3_put 6 (some .int), Cond.methodLink RX3 111 yX3_isTransaction, Cond.instanceMethod yX3_isTransaction, Cond.selects RX3 yX3_isTransaction yX3_isTransaction, Cond.code yX3_isTransaction cX3_isTransaction 2 (some .boolean), Cond.methodLink RX3 96 yX3_isTriple, Cond.static yX3_isTriple, Cond.code yX3_isTriple cX3_isTriple 1 (some .boolean), Cond.methodLink RX3 114 yX3_canWrite, Cond.instanceMethod yX3_canWrite, Cond.selects RX3 yX3_canWrite yX3_canWrite, Cond.code yX3_canWrite cX3_canWrite 2 (some .boolean), Cond.methodLink RX3 117 yX3_write, Cond.instanceMethod yX3_write, Cond.selects RX3 yX3_write yX3_write, Cond.code yX3_write cX3_write 4 none, Cond.fieldLink RX3 127 "VersionTransModel" "clock" "I", Cond.methodLink RX3 124 yX3_hasAbove, Cond.instanceMethod yX3_hasAbove, Cond.selects RX3 yX3_hasAbove yX3_hasAbove, Cond.code yX3_hasAbove cX3_hasAbove 4 (some .boolean), Cond.fieldLink RX3 82 "VersionTransModel" "rows" "I"]
def wsL_law0_r11 : List Cond := [Cond.methodLink RX3 130 yX3_lookForRing, Cond.instanceMethod yX3_lookForRing, Cond.selects RX3 yX3_lookForRing yX3_lookForRing, Cond.code yX3_lookForRing cX3_lookForRing 4 none, Cond.methodLink RX3 134 yX3_takeRing, Cond.instanceMethod yX3_takeRing, Cond.selects RX3 yX3_takeRing yX3_takeRing, Cond.code yX3_takeRing cX3_takeRing 6 none, Cond.fieldLink RX3 138 "VersionTransModel" "ringSize" "I", Cond.methodLink RX3 141 yX3_end, Cond.instanceMethod yX3_end, Cond.selects RX3 yX3_end yX3_end, Cond.code yX3_end cX3_end 7 none, Cond.fieldLink RX3 144 "VersionTransModel" "queueTo" "I", Cond.methodLink RX3 121 yX3_goOn, Cond.instanceMethod yX3_goOn, Cond.selects RX3 yX3_goOn yX3_goOn, Cond.code yX3_goOn cX3_goOn 2 none, Cond.fieldLink RX3 147 "VersionTransModel" "queueFrom" "I", Cond.methodLink RL 78 yL_note, Cond.static yL_note, Cond.codeWith yL_note cL_note 5 (some .int) [(0, 10, 13, 19), (0, 10, 17, 13)], Cond.methodLink RL 25 yX2_note, Cond.instanceMethod yX2_note]
def wsL_law0_r12 : List Cond := [Cond.selects RX2 yX2_note yX2_note, Cond.code yX2_note cX2_note 4 (some .int), Cond.fieldLink RX2 78 "VersionTrans$Transaction" "noted" "[Z", Cond.fieldLink RX2 81 "VersionTrans$Transaction" "notes" "I", Cond.methodLink RX2 75 yX2_requireGraph, Cond.static yX2_requireGraph, Cond.code yX2_requireGraph cX2_requireGraph 1 none, Cond.methodLink RL 81 yX3_note, Cond.instanceMethod yX3_note, Cond.selects RX3 yX3_note yX3_note, Cond.code yX3_note cX3_note 6 (some .int), Cond.methodLink RL 82 yL_read, Cond.static yL_read, Cond.codeWith yL_read cL_read 5 (some .int) [(0, 17, 20, 19), (0, 17, 24, 13)], Cond.methodLink RL 29 yX2_read, Cond.instanceMethod yX2_read, Cond.selects RX2 yX2_read yX2_read, Cond.code yX2_read cX2_read 4 (some .boolean), Cond.methodLink RX2 84 yX2_requireNotEnded, Cond.static yX2_requireNotEnded, Cond.code yX2_requireNotEnded cX2_requireNotEnded 1 none, Cond.methodLink RX2 90 yX2_isThere, Cond.instanceMethod yX2_isThere, Cond.selects RX2 yX2_isThere yX2_isThere]
def wsL_law0_r13 : List Cond := [Cond.code yX2_isThere cX2_isThere 4 (some .boolean), Cond.fieldLink RX2 208 "VersionTrans$Row" "older" "LVersionTrans$Row;", Cond.fieldLink RX2 212 "VersionTrans$Row" "there" "Z", Cond.methodLink RL 84 yX3_read, Cond.instanceMethod yX3_read, Cond.selects RX3 yX3_read yX3_read, Cond.code yX3_read cX3_read 5 (some .boolean), Cond.methodLink RX3 103 yX3_isThere, Cond.instanceMethod yX3_isThere, Cond.selects RX3 yX3_isThere yX3_isThere, Cond.code yX3_isThere cX3_isThere 4 (some .boolean), Cond.methodLink RX3 85 yX3_rowOf, Cond.instanceMethod yX3_rowOf, Cond.selects RX3 yX3_rowOf yX3_rowOf, Cond.code yX3_rowOf cX3_rowOf 5 (some .int), Cond.methodLink RL 85 yL_told, Cond.static yL_told, Cond.codeWith yL_told cL_told 5 (some .int) [(0, 17, 20, 19)], Cond.methodLink RL 33 yX2_told, Cond.instanceMethod yX2_told, Cond.selects RX2 yX2_told yX2_told, Cond.code yX2_told cX2_told 3 (some .boolean), Cond.methodLink RL 87 yX3_told, Cond.instanceMethod yX3_told]
def wsL_law0_r14 : List Cond := [Cond.selects RX3 yX3_told yX3_told, Cond.code yX3_told cX3_told 3 (some .boolean), Cond.methodLink RL 88 yL_commit, Cond.static yL_commit, Cond.codeWith yL_commit cL_commit 4 (some .int) [(0, 9, 12, 19), (0, 9, 15, 13)], Cond.methodLink RL 36 yX2_commit, Cond.instanceMethod yX2_commit, Cond.selects RX2 yX2_commit yX2_commit, Cond.code yX2_commit cX2_commit 4 (some .int), Cond.methodLink RX2 94 yX2_requireNotWaiting, Cond.static yX2_requireNotWaiting, Cond.code yX2_requireNotWaiting cX2_requireNotWaiting 1 none, Cond.methodLink RX2 97 yX2_isRefused, Cond.instanceMethod yX2_isRefused, Cond.selects RX2 yX2_isRefused yX2_isRefused, Cond.code yX2_isRefused cX2_isRefused 2 (some .boolean), Cond.methodLink RX2 189 yX2_leastChangedNote, Cond.instanceMethod yX2_leastChangedNote, Cond.selects RX2 yX2_leastChangedNote yX2_leastChangedNote, Cond.code yX2_leastChangedNote cX2_leastChangedNote 3 (some .int), Cond.methodLink RX2 199 yX2_isGraphChangedSince, Cond.instanceMethod yX2_isGraphChangedSince, Cond.selects RX2 yX2_isGraphChangedSince yX2_isGraphChangedSince, Cond.code yX2_isGraphChangedSince cX2_isGraphChangedSince 5 (some .boolean)]
def wsL_law0_r15 : List Cond := [Cond.methodLink RX2 101 yX2_giveUp, Cond.instanceMethod yX2_giveUp, Cond.selects RX2 yX2_giveUp yX2_giveUp, Cond.code yX2_giveUp cX2_giveUp 3 (some .int), Cond.methodLink RX2 104 yX2_makeVersion, Cond.instanceMethod yX2_makeVersion, Cond.selects RX2 yX2_makeVersion yX2_makeVersion, Cond.code yX2_makeVersion cX2_makeVersion 3 (some .int), Cond.methodLink RX2 192 yX2_addChanges, Cond.instanceMethod yX2_addChanges, Cond.selects RX2 yX2_addChanges yX2_addChanges, Cond.code yX2_addChanges cX2_addChanges 5 (some .int), Cond.instantiable RX0 3, Cond.initialized RX0, Cond.fieldLink RX2 125 "VersionTrans" "rowCount" "I", Cond.methodLink RX2 196 yX0_init, Cond.instanceMethod yX0_init, Cond.code yX0_init cX0_init 4 none, Cond.methodLink RX0 1 objectInit, Cond.fieldLink RX0 7 "VersionTrans$Row" "version" "I", Cond.fieldLink RX0 13 "VersionTrans$Row" "there" "Z", Cond.fieldLink RX0 17 "VersionTrans$Row" "older" "LVersionTrans$Row;", Cond.methodLink RL 90 yX3_commit, Cond.instanceMethod yX3_commit]
def wsL_law0_r16 : List Cond := [Cond.selects RX3 yX3_commit yX3_commit, Cond.code yX3_commit cX3_commit 8 (some .int), Cond.methodLink RX3 154 yX3_changed, Cond.instanceMethod yX3_changed, Cond.selects RX3 yX3_changed yX3_changed, Cond.code yX3_changed cX3_changed 4 (some .int), Cond.methodLink RL 91 yL_abort, Cond.static yL_abort, Cond.codeWith yL_abort cL_abort 4 (some .int) [(0, 9, 12, 19), (0, 9, 15, 13)], Cond.methodLink RL 39 yX2_abort, Cond.instanceMethod yX2_abort, Cond.selects RX2 yX2_abort yX2_abort, Cond.code yX2_abort cX2_abort 4 (some .int), Cond.methodLink RX2 107 yX2_countOwnWrites, Cond.instanceMethod yX2_countOwnWrites, Cond.selects RX2 yX2_countOwnWrites yX2_countOwnWrites, Cond.code yX2_countOwnWrites cX2_countOwnWrites 4 (some .int), Cond.methodLink RL 93 yX3_abort, Cond.instanceMethod yX3_abort, Cond.selects RX3 yX3_abort yX3_abort, Cond.code yX3_abort cX3_abort 3 (some .int), Cond.methodLink RX3 150 yX3_writes, Cond.instanceMethod yX3_writes, Cond.selects RX3 yX3_writes yX3_writes]
def wsL_law0_r17 : List Cond := [Cond.code yX3_writes cX3_writes 4 (some .int), Cond.methodLink RL 94 yL_pin, Cond.static yL_pin, Cond.codeWith yL_pin cL_pin 4 (some .int) [(0, 9, 12, 19)], Cond.methodLink RL 42 yX2_pin, Cond.instanceMethod yX2_pin, Cond.selects RX2 yX2_pin yX2_pin, Cond.code yX2_pin cX2_pin 2 (some .int), Cond.methodLink RL 96 yX3_pin, Cond.instanceMethod yX3_pin, Cond.selects RX3 yX3_pin yX3_pin, Cond.code yX3_pin cX3_pin 2 (some .int), Cond.methodLink RL 97 yL_unpin, Cond.static yL_unpin, Cond.codeWith yL_unpin cL_unpin 4 (some .int) [(0, 9, 12, 19)], Cond.methodLink RL 45 yX2_unpin, Cond.instanceMethod yX2_unpin, Cond.selects RX2 yX2_unpin yX2_unpin, Cond.code yX2_unpin cX2_unpin 2 (some .int), Cond.methodLink RX2 114 yX2_requirePinned, Cond.instanceMethod yX2_requirePinned, Cond.selects RX2 yX2_requirePinned yX2_requirePinned, Cond.code yX2_requirePinned cX2_requirePinned 2 none, Cond.methodLink RL 99 yX3_unpin]
def wsL_law0_r18 : List Cond := [Cond.instanceMethod yX3_unpin, Cond.selects RX3 yX3_unpin yX3_unpin, Cond.code yX3_unpin cX3_unpin 2 (some .int), Cond.methodLink RL 100 yX2_free, Cond.instanceMethod yX2_free, Cond.selects RX2 yX2_free yX2_free, Cond.code yX2_free cX2_free 4 (some .int), Cond.methodLink RX2 121 yX2_dropOldRows, Cond.instanceMethod yX2_dropOldRows, Cond.selects RX2 yX2_dropOldRows yX2_dropOldRows, Cond.code yX2_dropOldRows cX2_dropOldRows 6 (some .int), Cond.methodLink RX2 220 yX2_countRows, Cond.static yX2_countRows, Cond.code yX2_countRows cX2_countRows 3 (some .int), Cond.methodLink RX2 224 yX2_cutBelow, Cond.instanceMethod yX2_cutBelow, Cond.selects RX2 yX2_cutBelow yX2_cutBelow, Cond.code yX2_cutBelow cX2_cutBelow 3 none, Cond.methodLink RL 103 yX3_free, Cond.instanceMethod yX3_free, Cond.selects RX3 yX3_free yX3_free, Cond.code yX3_free cX3_free 7 (some .int), Cond.methodLink RL 104 yX2_rows, Cond.instanceMethod yX2_rows]
def wsL_law0_r19 : List Cond := [Cond.selects RX2 yX2_rows yX2_rows, Cond.code yX2_rows cX2_rows 1 (some .int), Cond.methodLink RL 107 yX3_rows, Cond.instanceMethod yX3_rows, Cond.selects RX3 yX3_rows yX3_rows, Cond.code yX3_rows cX3_rows 1 (some .int), Cond.methodLink RL 108 yX2_latest, Cond.instanceMethod yX2_latest, Cond.selects RX2 yX2_latest yX2_latest, Cond.code yX2_latest cX2_latest 1 (some .int), Cond.methodLink RL 111 yX3_latest, Cond.instanceMethod yX3_latest, Cond.selects RX3 yX3_latest yX3_latest, Cond.code yX3_latest cX3_latest 1 (some .int), Cond.methodLink RL 112 yX2_least, Cond.instanceMethod yX2_least, Cond.selects RX2 yX2_least yX2_least, Cond.code yX2_least cX2_least 1 (some .int), Cond.methodLink RL 115 yX3_least, Cond.instanceMethod yX3_least, Cond.selects RX3 yX3_least yX3_least, Cond.code yX3_least cX3_least 1 (some .int), Cond.methodLink RL 116 yL_state, Cond.static yL_state]
def wsL_law0_r20 : List Cond := [Cond.codeWith yL_state cL_state 4 (some .int) [(0, 9, 12, 19)], Cond.methodLink RL 48 yX2_state, Cond.instanceMethod yX2_state, Cond.selects RX2 yX2_state yX2_state, Cond.code yX2_state cX2_state 2 (some .int), Cond.methodLink RL 118 yX3_state, Cond.instanceMethod yX3_state, Cond.selects RX3 yX3_state yX3_state, Cond.code yX3_state cX3_state 2 (some .int), Cond.methodLink RL 119 yL_waits, Cond.static yL_waits, Cond.codeWith yL_waits cL_waits 4 (some .int) [(0, 9, 12, 19)], Cond.methodLink RL 51 yX2_waits, Cond.instanceMethod yX2_waits, Cond.selects RX2 yX2_waits yX2_waits, Cond.code yX2_waits cX2_waits 3 (some .int), Cond.methodLink RL 121 yX3_waits, Cond.instanceMethod yX3_waits, Cond.selects RX3 yX3_waits yX3_waits, Cond.code yX3_waits cX3_waits 2 (some .int), Cond.methodLink RL 122 yX2_ring, Cond.instanceMethod yX2_ring, Cond.selects RX2 yX2_ring yX2_ring, Cond.code yX2_ring cX2_ring 2 (some .int)]
def wsL_law0_r21 : List Cond := [Cond.methodLink RL 125 yX3_ring, Cond.instanceMethod yX3_ring, Cond.selects RX3 yX3_ring yX3_ring, Cond.code yX3_ring cX3_ring 2 (some .int), Cond.methodLink RL 126 yL_conflicts, Cond.static yL_conflicts, Cond.codeWith yL_conflicts cL_conflicts 5 (some .int) [(0, 10, 13, 19)], Cond.methodLink RL 54 yX2_conflicts, Cond.instanceMethod yX2_conflicts, Cond.selects RX2 yX2_conflicts yX2_conflicts, Cond.code yX2_conflicts cX2_conflicts 3 (some .int), Cond.methodLink RX2 141 yX2_requireKind, Cond.static yX2_requireKind, Cond.code yX2_requireKind cX2_requireKind 1 none, Cond.methodLink RL 128 yX3_conflicts, Cond.instanceMethod yX3_conflicts, Cond.selects RX3 yX3_conflicts yX3_conflicts, Cond.code yX3_conflicts cX3_conflicts 3 (some .int)]
def wsL_law0 : List Cond := (wsL_law0_r1 ++ (wsL_law0_r2 ++ (wsL_law0_r3 ++ (wsL_law0_r4 ++ (wsL_law0_r5 ++ (wsL_law0_r6 ++ (wsL_law0_r7 ++ (wsL_law0_r8 ++ (wsL_law0_r9 ++ (wsL_law0_r10 ++ (wsL_law0_r11 ++ (wsL_law0_r12 ++ (wsL_law0_r13 ++ (wsL_law0_r14 ++ (wsL_law0_r15 ++ (wsL_law0_r16 ++ (wsL_law0_r17 ++ (wsL_law0_r18 ++ (wsL_law0_r19 ++ (wsL_law0_r20 ++ wsL_law0_r21)))))))))))))))))))) ++ wsX20 ++ wsX30 ++ wsX10 ++ wsX00 ++ ([] : List Cond)
def wsL_law : List Cond := wsL_law0 ++ (vx_atS RX2 172 "java/lang/IllegalStateException" ["java/lang/RuntimeException", "java/lang/Exception"]).filter goodWord ++ (vx_atS RX2 151 "java/lang/IllegalArgumentException" ["java/lang/RuntimeException", "java/lang/Exception"]).filter goodWord
end
section
set_option maxRecDepth 20000 in
theorem wl_r1 : ∀ w ∈ wsL_law0_r1, w ∈ lw_tbl := fun w h => (goodIn_p wsL_law0_r1 [59, 62] (by decide +kernel) (by decide +kernel) w h).1
set_option maxRecDepth 20000 in
theorem wl_r2 : ∀ w ∈ wsL_law0_r2, w ∈ lw_tbl := fun w h => (goodIn_p wsL_law0_r2 [524] (by decide +kernel) (by decide +kernel) w h).1
set_option maxRecDepth 20000 in
theorem wl_r3 : ∀ w ∈ wsL_law0_r3, w ∈ lw_tbl := fun w h => (goodIn_p wsL_law0_r3 [164, 168, 239] (by decide +kernel) (by decide +kernel) w h).1
set_option maxRecDepth 20000 in
theorem wl_r4 : ∀ w ∈ wsL_law0_r4, w ∈ lw_tbl := fun w h => (goodIn_p wsL_law0_r4 [666, 670, 519] (by decide +kernel) (by decide +kernel) w h).1
set_option maxRecDepth 20000 in
theorem wl_r5 : ∀ w ∈ wsL_law0_r5, w ∈ lw_tbl := fun w h => (goodIn_p wsL_law0_r5 [287, 291, 122, 129, 126] (by decide +kernel) (by decide +kernel) w h).1
set_option maxRecDepth 20000 in
theorem wl_r6 : ∀ w ∈ wsL_law0_r6, w ∈ lw_tbl := fun w h => (goodIn_p wsL_law0_r6 [674, 635, 615, 619, 642] (by decide +kernel) (by decide +kernel) w h).1
set_option maxRecDepth 20000 in
theorem wl_r7 : ∀ w ∈ wsL_law0_r7, w ∈ lw_tbl := fun w h => (goodIn_p wsL_law0_r7 [314, 318, 322, 326, 331, 335] (by decide +kernel) (by decide +kernel) w h).1
set_option maxRecDepth 20000 in
theorem wl_r8 : ∀ w ∈ wsL_law0_r8, w ∈ lw_tbl := fun w h => (goodIn_p wsL_law0_r8 [339, 343, 347, 351] (by decide +kernel) (by decide +kernel) w h).1
set_option maxRecDepth 20000 in
theorem wl_r9 : ∀ w ∈ wsL_law0_r9, w ∈ lw_tbl := fun w h => (goodIn_p wsL_law0_r9 [355, 359, 363, 367, 371, 374] (by decide +kernel) (by decide +kernel) w h).1
set_option maxRecDepth 20000 in
theorem wl_r10 : ∀ w ∈ wsL_law0_r10, w ∈ lw_tbl := fun w h => (goodIn_p wsL_law0_r10 [702, 682, 638, 698, 706, 710] (by decide +kernel) (by decide +kernel) w h).1
set_option maxRecDepth 20000 in
theorem wl_r11 : ∀ w ∈ wsL_law0_r11, w ∈ lw_tbl := fun w h => (goodIn_p wsL_law0_r11 [714, 718, 722, 726] (by decide +kernel) (by decide +kernel) w h).1
set_option maxRecDepth 20000 in
theorem wl_r12 : ∀ w ∈ wsL_law0_r12, w ∈ lw_tbl := fun w h => (goodIn_p wsL_law0_r12 [381, 384, 694, 392, 395] (by decide +kernel) (by decide +kernel) w h).1
set_option maxRecDepth 20000 in
theorem wl_r13 : ∀ w ∈ wsL_law0_r13, w ∈ lw_tbl := fun w h => (goodIn_p wsL_law0_r13 [400, 690, 646, 650, 407] (by decide +kernel) (by decide +kernel) w h).1
set_option maxRecDepth 20000 in
theorem wl_r14 : ∀ w ∈ wsL_law0_r14, w ∈ lw_tbl := fun w h => (goodIn_p wsL_law0_r14 [631, 414, 417, 422, 426, 430] (by decide +kernel) (by decide +kernel) w h).1
set_option maxRecDepth 20000 in
theorem wl_r15 : ∀ w ∈ wsL_law0_r15, w ∈ lw_tbl := fun w h => (goodIn_p wsL_law0_r15 [434, 438, 442, 446] (by decide +kernel) (by decide +kernel) w h).1
set_option maxRecDepth 20000 in
theorem wl_r16 : ∀ w ∈ wsL_law0_r16, w ∈ lw_tbl := fun w h => (goodIn_p wsL_law0_r16 [738, 742, 467, 471, 730] (by decide +kernel) (by decide +kernel) w h).1
set_option maxRecDepth 20000 in
theorem wl_r17 : ∀ w ∈ wsL_law0_r17, w ∈ lw_tbl := fun w h => (goodIn_p wsL_law0_r17 [734, 478, 654, 485, 489] (by decide +kernel) (by decide +kernel) w h).1
set_option maxRecDepth 20000 in
theorem wl_r18 : ∀ w ∈ wsL_law0_r18, w ∈ lw_tbl := fun w h => (goodIn_p wsL_law0_r18 [658, 118, 133, 136, 140, 662] (by decide +kernel) (by decide +kernel) w h).1
set_option maxRecDepth 20000 in
theorem wl_r19 : ∀ w ∈ wsL_law0_r19, w ∈ lw_tbl := fun w h => (goodIn_p wsL_law0_r19 [144, 627, 148, 623, 152, 611] (by decide +kernel) (by decide +kernel) w h).1
set_option maxRecDepth 20000 in
theorem wl_r20 : ∀ w ∈ wsL_law0_r20, w ∈ lw_tbl := fun w h => (goodIn_p wsL_law0_r20 [497, 678, 504, 686, 156] (by decide +kernel) (by decide +kernel) w h).1
set_option maxRecDepth 20000 in
theorem wl_r21 : ∀ w ∈ wsL_law0_r21, w ∈ lw_tbl := fun w h => (goodIn_p wsL_law0_r21 [746, 511, 514, 750] (by decide +kernel) (by decide +kernel) w h).1
theorem wl_wsX20 : ∀ w ∈ wsX20, w ∈ lw_tbl := by decide +kernel
theorem wl_wsX30 : ∀ w ∈ wsX30, w ∈ lw_tbl := by decide +kernel
theorem wl_wsX10 : ∀ w ∈ wsX10, w ∈ lw_tbl := by decide +kernel
theorem wl_wsX00 : ∀ w ∈ wsX00, w ∈ lw_tbl := by decide +kernel
theorem wl_app {a b T : List Cond} (ha : ∀ w ∈ a, w ∈ T) (hb : ∀ w ∈ b, w ∈ T) : ∀ w ∈ a ++ b, w ∈ T := fun w h => (List.mem_append.mp h).elim (ha w) (hb w)
theorem wsL_law_in0 : ∀ w ∈ wsL_law0, w ∈ lw_tbl := wl_app (wl_app (wl_app (wl_app (wl_app (wl_app wl_r1 (wl_app wl_r2 (wl_app wl_r3 (wl_app wl_r4 (wl_app wl_r5 (wl_app wl_r6 (wl_app wl_r7 (wl_app wl_r8 (wl_app wl_r9 (wl_app wl_r10 (wl_app wl_r11 (wl_app wl_r12 (wl_app wl_r13 (wl_app wl_r14 (wl_app wl_r15 (wl_app wl_r16 (wl_app wl_r17 (wl_app wl_r18 (wl_app wl_r19 (wl_app wl_r20 wl_r21)))))))))))))))))))) wl_wsX20) wl_wsX30) wl_wsX10) wl_wsX00) (fun _ h => absurd h List.not_mem_nil)
theorem wsL_law_x0 : ∀ w ∈ (vx_atS RX2 172 "java/lang/IllegalStateException" ["java/lang/RuntimeException", "java/lang/Exception"]).filter goodWord, w ∈ lw_tbl := by decide +kernel
theorem wsL_law_x1 : ∀ w ∈ (vx_atS RX2 151 "java/lang/IllegalArgumentException" ["java/lang/RuntimeException", "java/lang/Exception"]).filter goodWord, w ∈ lw_tbl := by decide +kernel
theorem wsL_law_in : ∀ w ∈ wsL_law, w ∈ lw_tbl := fun w h => (List.mem_append.mp h).elim (fun h => (List.mem_append.mp h).elim (fun h => wsL_law_in0 w h) (fun h => wsL_law_x0 w h)) (fun h => wsL_law_x1 w h)
theorem inlX0 : ∀ w ∈ wsX00, w ∈ wsL_law := fun _ h => List.mem_append_left _ (List.mem_append_left _ (List.mem_append_left _ (List.mem_append_right _ h)))
theorem inX0 : ∀ w ∈ wsX00, w ∈ lw_tbl := fun w h => wsL_law_in w (inlX0 w h)
theorem inlX1 : ∀ w ∈ wsX10, w ∈ wsL_law := fun _ h => List.mem_append_left _ (List.mem_append_left _ (List.mem_append_left _ (List.mem_append_left _ (List.mem_append_right _ h))))
theorem inX1 : ∀ w ∈ wsX10, w ∈ lw_tbl := fun w h => wsL_law_in w (inlX1 w h)
theorem inlX2 : ∀ w ∈ wsX20, w ∈ wsL_law := fun _ h => List.mem_append_left _ (List.mem_append_left _ (List.mem_append_left _ (List.mem_append_left _ (List.mem_append_left _ (List.mem_append_left _ (List.mem_append_right _ h))))))
theorem inX2 : ∀ w ∈ wsX20, w ∈ lw_tbl := fun w h => wsL_law_in w (inlX2 w h)
theorem inlX3 : ∀ w ∈ wsX30, w ∈ wsL_law := fun _ h => List.mem_append_left _ (List.mem_append_left _ (List.mem_append_left _ (List.mem_append_left _ (List.mem_append_left _ (List.mem_append_right _ h)))))
theorem inX3 : ∀ w ∈ wsX30, w ∈ lw_tbl := fun w h => wsL_law_in w (inlX3 w h)
theorem inJ9 : ∀ w ∈ wsJ90, w ∈ lw_tbl := by decide +kernel
theorem inJ0 : ∀ w ∈ wsJ00, w ∈ lw_tbl := by decide +kernel
end
section
theorem dX0_init_0 : decode cX0_init 0 = .ok (.aload_n 0, 1) := by decide +kernel
theorem dX0_init_1 : decode cX0_init 1 = .ok (.invokespecial 1, 3) := by decide +kernel
theorem dX0_init_4 : decode cX0_init 4 = .ok (.aload_n 0, 1) := by decide +kernel
theorem dX0_init_5 : decode cX0_init 5 = .ok (.iload_n 1, 1) := by decide +kernel
theorem dX0_init_6 : decode cX0_init 6 = .ok (.putfield 7, 3) := by decide +kernel
theorem dX0_init_9 : decode cX0_init 9 = .ok (.aload_n 0, 1) := by decide +kernel
theorem dX0_init_10 : decode cX0_init 10 = .ok (.iload_n 2, 1) := by decide +kernel
theorem dX0_init_11 : decode cX0_init 11 = .ok (.putfield 13, 3) := by decide +kernel
theorem dX0_init_14 : decode cX0_init 14 = .ok (.aload_n 0, 1) := by decide +kernel
theorem dX0_init_15 : decode cX0_init 15 = .ok (.aload_n 3, 1) := by decide +kernel
theorem dX0_init_16 : decode cX0_init 16 = .ok (.putfield 17, 3) := by decide +kernel
theorem dX0_init_19 : decode cX0_init 19 = .ok (.return_, 1) := by decide +kernel
theorem dX1_init_0 : decode cX1_init 0 = .ok (.aload_n 0, 1) := by decide +kernel
theorem dX1_init_1 : decode cX1_init 1 = .ok (.invokespecial 3, 3) := by decide +kernel
theorem dX1_init_4 : decode cX1_init 4 = .ok (.aload_n 0, 1) := by decide +kernel
theorem dX1_init_5 : decode cX1_init 5 = .ok (.iload_n 1, 1) := by decide +kernel
theorem dX1_init_6 : decode cX1_init 6 = .ok (.putfield 9, 3) := by decide +kernel
theorem dX1_init_9 : decode cX1_init 9 = .ok (.aload_n 0, 1) := by decide +kernel
theorem dX1_init_10 : decode cX1_init 10 = .ok (.iload_n 2, 1) := by decide +kernel
theorem dX1_init_11 : decode cX1_init 11 = .ok (.putfield 15, 3) := by decide +kernel
theorem dX1_init_14 : decode cX1_init 14 = .ok (.aload_n 0, 1) := by decide +kernel
theorem dX1_init_15 : decode cX1_init 15 = .ok (.iload_n 3, 1) := by decide +kernel
theorem dX1_init_16 : decode cX1_init 16 = .ok (.putfield 19, 3) := by decide +kernel
theorem dX1_init_19 : decode cX1_init 19 = .ok (.aload_n 0, 1) := by decide +kernel
theorem dX1_init_20 : decode cX1_init 20 = .ok (.iconst 4, 1) := by decide +kernel
theorem dX1_init_21 : decode cX1_init 21 = .ok (.newarray .boolean, 2) := by decide +kernel
theorem dX1_init_23 : decode cX1_init 23 = .ok (.putfield 22, 3) := by decide +kernel
theorem dX1_init_26 : decode cX1_init 26 = .ok (.aload_n 0, 1) := by decide +kernel
theorem dX1_init_27 : decode cX1_init 27 = .ok (.iconst 0, 1) := by decide +kernel
theorem dX1_init_28 : decode cX1_init 28 = .ok (.putfield 26, 3) := by decide +kernel
theorem dX1_init_31 : decode cX1_init 31 = .ok (.return_, 1) := by decide +kernel
theorem dX1_hasEnded_0 : decode cX1_hasEnded 0 = .ok (.aload_n 0, 1) := by decide +kernel
theorem dX1_hasEnded_1 : decode cX1_hasEnded 1 = .ok (.getfield 26, 3) := by decide +kernel
theorem dX1_hasEnded_4 : decode cX1_hasEnded 4 = .ok (.iconst 3, 1) := by decide +kernel
theorem dX1_hasEnded_5 : decode cX1_hasEnded 5 = .ok (.if_icmp .eq 11, 3) := by decide +kernel
theorem dX1_hasEnded_8 : decode cX1_hasEnded 8 = .ok (.aload_n 0, 1) := by decide +kernel
theorem dX1_hasEnded_9 : decode cX1_hasEnded 9 = .ok (.getfield 26, 3) := by decide +kernel
theorem dX1_hasEnded_12 : decode cX1_hasEnded 12 = .ok (.iconst 4, 1) := by decide +kernel
theorem dX1_hasEnded_13 : decode cX1_hasEnded 13 = .ok (.if_icmp .ne 7, 3) := by decide +kernel
theorem dX1_hasEnded_16 : decode cX1_hasEnded 16 = .ok (.iconst 1, 1) := by decide +kernel
theorem dX1_hasEnded_17 : decode cX1_hasEnded 17 = .ok (.goto 4, 3) := by decide +kernel
theorem dX1_hasEnded_20 : decode cX1_hasEnded 20 = .ok (.iconst 0, 1) := by decide +kernel
theorem dX1_hasEnded_21 : decode cX1_hasEnded 21 = .ok (.ireturn, 1) := by decide +kernel
theorem dX2_init_0 : decode cX2_init 0 = .ok (.aload_n 0, 1) := by decide +kernel
theorem dX2_init_1 : decode cX2_init 1 = .ok (.invokespecial 3, 3) := by decide +kernel
theorem dX2_init_4 : decode cX2_init 4 = .ok (.aload_n 0, 1) := by decide +kernel
theorem dX2_init_5 : decode cX2_init 5 = .ok (.bipush 60, 2) := by decide +kernel
theorem dX2_init_7 : decode cX2_init 7 = .ok (.anewarray 9, 3) := by decide +kernel
theorem dX2_init_10 : decode cX2_init 10 = .ok (.putfield 11, 3) := by decide +kernel
theorem dX2_init_13 : decode cX2_init 13 = .ok (.aload_n 0, 1) := by decide +kernel
theorem dX2_init_14 : decode cX2_init 14 = .ok (.sipush 200, 3) := by decide +kernel
theorem dX2_init_17 : decode cX2_init 17 = .ok (.anewarray 15, 3) := by decide +kernel
theorem dX2_init_20 : decode cX2_init 20 = .ok (.putfield 17, 3) := by decide +kernel
theorem dX2_init_23 : decode cX2_init 23 = .ok (.aload_n 0, 1) := by decide +kernel
theorem dX2_init_24 : decode cX2_init 24 = .ok (.bipush 61, 2) := by decide +kernel
theorem dX2_init_26 : decode cX2_init 26 = .ok (.newarray .int, 2) := by decide +kernel
theorem dX2_init_28 : decode cX2_init 28 = .ok (.putfield 21, 3) := by decide +kernel
theorem dX2_init_31 : decode cX2_init 31 = .ok (.aload_n 0, 1) := by decide +kernel
theorem dX2_init_32 : decode cX2_init 32 = .ok (.sipush 200, 3) := by decide +kernel
theorem dX2_init_35 : decode cX2_init 35 = .ok (.anewarray 9, 3) := by decide +kernel
theorem dX2_init_38 : decode cX2_init 38 = .ok (.putfield 25, 3) := by decide +kernel
theorem dX2_init_41 : decode cX2_init 41 = .ok (.aload_n 0, 1) := by decide +kernel
theorem dX2_init_42 : decode cX2_init 42 = .ok (.sipush 200, 3) := by decide +kernel
theorem dX2_init_45 : decode cX2_init 45 = .ok (.newarray .boolean, 2) := by decide +kernel
theorem dX2_init_47 : decode cX2_init 47 = .ok (.putfield 28, 3) := by decide +kernel
theorem dX2_init_50 : decode cX2_init 50 = .ok (.aload_n 0, 1) := by decide +kernel
theorem dX2_init_51 : decode cX2_init 51 = .ok (.sipush 200, 3) := by decide +kernel
theorem dX2_init_54 : decode cX2_init 54 = .ok (.newarray .int, 2) := by decide +kernel
theorem dX2_init_56 : decode cX2_init 56 = .ok (.putfield 32, 3) := by decide +kernel
theorem dX2_init_59 : decode cX2_init 59 = .ok (.aload_n 0, 1) := by decide +kernel
theorem dX2_init_60 : decode cX2_init 60 = .ok (.iconst 4, 1) := by decide +kernel
theorem dX2_init_61 : decode cX2_init 61 = .ok (.newarray .int, 2) := by decide +kernel
theorem dX2_init_63 : decode cX2_init 63 = .ok (.putfield 35, 3) := by decide +kernel
theorem dX2_init_66 : decode cX2_init 66 = .ok (.aload_n 0, 1) := by decide +kernel
theorem dX2_init_67 : decode cX2_init 67 = .ok (.bipush 60, 2) := by decide +kernel
theorem dX2_init_69 : decode cX2_init 69 = .ok (.newarray .int, 2) := by decide +kernel
theorem dX2_init_71 : decode cX2_init 71 = .ok (.putfield 38, 3) := by decide +kernel
theorem dX2_init_74 : decode cX2_init 74 = .ok (.return_, 1) := by decide +kernel
set_option maxRecDepth 20000 in
theorem ggX2_begin_X2_enter : GoodIn wsX2_begin wsX2_enter := goodIn_ca (goodIn_r _ [6, 7, 8, 9, 10, 11, 12, 13, 14, 15, 16, 17, 18, 19, 20, 21, 22, 23, 24, 25, 26, 27, 28, 29, 30, 31, 32, 33, 34, 35, 36, 37, 38, 39, 40, 41, 42, 43, 44, 45, 46, 47, 48, 49, 50, 51] (by decide +kernel) (by decide +kernel)) (goodIn_sub (fun _ h => List.mem_cons_of_mem _ (List.mem_append_right _ h)) (by decide +kernel))
set_option maxRecDepth 20000 in
theorem gX2_begin_X2_enter : GoodIn wsX2_begin (wsV RX2 45 RX2 yX2_enter wsX2_enter) := goodIn_app (goodIn_of _ (by decide +kernel)) ggX2_begin_X2_enter
theorem dX2_begin_0 : decode cX2_begin 0 = .ok (.aload_n 0, 1) := by decide +kernel
theorem dX2_begin_1 : decode cX2_begin 1 = .ok (.iconst 1, 1) := by decide +kernel
theorem dX2_begin_2 : decode cX2_begin 2 = .ok (.aload_n 0, 1) := by decide +kernel
theorem dX2_begin_3 : decode cX2_begin 3 = .ok (.getfield 41, 3) := by decide +kernel
theorem dX2_begin_6 : decode cX2_begin 6 = .ok (.invokevirtual 45, 3) := by decide +kernel
theorem dX2_begin_9 : decode cX2_begin 9 = .ok (.ireturn, 1) := by decide +kernel
set_option maxRecDepth 20000 in
theorem ggX2_look_X2_requireVersion : GoodIn wsX2_look wsX2_requireVersion := goodIn_ca (goodIn_r _ [5, 6, 7, 8, 9, 10, 11, 4, 12, 13, 14, 15, 16, 17, 18, 19, 20, 21, 22, 23, 24, 25, 26, 46, 47, 48, 49, 50, 51, 52, 53, 54, 55, 56, 57, 58, 59, 60, 61, 62, 63, 64, 65, 66, 67, 68, 69, 70, 71] (by decide +kernel) (by decide +kernel)) (goodIn_sub (fun _ h => List.mem_cons_of_mem _ (List.mem_append_left _ (List.mem_append_right _ h))) (by decide +kernel))
set_option maxRecDepth 20000 in
theorem gX2_look_X2_requireVersion : GoodIn wsX2_look (wsV RX2 49 RX2 yX2_requireVersion wsX2_requireVersion) := goodIn_app (goodIn_of _ (by decide +kernel)) ggX2_look_X2_requireVersion
set_option maxRecDepth 20000 in
theorem ggX2_look_X2_enter : GoodIn wsX2_look wsX2_enter := goodIn_ca (goodIn_r _ [30, 31, 32, 13, 14, 33, 34, 24, 35, 36, 37, 38, 39, 40, 41, 42, 43, 44, 45, 26, 46, 47, 48, 49, 50, 51, 52, 53, 54, 55, 56, 57, 58, 59, 60, 61, 62, 63, 64, 65, 66, 67, 68, 69, 70, 71] (by decide +kernel) (by decide +kernel)) (goodIn_sub (fun _ h => List.mem_cons_of_mem _ (List.mem_append_right _ h)) (by decide +kernel))
set_option maxRecDepth 20000 in
theorem gX2_look_X2_enter : GoodIn wsX2_look (wsV RX2 45 RX2 yX2_enter wsX2_enter) := goodIn_app (goodIn_of _ (by decide +kernel)) ggX2_look_X2_enter
theorem dX2_look_0 : decode cX2_look 0 = .ok (.aload_n 0, 1) := by decide +kernel
theorem dX2_look_1 : decode cX2_look 1 = .ok (.iload_n 1, 1) := by decide +kernel
theorem dX2_look_2 : decode cX2_look 2 = .ok (.invokevirtual 49, 3) := by decide +kernel
theorem dX2_look_5 : decode cX2_look 5 = .ok (.aload_n 0, 1) := by decide +kernel
theorem dX2_look_6 : decode cX2_look 6 = .ok (.iconst 0, 1) := by decide +kernel
theorem dX2_look_7 : decode cX2_look 7 = .ok (.iload_n 1, 1) := by decide +kernel
theorem dX2_look_8 : decode cX2_look 8 = .ok (.invokevirtual 45, 3) := by decide +kernel
theorem dX2_look_11 : decode cX2_look 11 = .ok (.ireturn, 1) := by decide +kernel
set_option maxRecDepth 20000 in
theorem ggX2_put_X2_known : GoodIn wsX2_put wsX2_known := goodIn_ca (goodIn_r _ [5, 6, 7, 8, 9, 84, 85, 86, 87, 88, 89, 90, 91, 92, 93, 94, 95, 96, 97, 98] (by decide +kernel) (by decide +kernel)) (goodIn_sub (fun _ h => List.mem_cons_of_mem _ (List.mem_append_left _ (List.mem_append_right _ h))) (by decide +kernel))
set_option maxRecDepth 20000 in
theorem gX2_put_X2_known : GoodIn wsX2_put (wsV RX2 53 RX2 yX2_known wsX2_known) := goodIn_app (goodIn_of _ (by decide +kernel)) ggX2_put_X2_known
set_option maxRecDepth 20000 in
theorem ggX2_put_X2_requireTriple : GoodIn wsX2_put wsX2_requireTriple := goodIn_ca (goodIn_r _ [12, 6, 7] (by decide +kernel) (by decide +kernel)) (goodIn_sub (fun _ h => List.mem_cons_of_mem _ (List.mem_append_left _ (List.mem_append_right _ h))) (by decide +kernel))
set_option maxRecDepth 20000 in
theorem gX2_put_X2_requireTriple : GoodIn wsX2_put (va_wsS RX2 57 yX2_requireTriple wsX2_requireTriple) := goodIn_app (goodIn_of _ (by decide +kernel)) ggX2_put_X2_requireTriple
set_option maxRecDepth 20000 in
theorem ggX2_put_X2_requireOpenWriter : GoodIn wsX2_put wsX2_requireOpenWriter := goodIn_ca (goodIn_r _ [15, 16, 17, 18, 19, 99, 100, 101, 102, 103, 104, 105, 106, 107, 108, 109] (by decide +kernel) (by decide +kernel)) (goodIn_sub (fun _ h => List.mem_cons_of_mem _ (List.mem_append_right _ h)) (by decide +kernel))
set_option maxRecDepth 20000 in
theorem gX2_put_X2_requireOpenWriter : GoodIn wsX2_put (va_wsS RX2 60 yX2_requireOpenWriter wsX2_requireOpenWriter) := goodIn_app (goodIn_of _ (by decide +kernel)) ggX2_put_X2_requireOpenWriter
set_option maxRecDepth 20000 in
theorem ggX2_put_X2_tryWrite : GoodIn wsX2_put wsX2_tryWrite := goodIn_r _ [23, 19, 24, 25, 26, 27, 28, 29, 30, 31, 4, 32, 33, 34, 35, 36, 37, 38, 39, 40, 41, 42, 9, 43, 44, 45, 46, 47, 48, 49, 50, 51, 52, 53, 54, 55, 56, 57, 58, 59, 60, 61, 62, 63, 64, 65, 66, 67, 68, 69, 8, 70, 71, 72, 73, 74, 75, 76, 99, 100, 101, 102, 103, 104, 105, 106, 107, 108, 109, 84, 85, 86, 87, 88, 89, 90, 91, 92, 93, 94, 95, 96, 97, 98, 110, 111, 112] (by decide +kernel) (by decide +kernel)
set_option maxRecDepth 20000 in
theorem gX2_put_X2_tryWrite : GoodIn wsX2_put (wsV RX2 64 RX2 yX2_tryWrite wsX2_tryWrite) := goodIn_app (goodIn_of _ (by decide +kernel)) ggX2_put_X2_tryWrite
set_option maxRecDepth 20000 in
theorem ggX2_put_X2_retryQueued : GoodIn wsX2_put wsX2_retryQueued := goodIn_r _ [80, 76, 74, 75, 19, 40, 41, 20, 21, 22, 4, 23, 24, 25, 26, 27, 28, 29, 30, 31, 32, 33, 34, 35, 36, 37, 38, 39, 42, 9, 43, 44, 45, 46, 47, 48, 49, 50, 51, 52, 53, 54, 55, 56, 57, 58, 59, 60, 61, 62, 63, 64, 65, 66, 67, 68, 69, 8, 70, 71, 72, 73, 84, 85, 86, 87, 88, 89, 90, 91, 92, 93, 94, 95, 96, 97, 98, 99, 100, 101, 102, 103, 104, 105, 106, 107, 108, 109, 110, 111, 112] (by decide +kernel) (by decide +kernel)
set_option maxRecDepth 20000 in
theorem gX2_put_X2_retryQueued : GoodIn wsX2_put (wsV RX2 68 RX2 yX2_retryQueued wsX2_retryQueued) := goodIn_app (goodIn_of _ (by decide +kernel)) ggX2_put_X2_retryQueued
set_option maxRecDepth 20000 in
theorem ggX2_put_X2_outcomeOfWrite : GoodIn wsX2_put wsX2_outcomeOfWrite := goodIn_r _ [83, 19, 99, 100, 101, 102, 103, 104, 105, 106, 107, 108, 109] (by decide +kernel) (by decide +kernel)
set_option maxRecDepth 20000 in
theorem gX2_put_X2_outcomeOfWrite : GoodIn wsX2_put (va_wsS RX2 71 yX2_outcomeOfWrite wsX2_outcomeOfWrite) := goodIn_app (goodIn_of _ (by decide +kernel)) ggX2_put_X2_outcomeOfWrite
theorem dX2_put_0 : decode cX2_put 0 = .ok (.aload_n 0, 1) := by decide +kernel
theorem dX2_put_1 : decode cX2_put 1 = .ok (.iload_n 1, 1) := by decide +kernel
theorem dX2_put_2 : decode cX2_put 2 = .ok (.invokevirtual 53, 3) := by decide +kernel
theorem dX2_put_5 : decode cX2_put 5 = .ok (.astore 4, 2) := by decide +kernel
theorem dX2_put_7 : decode cX2_put 7 = .ok (.iload_n 2, 1) := by decide +kernel
theorem dX2_put_8 : decode cX2_put 8 = .ok (.invokestatic 57, 3) := by decide +kernel
theorem dX2_put_11 : decode cX2_put 11 = .ok (.aload 4, 2) := by decide +kernel
theorem dX2_put_13 : decode cX2_put 13 = .ok (.invokestatic 60, 3) := by decide +kernel
theorem dX2_put_16 : decode cX2_put 16 = .ok (.aload_n 0, 1) := by decide +kernel
theorem dX2_put_17 : decode cX2_put 17 = .ok (.aload 4, 2) := by decide +kernel
theorem dX2_put_19 : decode cX2_put 19 = .ok (.iload_n 2, 1) := by decide +kernel
theorem dX2_put_20 : decode cX2_put 20 = .ok (.iload_n 3, 1) := by decide +kernel
theorem dX2_put_21 : decode cX2_put 21 = .ok (.invokevirtual 64, 3) := by decide +kernel
theorem dX2_put_24 : decode cX2_put 24 = .ok (.aload_n 0, 1) := by decide +kernel
theorem dX2_put_25 : decode cX2_put 25 = .ok (.invokevirtual 68, 3) := by decide +kernel
theorem dX2_put_28 : decode cX2_put 28 = .ok (.aload 4, 2) := by decide +kernel
theorem dX2_put_30 : decode cX2_put 30 = .ok (.invokestatic 71, 3) := by decide +kernel
theorem dX2_put_33 : decode cX2_put 33 = .ok (.ireturn, 1) := by decide +kernel
set_option maxRecDepth 20000 in
theorem ggX2_note_X2_known : GoodIn wsX2_note wsX2_known := goodIn_ca (goodIn_r _ [7, 8, 9, 10, 11, 33, 34, 35, 36, 37, 38, 39, 40, 41, 42, 43, 44, 45, 46, 47] (by decide +kernel) (by decide +kernel)) (goodIn_sub (fun _ h => List.mem_cons_of_mem _ (List.mem_append_left _ (List.mem_append_right _ h))) (by decide +kernel))
set_option maxRecDepth 20000 in
theorem gX2_note_X2_known : GoodIn wsX2_note (wsV RX2 53 RX2 yX2_known wsX2_known) := goodIn_app (goodIn_of _ (by decide +kernel)) ggX2_note_X2_known
set_option maxRecDepth 20000 in
theorem ggX2_note_X2_requireGraph : GoodIn wsX2_note wsX2_requireGraph := goodIn_ca (goodIn_r _ [14, 8, 9] (by decide +kernel) (by decide +kernel)) (goodIn_sub (fun _ h => List.mem_cons_of_mem _ (List.mem_append_left _ (List.mem_append_right _ h))) (by decide +kernel))
set_option maxRecDepth 20000 in
theorem gX2_note_X2_requireGraph : GoodIn wsX2_note (va_wsS RX2 75 yX2_requireGraph wsX2_requireGraph) := goodIn_app (goodIn_of _ (by decide +kernel)) ggX2_note_X2_requireGraph
set_option maxRecDepth 20000 in
theorem ggX2_note_X2_requireOpenWriter : GoodIn wsX2_note wsX2_requireOpenWriter := goodIn_ca (goodIn_r _ [17, 18, 19, 20, 21, 22, 23, 24, 25, 26, 27, 28, 29, 30, 31, 32] (by decide +kernel) (by decide +kernel)) (goodIn_sub (fun _ h => List.mem_cons_of_mem _ (List.mem_append_right _ h)) (by decide +kernel))
set_option maxRecDepth 20000 in
theorem gX2_note_X2_requireOpenWriter : GoodIn wsX2_note (va_wsS RX2 60 yX2_requireOpenWriter wsX2_requireOpenWriter) := goodIn_app (goodIn_of _ (by decide +kernel)) ggX2_note_X2_requireOpenWriter
theorem dX2_note_0 : decode cX2_note 0 = .ok (.aload_n 0, 1) := by decide +kernel
theorem dX2_note_1 : decode cX2_note 1 = .ok (.iload_n 1, 1) := by decide +kernel
theorem dX2_note_2 : decode cX2_note 2 = .ok (.invokevirtual 53, 3) := by decide +kernel
theorem dX2_note_5 : decode cX2_note 5 = .ok (.astore_n 3, 1) := by decide +kernel
theorem dX2_note_6 : decode cX2_note 6 = .ok (.iload_n 2, 1) := by decide +kernel
theorem dX2_note_7 : decode cX2_note 7 = .ok (.invokestatic 75, 3) := by decide +kernel
theorem dX2_note_10 : decode cX2_note 10 = .ok (.aload_n 3, 1) := by decide +kernel
theorem dX2_note_11 : decode cX2_note 11 = .ok (.invokestatic 60, 3) := by decide +kernel
theorem dX2_note_14 : decode cX2_note 14 = .ok (.aload_n 3, 1) := by decide +kernel
theorem dX2_note_15 : decode cX2_note 15 = .ok (.getfield 78, 3) := by decide +kernel
theorem dX2_note_18 : decode cX2_note 18 = .ok (.iload_n 2, 1) := by decide +kernel
theorem dX2_note_19 : decode cX2_note 19 = .ok (.baload, 1) := by decide +kernel
theorem dX2_note_20 : decode cX2_note 20 = .ok (.ifCond .ne 20, 3) := by decide +kernel
theorem dX2_note_23 : decode cX2_note 23 = .ok (.aload_n 3, 1) := by decide +kernel
theorem dX2_note_24 : decode cX2_note 24 = .ok (.getfield 78, 3) := by decide +kernel
theorem dX2_note_27 : decode cX2_note 27 = .ok (.iload_n 2, 1) := by decide +kernel
theorem dX2_note_28 : decode cX2_note 28 = .ok (.iconst 1, 1) := by decide +kernel
theorem dX2_note_29 : decode cX2_note 29 = .ok (.bastore, 1) := by decide +kernel
theorem dX2_note_30 : decode cX2_note 30 = .ok (.aload_n 3, 1) := by decide +kernel
theorem dX2_note_31 : decode cX2_note 31 = .ok (.dup, 1) := by decide +kernel
theorem dX2_note_32 : decode cX2_note 32 = .ok (.getfield 81, 3) := by decide +kernel
theorem dX2_note_35 : decode cX2_note 35 = .ok (.iconst 1, 1) := by decide +kernel
theorem dX2_note_36 : decode cX2_note 36 = .ok (.iadd, 1) := by decide +kernel
theorem dX2_note_37 : decode cX2_note 37 = .ok (.putfield 81, 3) := by decide +kernel
theorem dX2_note_40 : decode cX2_note 40 = .ok (.aload_n 3, 1) := by decide +kernel
theorem dX2_note_41 : decode cX2_note 41 = .ok (.getfield 81, 3) := by decide +kernel
theorem dX2_note_44 : decode cX2_note 44 = .ok (.ireturn, 1) := by decide +kernel
set_option maxRecDepth 20000 in
theorem ggX2_read_X2_known : GoodIn wsX2_read wsX2_known := goodIn_ca (goodIn_r _ [8, 9, 10, 11, 12, 35, 36, 37, 38, 39, 40, 41, 42, 43, 44, 45, 46, 47, 48, 49] (by decide +kernel) (by decide +kernel)) (goodIn_sub (fun _ h => List.mem_cons_of_mem _ (List.mem_append_left _ (List.mem_append_right _ h))) (by decide +kernel))
set_option maxRecDepth 20000 in
theorem gX2_read_X2_known : GoodIn wsX2_read (wsV RX2 53 RX2 yX2_known wsX2_known) := goodIn_app (goodIn_of _ (by decide +kernel)) ggX2_read_X2_known
set_option maxRecDepth 20000 in
theorem ggX2_read_X2_requireTriple : GoodIn wsX2_read wsX2_requireTriple := goodIn_ca (goodIn_r _ [15, 9, 10] (by decide +kernel) (by decide +kernel)) (goodIn_sub (fun _ h => List.mem_cons_of_mem _ (List.mem_append_left _ (List.mem_append_right _ h))) (by decide +kernel))
set_option maxRecDepth 20000 in
theorem gX2_read_X2_requireTriple : GoodIn wsX2_read (va_wsS RX2 57 yX2_requireTriple wsX2_requireTriple) := goodIn_app (goodIn_of _ (by decide +kernel)) ggX2_read_X2_requireTriple
set_option maxRecDepth 20000 in
theorem ggX2_read_X2_requireNotEnded : GoodIn wsX2_read wsX2_requireNotEnded := goodIn_ca (goodIn_r _ [18, 19, 20, 21, 22, 23, 24, 25, 26, 50, 51, 52, 53, 54, 55, 56, 57, 58, 59, 60] (by decide +kernel) (by decide +kernel)) (goodIn_sub (fun _ h => List.mem_cons_of_mem _ (List.mem_append_right _ h)) (by decide +kernel))
set_option maxRecDepth 20000 in
theorem gX2_read_X2_requireNotEnded : GoodIn wsX2_read (va_wsS RX2 84 yX2_requireNotEnded wsX2_requireNotEnded) := goodIn_app (goodIn_of _ (by decide +kernel)) ggX2_read_X2_requireNotEnded
set_option maxRecDepth 20000 in
theorem ggX2_read_X2_isThere : GoodIn wsX2_read wsX2_isThere := goodIn_r _ [30, 31, 32, 33, 34, 35, 36, 37, 38, 39, 40, 41, 42, 43, 44, 45, 46, 47, 48, 49, 61, 62, 63] (by decide +kernel) (by decide +kernel)
set_option maxRecDepth 20000 in
theorem gX2_read_X2_isThere : GoodIn wsX2_read (wsV RX2 90 RX2 yX2_isThere wsX2_isThere) := goodIn_app (goodIn_of _ (by decide +kernel)) ggX2_read_X2_isThere
theorem dX2_read_0 : decode cX2_read 0 = .ok (.aload_n 0, 1) := by decide +kernel
theorem dX2_read_1 : decode cX2_read 1 = .ok (.iload_n 1, 1) := by decide +kernel
theorem dX2_read_2 : decode cX2_read 2 = .ok (.invokevirtual 53, 3) := by decide +kernel
theorem dX2_read_5 : decode cX2_read 5 = .ok (.astore_n 3, 1) := by decide +kernel
theorem dX2_read_6 : decode cX2_read 6 = .ok (.iload_n 2, 1) := by decide +kernel
theorem dX2_read_7 : decode cX2_read 7 = .ok (.invokestatic 57, 3) := by decide +kernel
theorem dX2_read_10 : decode cX2_read 10 = .ok (.aload_n 3, 1) := by decide +kernel
theorem dX2_read_11 : decode cX2_read 11 = .ok (.invokestatic 84, 3) := by decide +kernel
theorem dX2_read_14 : decode cX2_read 14 = .ok (.aload_n 0, 1) := by decide +kernel
theorem dX2_read_15 : decode cX2_read 15 = .ok (.getfield 25, 3) := by decide +kernel
theorem dX2_read_18 : decode cX2_read 18 = .ok (.iload_n 2, 1) := by decide +kernel
theorem dX2_read_19 : decode cX2_read 19 = .ok (.aaload, 1) := by decide +kernel
theorem dX2_read_20 : decode cX2_read 20 = .ok (.aload_n 3, 1) := by decide +kernel
theorem dX2_read_21 : decode cX2_read 21 = .ok (.if_acmp .ne 12, 3) := by decide +kernel
theorem dX2_read_24 : decode cX2_read 24 = .ok (.aload_n 0, 1) := by decide +kernel
theorem dX2_read_25 : decode cX2_read 25 = .ok (.getfield 28, 3) := by decide +kernel
theorem dX2_read_28 : decode cX2_read 28 = .ok (.iload_n 2, 1) := by decide +kernel
theorem dX2_read_29 : decode cX2_read 29 = .ok (.baload, 1) := by decide +kernel
theorem dX2_read_30 : decode cX2_read 30 = .ok (.goto 12, 3) := by decide +kernel
theorem dX2_read_33 : decode cX2_read 33 = .ok (.aload_n 0, 1) := by decide +kernel
theorem dX2_read_34 : decode cX2_read 34 = .ok (.iload_n 2, 1) := by decide +kernel
theorem dX2_read_35 : decode cX2_read 35 = .ok (.aload_n 3, 1) := by decide +kernel
theorem dX2_read_36 : decode cX2_read 36 = .ok (.getfield 87, 3) := by decide +kernel
theorem dX2_read_39 : decode cX2_read 39 = .ok (.invokevirtual 90, 3) := by decide +kernel
theorem dX2_read_42 : decode cX2_read 42 = .ok (.ireturn, 1) := by decide +kernel
set_option maxRecDepth 20000 in
theorem ggX2_told_X2_requireVersion : GoodIn wsX2_told wsX2_requireVersion := goodIn_ca (goodIn_r _ [5, 6, 7, 8, 9, 10, 11, 4, 12, 13, 14, 15, 16, 17, 18, 19, 20, 21, 22, 23, 24, 25, 26, 38, 39, 40, 41, 42, 43, 44, 45, 46, 47, 48, 49, 50, 51, 52, 53, 54, 55, 56, 57, 58, 59, 60, 61, 62, 63] (by decide +kernel) (by decide +kernel)) (goodIn_sub (fun _ h => List.mem_cons_of_mem _ (List.mem_append_right _ h)) (by decide +kernel))
set_option maxRecDepth 20000 in
theorem gX2_told_X2_requireVersion : GoodIn wsX2_told (wsV RX2 49 RX2 yX2_requireVersion wsX2_requireVersion) := goodIn_app (goodIn_of _ (by decide +kernel)) ggX2_told_X2_requireVersion
set_option maxRecDepth 20000 in
theorem ggX2_told_X2_requireTriple : GoodIn wsX2_told wsX2_requireTriple := goodIn_ca (goodIn_r _ [29, 6, 7] (by decide +kernel) (by decide +kernel)) (goodIn_sub (fun _ h => List.mem_cons_of_mem _ (List.mem_append_right _ h)) (by decide +kernel))
set_option maxRecDepth 20000 in
theorem gX2_told_X2_requireTriple : GoodIn wsX2_told (va_wsS RX2 57 yX2_requireTriple wsX2_requireTriple) := goodIn_app (goodIn_of _ (by decide +kernel)) ggX2_told_X2_requireTriple
set_option maxRecDepth 20000 in
theorem ggX2_told_X2_isThere : GoodIn wsX2_told wsX2_isThere := goodIn_r _ [33, 34, 35, 36, 37, 38, 39, 40, 41, 42, 43, 44, 45, 46, 47, 48, 49, 50, 51, 52, 64, 65, 66] (by decide +kernel) (by decide +kernel)
set_option maxRecDepth 20000 in
theorem gX2_told_X2_isThere : GoodIn wsX2_told (wsV RX2 90 RX2 yX2_isThere wsX2_isThere) := goodIn_app (goodIn_of _ (by decide +kernel)) ggX2_told_X2_isThere
theorem dX2_told_0 : decode cX2_told 0 = .ok (.aload_n 0, 1) := by decide +kernel
theorem dX2_told_1 : decode cX2_told 1 = .ok (.iload_n 1, 1) := by decide +kernel
theorem dX2_told_2 : decode cX2_told 2 = .ok (.invokevirtual 49, 3) := by decide +kernel
theorem dX2_told_5 : decode cX2_told 5 = .ok (.iload_n 2, 1) := by decide +kernel
theorem dX2_told_6 : decode cX2_told 6 = .ok (.invokestatic 57, 3) := by decide +kernel
theorem dX2_told_9 : decode cX2_told 9 = .ok (.aload_n 0, 1) := by decide +kernel
theorem dX2_told_10 : decode cX2_told 10 = .ok (.iload_n 2, 1) := by decide +kernel
theorem dX2_told_11 : decode cX2_told 11 = .ok (.iload_n 1, 1) := by decide +kernel
theorem dX2_told_12 : decode cX2_told 12 = .ok (.invokevirtual 90, 3) := by decide +kernel
theorem dX2_told_15 : decode cX2_told 15 = .ok (.ireturn, 1) := by decide +kernel
set_option maxRecDepth 20000 in
theorem ggX2_commit_X2_known : GoodIn wsX2_commit wsX2_known := goodIn_ca (goodIn_r _ [5, 6, 7, 8, 9, 132, 133, 134, 135, 136, 137, 138, 139, 140, 141, 142, 143, 144, 145, 146] (by decide +kernel) (by decide +kernel)) (goodIn_sub (fun _ h => List.mem_cons_of_mem _ (List.mem_append_left _ (List.mem_append_right _ h))) (by decide +kernel))
set_option maxRecDepth 20000 in
theorem gX2_commit_X2_known : GoodIn wsX2_commit (wsV RX2 53 RX2 yX2_known wsX2_known) := goodIn_app (goodIn_of _ (by decide +kernel)) ggX2_commit_X2_known
set_option maxRecDepth 20000 in
theorem ggX2_commit_X2_requireNotEnded : GoodIn wsX2_commit wsX2_requireNotEnded := goodIn_ca (goodIn_r _ [12, 13, 14, 15, 16, 17, 18, 19, 20, 147, 148, 149, 150, 151, 152, 153, 154, 155, 156, 157] (by decide +kernel) (by decide +kernel)) (goodIn_sub (fun _ h => List.mem_cons_of_mem _ (List.mem_append_right _ h)) (by decide +kernel))
set_option maxRecDepth 20000 in
theorem gX2_commit_X2_requireNotEnded : GoodIn wsX2_commit (va_wsS RX2 84 yX2_requireNotEnded wsX2_requireNotEnded) := goodIn_app (goodIn_of _ (by decide +kernel)) ggX2_commit_X2_requireNotEnded
set_option maxRecDepth 20000 in
theorem ggX2_commit_X2_requireNotWaiting : GoodIn wsX2_commit wsX2_requireNotWaiting := goodIn_ca (goodIn_r _ [23, 13, 14, 24, 147, 148, 149, 150, 151, 152, 153, 154, 155, 156, 157] (by decide +kernel) (by decide +kernel)) (goodIn_sub (fun _ h => List.mem_cons_of_mem _ (List.mem_append_right _ h)) (by decide +kernel))
set_option maxRecDepth 20000 in
theorem gX2_commit_X2_requireNotWaiting : GoodIn wsX2_commit (va_wsS RX2 94 yX2_requireNotWaiting wsX2_requireNotWaiting) := goodIn_app (goodIn_of _ (by decide +kernel)) ggX2_commit_X2_requireNotWaiting
set_option maxRecDepth 20000 in
theorem ggX2_commit_X2_isRefused : GoodIn wsX2_commit wsX2_isRefused := goodIn_r _ [28, 24, 29, 30, 31, 4, 32, 33, 34, 35, 36, 37, 38, 39, 40, 41, 42, 43, 44, 147, 148, 149, 150, 151, 152, 153, 154, 155, 156, 157, 132, 133, 134, 135, 136, 137, 138, 139, 140, 141, 142, 143, 144, 145, 146, 158, 159, 160] (by decide +kernel) (by decide +kernel)
set_option maxRecDepth 20000 in
theorem gX2_commit_X2_isRefused : GoodIn wsX2_commit (wsV RX2 97 RX2 yX2_isRefused wsX2_isRefused) := goodIn_app (goodIn_of _ (by decide +kernel)) ggX2_commit_X2_isRefused
set_option maxRecDepth 20000 in
theorem ggX2_commit_X2_giveUp : GoodIn wsX2_commit wsX2_giveUp := goodIn_r _ [48, 24, 49, 29, 30, 31, 4, 32, 33, 34, 35, 36, 37, 38, 39, 40, 41, 42, 43, 44, 50, 51, 52, 53, 54, 55, 56, 57, 58, 59, 60, 61, 62, 63, 64, 8, 9, 65, 66, 67, 68, 69, 70, 71, 147, 148, 149, 150, 151, 152, 153, 154, 155, 156, 157, 132, 133, 134, 135, 136, 137, 138, 139, 140, 141, 142, 143, 144, 145, 146, 158, 159, 160] (by decide +kernel) (by decide +kernel)
set_option maxRecDepth 20000 in
theorem gX2_commit_X2_giveUp : GoodIn wsX2_commit (wsV RX2 101 RX2 yX2_giveUp wsX2_giveUp) := goodIn_app (goodIn_of _ (by decide +kernel)) ggX2_commit_X2_giveUp
set_option maxRecDepth 20000 in
theorem ggX2_commit_X2_makeVersion : GoodIn wsX2_commit wsX2_makeVersion := goodIn_r _ [75, 76, 34, 77, 78, 79, 4, 80, 55, 81, 43, 82, 83, 84, 85, 86, 87, 88, 89, 44, 90, 91, 92, 93, 94, 95, 96, 97, 98, 99, 100, 50, 51, 52, 53, 24, 54, 56, 57, 58, 59, 60, 61, 62, 63, 64, 8, 9, 65, 66, 67, 68, 69, 70, 71, 132, 133, 134, 135, 136, 137, 138, 139, 140, 141, 142, 143, 144, 145, 146, 147, 148, 149, 150, 151, 152, 153, 154, 155, 156, 157, 158, 159, 160] (by decide +kernel) (by decide +kernel)
set_option maxRecDepth 20000 in
theorem gX2_commit_X2_makeVersion : GoodIn wsX2_commit (wsV RX2 104 RX2 yX2_makeVersion wsX2_makeVersion) := goodIn_app (goodIn_of _ (by decide +kernel)) ggX2_commit_X2_makeVersion
set_option maxRecDepth 20000 in
theorem ggX2_commit_X2_retryQueued : GoodIn wsX2_commit wsX2_retryQueued := goodIn_r _ [104, 71, 69, 70, 24, 105, 106, 107, 108, 109, 4, 110, 54, 34, 111, 55, 81, 39, 40, 41, 42, 43, 44, 112, 113, 114, 115, 116, 60, 9, 117, 118, 119, 120, 121, 122, 123, 124, 125, 126, 127, 128, 129, 130, 131, 50, 51, 52, 53, 56, 57, 58, 59, 61, 62, 63, 64, 8, 65, 66, 67, 68, 132, 133, 134, 135, 136, 137, 138, 139, 140, 141, 142, 143, 144, 145, 146, 147, 148, 149, 150, 151, 152, 153, 154, 155, 156, 157, 158, 159, 160] (by decide +kernel) (by decide +kernel)
set_option maxRecDepth 20000 in
theorem gX2_commit_X2_retryQueued : GoodIn wsX2_commit (wsV RX2 68 RX2 yX2_retryQueued wsX2_retryQueued) := goodIn_app (goodIn_of _ (by decide +kernel)) ggX2_commit_X2_retryQueued
theorem dX2_commit_0 : decode cX2_commit 0 = .ok (.aload_n 0, 1) := by decide +kernel
theorem dX2_commit_1 : decode cX2_commit 1 = .ok (.iload_n 1, 1) := by decide +kernel
theorem dX2_commit_2 : decode cX2_commit 2 = .ok (.invokevirtual 53, 3) := by decide +kernel
theorem dX2_commit_5 : decode cX2_commit 5 = .ok (.astore_n 2, 1) := by decide +kernel
theorem dX2_commit_6 : decode cX2_commit 6 = .ok (.aload_n 2, 1) := by decide +kernel
theorem dX2_commit_7 : decode cX2_commit 7 = .ok (.invokestatic 84, 3) := by decide +kernel
theorem dX2_commit_10 : decode cX2_commit 10 = .ok (.aload_n 2, 1) := by decide +kernel
theorem dX2_commit_11 : decode cX2_commit 11 = .ok (.invokestatic 94, 3) := by decide +kernel
theorem dX2_commit_14 : decode cX2_commit 14 = .ok (.aload_n 0, 1) := by decide +kernel
theorem dX2_commit_15 : decode cX2_commit 15 = .ok (.aload_n 2, 1) := by decide +kernel
theorem dX2_commit_16 : decode cX2_commit 16 = .ok (.invokevirtual 97, 3) := by decide +kernel
theorem dX2_commit_19 : decode cX2_commit 19 = .ok (.ifCond .eq 11, 3) := by decide +kernel
theorem dX2_commit_22 : decode cX2_commit 22 = .ok (.aload_n 0, 1) := by decide +kernel
theorem dX2_commit_23 : decode cX2_commit 23 = .ok (.aload_n 2, 1) := by decide +kernel
theorem dX2_commit_24 : decode cX2_commit 24 = .ok (.invokevirtual 101, 3) := by decide +kernel
theorem dX2_commit_27 : decode cX2_commit 27 = .ok (.goto 8, 3) := by decide +kernel
theorem dX2_commit_30 : decode cX2_commit 30 = .ok (.aload_n 0, 1) := by decide +kernel
theorem dX2_commit_31 : decode cX2_commit 31 = .ok (.aload_n 2, 1) := by decide +kernel
theorem dX2_commit_32 : decode cX2_commit 32 = .ok (.invokevirtual 104, 3) := by decide +kernel
theorem dX2_commit_35 : decode cX2_commit 35 = .ok (.istore_n 3, 1) := by decide +kernel
theorem dX2_commit_36 : decode cX2_commit 36 = .ok (.aload_n 0, 1) := by decide +kernel
theorem dX2_commit_37 : decode cX2_commit 37 = .ok (.invokevirtual 68, 3) := by decide +kernel
theorem dX2_commit_40 : decode cX2_commit 40 = .ok (.iload_n 3, 1) := by decide +kernel
theorem dX2_commit_41 : decode cX2_commit 41 = .ok (.ireturn, 1) := by decide +kernel
set_option maxRecDepth 20000 in
theorem ggX2_abort_X2_known : GoodIn wsX2_abort wsX2_known := goodIn_ca (goodIn_r _ [5, 6, 7, 8, 9, 87, 88, 89, 90, 91, 92, 93, 94, 95, 96, 97, 98, 99, 100, 101] (by decide +kernel) (by decide +kernel)) (goodIn_sub (fun _ h => List.mem_cons_of_mem _ (List.mem_append_left _ (List.mem_append_right _ h))) (by decide +kernel))
set_option maxRecDepth 20000 in
theorem gX2_abort_X2_known : GoodIn wsX2_abort (wsV RX2 53 RX2 yX2_known wsX2_known) := goodIn_app (goodIn_of _ (by decide +kernel)) ggX2_abort_X2_known
set_option maxRecDepth 20000 in
theorem ggX2_abort_X2_requireNotEnded : GoodIn wsX2_abort wsX2_requireNotEnded := goodIn_ca (goodIn_r _ [12, 13, 14, 15, 16, 17, 18, 19, 20, 102, 103, 104, 105, 106, 107, 108, 109, 110, 111, 112] (by decide +kernel) (by decide +kernel)) (goodIn_sub (fun _ h => List.mem_cons_of_mem _ (List.mem_append_right _ h)) (by decide +kernel))
set_option maxRecDepth 20000 in
theorem gX2_abort_X2_requireNotEnded : GoodIn wsX2_abort (va_wsS RX2 84 yX2_requireNotEnded wsX2_requireNotEnded) := goodIn_app (goodIn_of _ (by decide +kernel)) ggX2_abort_X2_requireNotEnded
set_option maxRecDepth 20000 in
theorem ggX2_abort_X2_countOwnWrites : GoodIn wsX2_abort wsX2_countOwnWrites := goodIn_r _ [24, 25, 87, 88, 89, 90, 91, 92, 93, 94, 95, 96, 97, 98, 99, 100, 101] (by decide +kernel) (by decide +kernel)
set_option maxRecDepth 20000 in
theorem gX2_abort_X2_countOwnWrites : GoodIn wsX2_abort (wsV RX2 107 RX2 yX2_countOwnWrites wsX2_countOwnWrites) := goodIn_app (goodIn_of _ (by decide +kernel)) ggX2_abort_X2_countOwnWrites
set_option maxRecDepth 20000 in
theorem ggX2_abort_X2_finish : GoodIn wsX2_abort wsX2_finish := goodIn_r _ [29, 30, 31, 25, 32, 33, 34, 4, 35, 36, 37, 38, 39, 40, 8, 9, 41, 42, 43, 44, 45, 46, 47, 102, 103, 104, 105, 106, 107, 108, 109, 110, 111, 112, 87, 88, 89, 90, 91, 92, 93, 94, 95, 96, 97, 98, 99, 100, 101] (by decide +kernel) (by decide +kernel)
set_option maxRecDepth 20000 in
theorem gX2_abort_X2_finish : GoodIn wsX2_abort (wsV RX2 110 RX2 yX2_finish wsX2_finish) := goodIn_app (goodIn_of _ (by decide +kernel)) ggX2_abort_X2_finish
set_option maxRecDepth 20000 in
theorem ggX2_abort_X2_retryQueued : GoodIn wsX2_abort wsX2_retryQueued := goodIn_r _ [51, 47, 45, 46, 30, 52, 53, 54, 55, 56, 4, 57, 31, 58, 59, 25, 60, 61, 62, 63, 64, 65, 66, 67, 68, 69, 70, 71, 36, 9, 72, 73, 74, 75, 76, 77, 78, 79, 80, 81, 82, 83, 84, 85, 86, 26, 27, 28, 29, 32, 33, 34, 35, 37, 38, 39, 40, 8, 41, 42, 43, 44, 87, 88, 89, 90, 91, 92, 93, 94, 95, 96, 97, 98, 99, 100, 101, 102, 103, 104, 105, 106, 107, 108, 109, 110, 111, 112, 113, 114, 115] (by decide +kernel) (by decide +kernel)
set_option maxRecDepth 20000 in
theorem gX2_abort_X2_retryQueued : GoodIn wsX2_abort (wsV RX2 68 RX2 yX2_retryQueued wsX2_retryQueued) := goodIn_app (goodIn_of _ (by decide +kernel)) ggX2_abort_X2_retryQueued
theorem dX2_abort_0 : decode cX2_abort 0 = .ok (.aload_n 0, 1) := by decide +kernel
theorem dX2_abort_1 : decode cX2_abort 1 = .ok (.iload_n 1, 1) := by decide +kernel
theorem dX2_abort_2 : decode cX2_abort 2 = .ok (.invokevirtual 53, 3) := by decide +kernel
theorem dX2_abort_5 : decode cX2_abort 5 = .ok (.astore_n 2, 1) := by decide +kernel
theorem dX2_abort_6 : decode cX2_abort 6 = .ok (.aload_n 2, 1) := by decide +kernel
theorem dX2_abort_7 : decode cX2_abort 7 = .ok (.invokestatic 84, 3) := by decide +kernel
theorem dX2_abort_10 : decode cX2_abort 10 = .ok (.aload_n 0, 1) := by decide +kernel
theorem dX2_abort_11 : decode cX2_abort 11 = .ok (.aload_n 2, 1) := by decide +kernel
theorem dX2_abort_12 : decode cX2_abort 12 = .ok (.invokevirtual 107, 3) := by decide +kernel
theorem dX2_abort_15 : decode cX2_abort 15 = .ok (.istore_n 3, 1) := by decide +kernel
theorem dX2_abort_16 : decode cX2_abort 16 = .ok (.aload_n 0, 1) := by decide +kernel
theorem dX2_abort_17 : decode cX2_abort 17 = .ok (.aload_n 2, 1) := by decide +kernel
theorem dX2_abort_18 : decode cX2_abort 18 = .ok (.iconst 4, 1) := by decide +kernel
theorem dX2_abort_19 : decode cX2_abort 19 = .ok (.invokevirtual 110, 3) := by decide +kernel
theorem dX2_abort_22 : decode cX2_abort 22 = .ok (.aload_n 0, 1) := by decide +kernel
theorem dX2_abort_23 : decode cX2_abort 23 = .ok (.invokevirtual 68, 3) := by decide +kernel
theorem dX2_abort_26 : decode cX2_abort 26 = .ok (.iload_n 3, 1) := by decide +kernel
theorem dX2_abort_27 : decode cX2_abort 27 = .ok (.ireturn, 1) := by decide +kernel
set_option maxRecDepth 20000 in
theorem ggX2_pin_X2_requireVersion : GoodIn wsX2_pin wsX2_requireVersion := goodIn_ca (goodIn_r _ [6, 7, 8, 9, 10, 11, 12, 5, 13, 14, 15, 16, 17, 18, 19, 20, 1, 21, 22, 23, 24, 25, 26, 27, 28, 29, 30, 31, 32, 33, 34, 35, 36, 37, 38, 39, 40, 41, 42, 43, 44, 45, 46, 47, 48, 49, 50, 51, 52] (by decide +kernel) (by decide +kernel)) (goodIn_sub (fun _ h => List.mem_cons_of_mem _ (List.mem_append_right _ h)) (by decide +kernel))
set_option maxRecDepth 20000 in
theorem gX2_pin_X2_requireVersion : GoodIn wsX2_pin (wsV RX2 49 RX2 yX2_requireVersion wsX2_requireVersion) := goodIn_app (goodIn_of _ (by decide +kernel)) ggX2_pin_X2_requireVersion
theorem dX2_pin_0 : decode cX2_pin 0 = .ok (.aload_n 0, 1) := by decide +kernel
theorem dX2_pin_1 : decode cX2_pin 1 = .ok (.iload_n 1, 1) := by decide +kernel
theorem dX2_pin_2 : decode cX2_pin 2 = .ok (.invokevirtual 49, 3) := by decide +kernel
theorem dX2_pin_5 : decode cX2_pin 5 = .ok (.aload_n 0, 1) := by decide +kernel
theorem dX2_pin_6 : decode cX2_pin 6 = .ok (.getfield 21, 3) := by decide +kernel
theorem dX2_pin_9 : decode cX2_pin 9 = .ok (.iload_n 1, 1) := by decide +kernel
theorem dX2_pin_10 : decode cX2_pin 10 = .ok (.dup2, 1) := by decide +kernel
theorem dX2_pin_11 : decode cX2_pin 11 = .ok (.iaload, 1) := by decide +kernel
theorem dX2_pin_12 : decode cX2_pin 12 = .ok (.iconst 1, 1) := by decide +kernel
theorem dX2_pin_13 : decode cX2_pin 13 = .ok (.iadd, 1) := by decide +kernel
theorem dX2_pin_14 : decode cX2_pin 14 = .ok (.iastore, 1) := by decide +kernel
theorem dX2_pin_15 : decode cX2_pin 15 = .ok (.aload_n 0, 1) := by decide +kernel
theorem dX2_pin_16 : decode cX2_pin 16 = .ok (.getfield 21, 3) := by decide +kernel
theorem dX2_pin_19 : decode cX2_pin 19 = .ok (.iload_n 1, 1) := by decide +kernel
theorem dX2_pin_20 : decode cX2_pin 20 = .ok (.iaload, 1) := by decide +kernel
theorem dX2_pin_21 : decode cX2_pin 21 = .ok (.ireturn, 1) := by decide +kernel
set_option maxRecDepth 20000 in
theorem ggX2_unpin_X2_requirePinned : GoodIn wsX2_unpin wsX2_requirePinned := goodIn_ca (goodIn_r _ [6, 7, 8, 9, 1, 10, 11, 12, 13, 14, 15, 16, 17, 18, 19, 20, 21, 22, 23, 24] (by decide +kernel) (by decide +kernel)) (goodIn_sub (fun _ h => List.mem_cons_of_mem _ (List.mem_append_right _ h)) (by decide +kernel))
set_option maxRecDepth 20000 in
theorem gX2_unpin_X2_requirePinned : GoodIn wsX2_unpin (wsV RX2 114 RX2 yX2_requirePinned wsX2_requirePinned) := goodIn_app (goodIn_of _ (by decide +kernel)) ggX2_unpin_X2_requirePinned
theorem dX2_unpin_0 : decode cX2_unpin 0 = .ok (.aload_n 0, 1) := by decide +kernel
theorem dX2_unpin_1 : decode cX2_unpin 1 = .ok (.iload_n 1, 1) := by decide +kernel
theorem dX2_unpin_2 : decode cX2_unpin 2 = .ok (.invokevirtual 114, 3) := by decide +kernel
theorem dX2_unpin_5 : decode cX2_unpin 5 = .ok (.aload_n 0, 1) := by decide +kernel
theorem dX2_unpin_6 : decode cX2_unpin 6 = .ok (.getfield 21, 3) := by decide +kernel
theorem dX2_unpin_9 : decode cX2_unpin 9 = .ok (.iload_n 1, 1) := by decide +kernel
theorem dX2_unpin_10 : decode cX2_unpin 10 = .ok (.dup2, 1) := by decide +kernel
theorem dX2_unpin_11 : decode cX2_unpin 11 = .ok (.iaload, 1) := by decide +kernel
theorem dX2_unpin_12 : decode cX2_unpin 12 = .ok (.iconst 1, 1) := by decide +kernel
theorem dX2_unpin_13 : decode cX2_unpin 13 = .ok (.isub, 1) := by decide +kernel
theorem dX2_unpin_14 : decode cX2_unpin 14 = .ok (.iastore, 1) := by decide +kernel
theorem dX2_unpin_15 : decode cX2_unpin 15 = .ok (.aload_n 0, 1) := by decide +kernel
theorem dX2_unpin_16 : decode cX2_unpin 16 = .ok (.getfield 21, 3) := by decide +kernel
theorem dX2_unpin_19 : decode cX2_unpin 19 = .ok (.iload_n 1, 1) := by decide +kernel
theorem dX2_unpin_20 : decode cX2_unpin 20 = .ok (.iaload, 1) := by decide +kernel
theorem dX2_unpin_21 : decode cX2_unpin 21 = .ok (.ireturn, 1) := by decide +kernel
set_option maxRecDepth 20000 in
theorem ggX2_free_X2_leastKept : GoodIn wsX2_free wsX2_leastKept := goodIn_r _ [6, 7, 8, 9, 10, 11, 12, 13, 14, 15, 16, 17, 18, 19, 20, 21, 37, 38, 39, 40, 41, 42, 43, 44, 45, 46, 47, 48, 49, 50, 51, 52, 53, 54, 55, 56, 57, 58, 59, 60, 61, 62] (by decide +kernel) (by decide +kernel)
set_option maxRecDepth 20000 in
theorem gX2_free_X2_leastKept : GoodIn wsX2_free (wsV RX2 117 RX2 yX2_leastKept wsX2_leastKept) := goodIn_app (goodIn_of _ (by decide +kernel)) ggX2_free_X2_leastKept
set_option maxRecDepth 20000 in
theorem ggX2_free_X2_dropOldRows : GoodIn wsX2_free wsX2_dropOldRows := goodIn_r _ [25, 26, 27, 28, 29, 30, 31, 5, 32, 33, 34, 35, 36, 37, 38, 39, 40, 41, 42, 43, 44, 45, 46, 47, 48, 49, 50, 51, 63, 64, 65] (by decide +kernel) (by decide +kernel)
set_option maxRecDepth 20000 in
theorem gX2_free_X2_dropOldRows : GoodIn wsX2_free (wsV RX2 121 RX2 yX2_dropOldRows wsX2_dropOldRows) := goodIn_app (goodIn_of _ (by decide +kernel)) ggX2_free_X2_dropOldRows
theorem dX2_free_0 : decode cX2_free 0 = .ok (.aload_n 0, 1) := by decide +kernel
theorem dX2_free_1 : decode cX2_free 1 = .ok (.invokevirtual 117, 3) := by decide +kernel
theorem dX2_free_4 : decode cX2_free 4 = .ok (.istore_n 1, 1) := by decide +kernel
theorem dX2_free_5 : decode cX2_free 5 = .ok (.iconst 0, 1) := by decide +kernel
theorem dX2_free_6 : decode cX2_free 6 = .ok (.istore_n 2, 1) := by decide +kernel
theorem dX2_free_7 : decode cX2_free 7 = .ok (.iconst 0, 1) := by decide +kernel
theorem dX2_free_8 : decode cX2_free 8 = .ok (.istore_n 3, 1) := by decide +kernel
theorem dX2_free_9 : decode cX2_free 9 = .ok (.iload_n 3, 1) := by decide +kernel
theorem dX2_free_10 : decode cX2_free 10 = .ok (.sipush 200, 3) := by decide +kernel
theorem dX2_free_13 : decode cX2_free 13 = .ok (.if_icmp .ge 18, 3) := by decide +kernel
theorem dX2_free_16 : decode cX2_free 16 = .ok (.iload_n 2, 1) := by decide +kernel
theorem dX2_free_17 : decode cX2_free 17 = .ok (.aload_n 0, 1) := by decide +kernel
theorem dX2_free_18 : decode cX2_free 18 = .ok (.iload_n 3, 1) := by decide +kernel
theorem dX2_free_19 : decode cX2_free 19 = .ok (.iload_n 1, 1) := by decide +kernel
theorem dX2_free_20 : decode cX2_free 20 = .ok (.invokevirtual 121, 3) := by decide +kernel
theorem dX2_free_23 : decode cX2_free 23 = .ok (.iadd, 1) := by decide +kernel
theorem dX2_free_24 : decode cX2_free 24 = .ok (.istore_n 2, 1) := by decide +kernel
theorem dX2_free_25 : decode cX2_free 25 = .ok (.iinc 3 1, 3) := by decide +kernel
theorem dX2_free_28 : decode cX2_free 28 = .ok (.goto (-19), 3) := by decide +kernel
theorem dX2_free_31 : decode cX2_free 31 = .ok (.aload_n 0, 1) := by decide +kernel
theorem dX2_free_32 : decode cX2_free 32 = .ok (.dup, 1) := by decide +kernel
theorem dX2_free_33 : decode cX2_free 33 = .ok (.getfield 125, 3) := by decide +kernel
theorem dX2_free_36 : decode cX2_free 36 = .ok (.iload_n 2, 1) := by decide +kernel
theorem dX2_free_37 : decode cX2_free 37 = .ok (.isub, 1) := by decide +kernel
theorem dX2_free_38 : decode cX2_free 38 = .ok (.putfield 125, 3) := by decide +kernel
theorem dX2_free_41 : decode cX2_free 41 = .ok (.iload_n 2, 1) := by decide +kernel
theorem dX2_free_42 : decode cX2_free 42 = .ok (.ireturn, 1) := by decide +kernel
theorem dX2_rows_0 : decode cX2_rows 0 = .ok (.aload_n 0, 1) := by decide +kernel
theorem dX2_rows_1 : decode cX2_rows 1 = .ok (.getfield 125, 3) := by decide +kernel
theorem dX2_rows_4 : decode cX2_rows 4 = .ok (.ireturn, 1) := by decide +kernel
theorem dX2_latest_0 : decode cX2_latest 0 = .ok (.aload_n 0, 1) := by decide +kernel
theorem dX2_latest_1 : decode cX2_latest 1 = .ok (.getfield 41, 3) := by decide +kernel
theorem dX2_latest_4 : decode cX2_latest 4 = .ok (.ireturn, 1) := by decide +kernel
set_option maxRecDepth 20000 in
theorem ggX2_least_X2_leastKept : GoodIn wsX2_least wsX2_leastKept := goodIn_r _ [5, 6, 7, 8, 9, 10, 11, 12, 13, 14, 15, 16, 17, 18, 19, 20, 21, 22, 23, 24, 25, 26, 27, 28, 29, 30, 31, 32, 33, 34, 35, 36, 37, 38, 39, 40, 41, 42, 43, 44, 45, 46] (by decide +kernel) (by decide +kernel)
set_option maxRecDepth 20000 in
theorem gX2_least_X2_leastKept : GoodIn wsX2_least (wsV RX2 117 RX2 yX2_leastKept wsX2_leastKept) := goodIn_app (goodIn_of _ (by decide +kernel)) ggX2_least_X2_leastKept
theorem dX2_least_0 : decode cX2_least 0 = .ok (.aload_n 0, 1) := by decide +kernel
theorem dX2_least_1 : decode cX2_least 1 = .ok (.invokevirtual 117, 3) := by decide +kernel
theorem dX2_least_4 : decode cX2_least 4 = .ok (.ireturn, 1) := by decide +kernel
set_option maxRecDepth 20000 in
theorem ggX2_state_X2_known : GoodIn wsX2_state wsX2_known := goodIn_ca (goodIn_r _ [6, 7, 8, 9, 10, 22, 23, 24, 25, 26, 27, 28, 29, 30, 31, 32, 33, 34, 35, 36] (by decide +kernel) (by decide +kernel)) (goodIn_sub (fun _ h => List.mem_cons_of_mem _ (List.mem_append_right _ h)) (by decide +kernel))
set_option maxRecDepth 20000 in
theorem gX2_state_X2_known : GoodIn wsX2_state (wsV RX2 53 RX2 yX2_known wsX2_known) := goodIn_app (goodIn_of _ (by decide +kernel)) ggX2_state_X2_known
theorem dX2_state_0 : decode cX2_state 0 = .ok (.aload_n 0, 1) := by decide +kernel
theorem dX2_state_1 : decode cX2_state 1 = .ok (.iload_n 1, 1) := by decide +kernel
theorem dX2_state_2 : decode cX2_state 2 = .ok (.invokevirtual 53, 3) := by decide +kernel
theorem dX2_state_5 : decode cX2_state 5 = .ok (.getfield 128, 3) := by decide +kernel
theorem dX2_state_8 : decode cX2_state 8 = .ok (.ireturn, 1) := by decide +kernel
set_option maxRecDepth 20000 in
theorem ggX2_waits_X2_known : GoodIn wsX2_waits wsX2_known := goodIn_ca (goodIn_r _ [7, 8, 9, 10, 11, 23, 24, 25, 26, 27, 28, 29, 30, 31, 32, 33, 34, 35, 36, 37] (by decide +kernel) (by decide +kernel)) (goodIn_sub (fun _ h => List.mem_cons_of_mem _ (List.mem_append_right _ h)) (by decide +kernel))
set_option maxRecDepth 20000 in
theorem gX2_waits_X2_known : GoodIn wsX2_waits (wsV RX2 53 RX2 yX2_known wsX2_known) := goodIn_app (goodIn_of _ (by decide +kernel)) ggX2_waits_X2_known
theorem dX2_waits_0 : decode cX2_waits 0 = .ok (.aload_n 0, 1) := by decide +kernel
theorem dX2_waits_1 : decode cX2_waits 1 = .ok (.iload_n 1, 1) := by decide +kernel
theorem dX2_waits_2 : decode cX2_waits 2 = .ok (.invokevirtual 53, 3) := by decide +kernel
theorem dX2_waits_5 : decode cX2_waits 5 = .ok (.getfield 131, 3) := by decide +kernel
theorem dX2_waits_8 : decode cX2_waits 8 = .ok (.astore_n 2, 1) := by decide +kernel
theorem dX2_waits_9 : decode cX2_waits 9 = .ok (.aload_n 2, 1) := by decide +kernel
theorem dX2_waits_10 : decode cX2_waits 10 = .ok (.ifnonnull 7, 3) := by decide +kernel
theorem dX2_waits_13 : decode cX2_waits 13 = .ok (.iconst (-1), 1) := by decide +kernel
theorem dX2_waits_14 : decode cX2_waits 14 = .ok (.goto 7, 3) := by decide +kernel
theorem dX2_waits_17 : decode cX2_waits 17 = .ok (.aload_n 2, 1) := by decide +kernel
theorem dX2_waits_18 : decode cX2_waits 18 = .ok (.getfield 135, 3) := by decide +kernel
theorem dX2_waits_21 : decode cX2_waits 21 = .ok (.ireturn, 1) := by decide +kernel
theorem dX2_ring_0 : decode cX2_ring 0 = .ok (.iload_n 1, 1) := by decide +kernel
theorem dX2_ring_1 : decode cX2_ring 1 = .ok (.ifCond .lt 20, 3) := by decide +kernel
theorem dX2_ring_4 : decode cX2_ring 4 = .ok (.iload_n 1, 1) := by decide +kernel
theorem dX2_ring_5 : decode cX2_ring 5 = .ok (.aload_n 0, 1) := by decide +kernel
theorem dX2_ring_6 : decode cX2_ring 6 = .ok (.getfield 138, 3) := by decide +kernel
theorem dX2_ring_9 : decode cX2_ring 9 = .ok (.if_icmp .ge 12, 3) := by decide +kernel
theorem dX2_ring_12 : decode cX2_ring 12 = .ok (.aload_n 0, 1) := by decide +kernel
theorem dX2_ring_13 : decode cX2_ring 13 = .ok (.getfield 38, 3) := by decide +kernel
theorem dX2_ring_16 : decode cX2_ring 16 = .ok (.iload_n 1, 1) := by decide +kernel
theorem dX2_ring_17 : decode cX2_ring 17 = .ok (.iaload, 1) := by decide +kernel
theorem dX2_ring_18 : decode cX2_ring 18 = .ok (.goto 4, 3) := by decide +kernel
theorem dX2_ring_21 : decode cX2_ring 21 = .ok (.iconst (-1), 1) := by decide +kernel
theorem dX2_ring_22 : decode cX2_ring 22 = .ok (.ireturn, 1) := by decide +kernel
set_option maxRecDepth 20000 in
theorem ggX2_conflicts_X2_requireKind : GoodIn wsX2_conflicts wsX2_requireKind := goodIn_ca (goodIn_r _ [6, 7, 8] (by decide +kernel) (by decide +kernel)) (goodIn_sub (fun _ h => List.mem_cons_of_mem _ (List.mem_append_right _ h)) (by decide +kernel))
set_option maxRecDepth 20000 in
theorem gX2_conflicts_X2_requireKind : GoodIn wsX2_conflicts (va_wsS RX2 141 yX2_requireKind wsX2_requireKind) := goodIn_app (goodIn_of _ (by decide +kernel)) ggX2_conflicts_X2_requireKind
set_option maxRecDepth 20000 in
theorem ggX2_conflicts_X2_requireTriple : GoodIn wsX2_conflicts wsX2_requireTriple := goodIn_ca (goodIn_r _ [11, 7, 8] (by decide +kernel) (by decide +kernel)) (goodIn_sub (fun _ h => List.mem_cons_of_mem _ (List.mem_append_right _ h)) (by decide +kernel))
set_option maxRecDepth 20000 in
theorem gX2_conflicts_X2_requireTriple : GoodIn wsX2_conflicts (va_wsS RX2 57 yX2_requireTriple wsX2_requireTriple) := goodIn_app (goodIn_of _ (by decide +kernel)) ggX2_conflicts_X2_requireTriple
set_option maxRecDepth 20000 in
theorem ggX2_conflicts_X2_requireGraph : GoodIn wsX2_conflicts wsX2_requireGraph := goodIn_ca (goodIn_r _ [14, 7, 8] (by decide +kernel) (by decide +kernel)) (goodIn_sub (fun _ h => List.mem_cons_of_mem _ (List.mem_append_right _ h)) (by decide +kernel))
set_option maxRecDepth 20000 in
theorem gX2_conflicts_X2_requireGraph : GoodIn wsX2_conflicts (va_wsS RX2 75 yX2_requireGraph wsX2_requireGraph) := goodIn_app (goodIn_of _ (by decide +kernel)) ggX2_conflicts_X2_requireGraph
theorem dX2_conflicts_0 : decode cX2_conflicts 0 = .ok (.iload_n 1, 1) := by decide +kernel
theorem dX2_conflicts_1 : decode cX2_conflicts 1 = .ok (.invokestatic 141, 3) := by decide +kernel
theorem dX2_conflicts_4 : decode cX2_conflicts 4 = .ok (.iload_n 1, 1) := by decide +kernel
theorem dX2_conflicts_5 : decode cX2_conflicts 5 = .ok (.ifCond .ne 14, 3) := by decide +kernel
theorem dX2_conflicts_8 : decode cX2_conflicts 8 = .ok (.iload_n 2, 1) := by decide +kernel
theorem dX2_conflicts_9 : decode cX2_conflicts 9 = .ok (.invokestatic 57, 3) := by decide +kernel
theorem dX2_conflicts_12 : decode cX2_conflicts 12 = .ok (.aload_n 0, 1) := by decide +kernel
theorem dX2_conflicts_13 : decode cX2_conflicts 13 = .ok (.getfield 32, 3) := by decide +kernel
theorem dX2_conflicts_16 : decode cX2_conflicts 16 = .ok (.iload_n 2, 1) := by decide +kernel
theorem dX2_conflicts_17 : decode cX2_conflicts 17 = .ok (.iaload, 1) := by decide +kernel
theorem dX2_conflicts_18 : decode cX2_conflicts 18 = .ok (.ireturn, 1) := by decide +kernel
theorem dX2_conflicts_19 : decode cX2_conflicts 19 = .ok (.iload_n 2, 1) := by decide +kernel
theorem dX2_conflicts_20 : decode cX2_conflicts 20 = .ok (.invokestatic 75, 3) := by decide +kernel
theorem dX2_conflicts_23 : decode cX2_conflicts 23 = .ok (.aload_n 0, 1) := by decide +kernel
theorem dX2_conflicts_24 : decode cX2_conflicts 24 = .ok (.getfield 35, 3) := by decide +kernel
theorem dX2_conflicts_27 : decode cX2_conflicts 27 = .ok (.iload_n 2, 1) := by decide +kernel
theorem dX2_conflicts_28 : decode cX2_conflicts 28 = .ok (.iaload, 1) := by decide +kernel
theorem dX2_conflicts_29 : decode cX2_conflicts 29 = .ok (.ireturn, 1) := by decide +kernel
theorem dX2_known_0 : decode cX2_known 0 = .ok (.iload_n 1, 1) := by decide +kernel
theorem dX2_known_1 : decode cX2_known 1 = .ok (.ifCond .lt 11, 3) := by decide +kernel
theorem dX2_known_4 : decode cX2_known 4 = .ok (.iload_n 1, 1) := by decide +kernel
theorem dX2_known_5 : decode cX2_known 5 = .ok (.aload_n 0, 1) := by decide +kernel
theorem dX2_known_6 : decode cX2_known 6 = .ok (.getfield 144, 3) := by decide +kernel
theorem dX2_known_9 : decode cX2_known 9 = .ok (.if_icmp .lt 13, 3) := by decide +kernel
theorem dX2_known_12 : decode cX2_known 12 = .ok (.new 147, 3) := by decide +kernel
theorem dX2_known_15 : decode cX2_known 15 = .ok (.dup, 1) := by decide +kernel
theorem dX2_known_16 : decode cX2_known 16 = .ok (.ldc 149, 2) := by decide +kernel
theorem dX2_known_18 : decode cX2_known 18 = .ok (.invokespecial 151, 3) := by decide +kernel
theorem dX2_known_21 : decode cX2_known 21 = .ok (.athrow, 1) := by decide +kernel
theorem dX2_known_22 : decode cX2_known 22 = .ok (.aload_n 0, 1) := by decide +kernel
theorem dX2_known_23 : decode cX2_known 23 = .ok (.getfield 11, 3) := by decide +kernel
theorem dX2_known_26 : decode cX2_known 26 = .ok (.iload_n 1, 1) := by decide +kernel
theorem dX2_known_27 : decode cX2_known 27 = .ok (.aaload, 1) := by decide +kernel
theorem dX2_known_28 : decode cX2_known 28 = .ok (.areturn, 1) := by decide +kernel
theorem dX2_requireTriple_0 : decode cX2_requireTriple 0 = .ok (.iload_n 0, 1) := by decide +kernel
theorem dX2_requireTriple_1 : decode cX2_requireTriple 1 = .ok (.ifCond .lt 10, 3) := by decide +kernel
theorem dX2_requireTriple_4 : decode cX2_requireTriple 4 = .ok (.iload_n 0, 1) := by decide +kernel
theorem dX2_requireTriple_5 : decode cX2_requireTriple 5 = .ok (.sipush 200, 3) := by decide +kernel
theorem dX2_requireTriple_8 : decode cX2_requireTriple 8 = .ok (.if_icmp .lt 13, 3) := by decide +kernel
theorem dX2_requireTriple_11 : decode cX2_requireTriple 11 = .ok (.new 147, 3) := by decide +kernel
theorem dX2_requireTriple_14 : decode cX2_requireTriple 14 = .ok (.dup, 1) := by decide +kernel
theorem dX2_requireTriple_15 : decode cX2_requireTriple 15 = .ok (.ldc 154, 2) := by decide +kernel
theorem dX2_requireTriple_17 : decode cX2_requireTriple 17 = .ok (.invokespecial 151, 3) := by decide +kernel
theorem dX2_requireTriple_20 : decode cX2_requireTriple 20 = .ok (.athrow, 1) := by decide +kernel
theorem dX2_requireTriple_21 : decode cX2_requireTriple 21 = .ok (.return_, 1) := by decide +kernel
theorem dX2_requireGraph_0 : decode cX2_requireGraph 0 = .ok (.iload_n 0, 1) := by decide +kernel
theorem dX2_requireGraph_1 : decode cX2_requireGraph 1 = .ok (.ifCond .lt 8, 3) := by decide +kernel
theorem dX2_requireGraph_4 : decode cX2_requireGraph 4 = .ok (.iload_n 0, 1) := by decide +kernel
theorem dX2_requireGraph_5 : decode cX2_requireGraph 5 = .ok (.iconst 4, 1) := by decide +kernel
theorem dX2_requireGraph_6 : decode cX2_requireGraph 6 = .ok (.if_icmp .lt 13, 3) := by decide +kernel
theorem dX2_requireGraph_9 : decode cX2_requireGraph 9 = .ok (.new 147, 3) := by decide +kernel
theorem dX2_requireGraph_12 : decode cX2_requireGraph 12 = .ok (.dup, 1) := by decide +kernel
theorem dX2_requireGraph_13 : decode cX2_requireGraph 13 = .ok (.ldc 156, 2) := by decide +kernel
theorem dX2_requireGraph_15 : decode cX2_requireGraph 15 = .ok (.invokespecial 151, 3) := by decide +kernel
theorem dX2_requireGraph_18 : decode cX2_requireGraph 18 = .ok (.athrow, 1) := by decide +kernel
theorem dX2_requireGraph_19 : decode cX2_requireGraph 19 = .ok (.return_, 1) := by decide +kernel
theorem dX2_requireKind_0 : decode cX2_requireKind 0 = .ok (.iload_n 0, 1) := by decide +kernel
theorem dX2_requireKind_1 : decode cX2_requireKind 1 = .ok (.ifCond .eq 18, 3) := by decide +kernel
theorem dX2_requireKind_4 : decode cX2_requireKind 4 = .ok (.iload_n 0, 1) := by decide +kernel
theorem dX2_requireKind_5 : decode cX2_requireKind 5 = .ok (.iconst 1, 1) := by decide +kernel
theorem dX2_requireKind_6 : decode cX2_requireKind 6 = .ok (.if_icmp .eq 13, 3) := by decide +kernel
theorem dX2_requireKind_9 : decode cX2_requireKind 9 = .ok (.new 147, 3) := by decide +kernel
theorem dX2_requireKind_12 : decode cX2_requireKind 12 = .ok (.dup, 1) := by decide +kernel
theorem dX2_requireKind_13 : decode cX2_requireKind 13 = .ok (.ldc 158, 2) := by decide +kernel
theorem dX2_requireKind_15 : decode cX2_requireKind 15 = .ok (.invokespecial 151, 3) := by decide +kernel
theorem dX2_requireKind_18 : decode cX2_requireKind 18 = .ok (.athrow, 1) := by decide +kernel
theorem dX2_requireKind_19 : decode cX2_requireKind 19 = .ok (.return_, 1) := by decide +kernel
set_option maxRecDepth 20000 in
theorem ggX2_requireVersion_X2_leastKept : GoodIn wsX2_requireVersion wsX2_leastKept := goodIn_r _ [8, 3, 9, 10, 11, 12, 13, 14, 15, 16, 17, 18, 19, 20, 21, 22, 23, 24, 25, 26, 27, 28, 29, 30, 31, 32, 33, 34, 35, 36, 37, 38, 39, 40, 41, 42, 43, 44, 45, 46, 47, 48] (by decide +kernel) (by decide +kernel)
set_option maxRecDepth 20000 in
theorem gX2_requireVersion_X2_leastKept : GoodIn wsX2_requireVersion (wsV RX2 117 RX2 yX2_leastKept wsX2_leastKept) := goodIn_app (goodIn_of _ (by decide +kernel)) ggX2_requireVersion_X2_leastKept
theorem dX2_requireVersion_0 : decode cX2_requireVersion 0 = .ok (.iload_n 1, 1) := by decide +kernel
theorem dX2_requireVersion_1 : decode cX2_requireVersion 1 = .ok (.aload_n 0, 1) := by decide +kernel
theorem dX2_requireVersion_2 : decode cX2_requireVersion 2 = .ok (.invokevirtual 117, 3) := by decide +kernel
theorem dX2_requireVersion_5 : decode cX2_requireVersion 5 = .ok (.if_icmp .lt 11, 3) := by decide +kernel
theorem dX2_requireVersion_8 : decode cX2_requireVersion 8 = .ok (.iload_n 1, 1) := by decide +kernel
theorem dX2_requireVersion_9 : decode cX2_requireVersion 9 = .ok (.aload_n 0, 1) := by decide +kernel
theorem dX2_requireVersion_10 : decode cX2_requireVersion 10 = .ok (.getfield 41, 3) := by decide +kernel
theorem dX2_requireVersion_13 : decode cX2_requireVersion 13 = .ok (.if_icmp .le 13, 3) := by decide +kernel
theorem dX2_requireVersion_16 : decode cX2_requireVersion 16 = .ok (.new 147, 3) := by decide +kernel
theorem dX2_requireVersion_19 : decode cX2_requireVersion 19 = .ok (.dup, 1) := by decide +kernel
theorem dX2_requireVersion_20 : decode cX2_requireVersion 20 = .ok (.ldc 160, 2) := by decide +kernel
theorem dX2_requireVersion_22 : decode cX2_requireVersion 22 = .ok (.invokespecial 151, 3) := by decide +kernel
theorem dX2_requireVersion_25 : decode cX2_requireVersion 25 = .ok (.athrow, 1) := by decide +kernel
theorem dX2_requireVersion_26 : decode cX2_requireVersion 26 = .ok (.return_, 1) := by decide +kernel
theorem dX2_requirePinned_0 : decode cX2_requirePinned 0 = .ok (.iload_n 1, 1) := by decide +kernel
theorem dX2_requirePinned_1 : decode cX2_requirePinned 1 = .ok (.ifCond .lt 20, 3) := by decide +kernel
theorem dX2_requirePinned_4 : decode cX2_requirePinned 4 = .ok (.iload_n 1, 1) := by decide +kernel
theorem dX2_requirePinned_5 : decode cX2_requirePinned 5 = .ok (.aload_n 0, 1) := by decide +kernel
theorem dX2_requirePinned_6 : decode cX2_requirePinned 6 = .ok (.getfield 41, 3) := by decide +kernel
theorem dX2_requirePinned_9 : decode cX2_requirePinned 9 = .ok (.if_icmp .gt 12, 3) := by decide +kernel
theorem dX2_requirePinned_12 : decode cX2_requirePinned 12 = .ok (.aload_n 0, 1) := by decide +kernel
theorem dX2_requirePinned_13 : decode cX2_requirePinned 13 = .ok (.getfield 21, 3) := by decide +kernel
theorem dX2_requirePinned_16 : decode cX2_requirePinned 16 = .ok (.iload_n 1, 1) := by decide +kernel
theorem dX2_requirePinned_17 : decode cX2_requirePinned 17 = .ok (.iaload, 1) := by decide +kernel
theorem dX2_requirePinned_18 : decode cX2_requirePinned 18 = .ok (.ifCond .ne 13, 3) := by decide +kernel
theorem dX2_requirePinned_21 : decode cX2_requirePinned 21 = .ok (.new 147, 3) := by decide +kernel
theorem dX2_requirePinned_24 : decode cX2_requirePinned 24 = .ok (.dup, 1) := by decide +kernel
theorem dX2_requirePinned_25 : decode cX2_requirePinned 25 = .ok (.ldc 162, 2) := by decide +kernel
theorem dX2_requirePinned_27 : decode cX2_requirePinned 27 = .ok (.invokespecial 151, 3) := by decide +kernel
theorem dX2_requirePinned_30 : decode cX2_requirePinned 30 = .ok (.athrow, 1) := by decide +kernel
theorem dX2_requirePinned_31 : decode cX2_requirePinned 31 = .ok (.return_, 1) := by decide +kernel
set_option maxRecDepth 20000 in
theorem ggX2_requireNotEnded_X1_hasEnded : GoodIn wsX2_requireNotEnded wsX1_hasEnded := goodIn_r _ [7, 8, 9, 10, 11, 12, 13, 14, 15, 16, 17, 18, 19] (by decide +kernel) (by decide +kernel)
set_option maxRecDepth 20000 in
theorem gX2_requireNotEnded_X1_hasEnded : GoodIn wsX2_requireNotEnded (wsV RX2 164 RX1 yX1_hasEnded wsX1_hasEnded) := goodIn_app (goodIn_of _ (by decide +kernel)) ggX2_requireNotEnded_X1_hasEnded
theorem dX2_requireNotEnded_0 : decode cX2_requireNotEnded 0 = .ok (.aload_n 0, 1) := by decide +kernel
theorem dX2_requireNotEnded_1 : decode cX2_requireNotEnded 1 = .ok (.invokevirtual 164, 3) := by decide +kernel
theorem dX2_requireNotEnded_4 : decode cX2_requireNotEnded 4 = .ok (.ifCond .eq 13, 3) := by decide +kernel
theorem dX2_requireNotEnded_7 : decode cX2_requireNotEnded 7 = .ok (.new 168, 3) := by decide +kernel
theorem dX2_requireNotEnded_10 : decode cX2_requireNotEnded 10 = .ok (.dup, 1) := by decide +kernel
theorem dX2_requireNotEnded_11 : decode cX2_requireNotEnded 11 = .ok (.ldc 170, 2) := by decide +kernel
theorem dX2_requireNotEnded_13 : decode cX2_requireNotEnded 13 = .ok (.invokespecial 172, 3) := by decide +kernel
theorem dX2_requireNotEnded_16 : decode cX2_requireNotEnded 16 = .ok (.athrow, 1) := by decide +kernel
theorem dX2_requireNotEnded_17 : decode cX2_requireNotEnded 17 = .ok (.return_, 1) := by decide +kernel
theorem dX2_requireNotWaiting_0 : decode cX2_requireNotWaiting 0 = .ok (.aload_n 0, 1) := by decide +kernel
theorem dX2_requireNotWaiting_1 : decode cX2_requireNotWaiting 1 = .ok (.getfield 128, 3) := by decide +kernel
theorem dX2_requireNotWaiting_4 : decode cX2_requireNotWaiting 4 = .ok (.iconst 1, 1) := by decide +kernel
theorem dX2_requireNotWaiting_5 : decode cX2_requireNotWaiting 5 = .ok (.if_icmp .ne 13, 3) := by decide +kernel
theorem dX2_requireNotWaiting_8 : decode cX2_requireNotWaiting 8 = .ok (.new 168, 3) := by decide +kernel
theorem dX2_requireNotWaiting_11 : decode cX2_requireNotWaiting 11 = .ok (.dup, 1) := by decide +kernel
theorem dX2_requireNotWaiting_12 : decode cX2_requireNotWaiting 12 = .ok (.ldc 173, 2) := by decide +kernel
theorem dX2_requireNotWaiting_14 : decode cX2_requireNotWaiting 14 = .ok (.invokespecial 172, 3) := by decide +kernel
theorem dX2_requireNotWaiting_17 : decode cX2_requireNotWaiting 17 = .ok (.athrow, 1) := by decide +kernel
theorem dX2_requireNotWaiting_18 : decode cX2_requireNotWaiting 18 = .ok (.return_, 1) := by decide +kernel
theorem dX2_requireOpenWriter_0 : decode cX2_requireOpenWriter 0 = .ok (.aload_n 0, 1) := by decide +kernel
theorem dX2_requireOpenWriter_1 : decode cX2_requireOpenWriter 1 = .ok (.getfield 175, 3) := by decide +kernel
theorem dX2_requireOpenWriter_4 : decode cX2_requireOpenWriter 4 = .ok (.ifCond .eq 10, 3) := by decide +kernel
theorem dX2_requireOpenWriter_7 : decode cX2_requireOpenWriter 7 = .ok (.aload_n 0, 1) := by decide +kernel
theorem dX2_requireOpenWriter_8 : decode cX2_requireOpenWriter 8 = .ok (.getfield 128, 3) := by decide +kernel
theorem dX2_requireOpenWriter_11 : decode cX2_requireOpenWriter 11 = .ok (.ifCond .eq 13, 3) := by decide +kernel
theorem dX2_requireOpenWriter_14 : decode cX2_requireOpenWriter 14 = .ok (.new 168, 3) := by decide +kernel
theorem dX2_requireOpenWriter_17 : decode cX2_requireOpenWriter 17 = .ok (.dup, 1) := by decide +kernel
theorem dX2_requireOpenWriter_18 : decode cX2_requireOpenWriter 18 = .ok (.ldc 179, 2) := by decide +kernel
theorem dX2_requireOpenWriter_20 : decode cX2_requireOpenWriter 20 = .ok (.invokespecial 172, 3) := by decide +kernel
theorem dX2_requireOpenWriter_23 : decode cX2_requireOpenWriter 23 = .ok (.athrow, 1) := by decide +kernel
theorem dX2_requireOpenWriter_24 : decode cX2_requireOpenWriter 24 = .ok (.return_, 1) := by decide +kernel
set_option maxRecDepth 20000 in
theorem ggX2_enter_X1_init : GoodIn wsX2_enter wsX1_init := goodIn_r _ [10, 11, 12, 13, 14, 15, 16, 17, 18, 19, 35, 36, 37, 38, 39, 40, 41, 42, 43, 44, 45] (by decide +kernel) (by decide +kernel)
set_option maxRecDepth 20000 in
theorem gX2_enter_X1_init : GoodIn wsX2_enter (wsX1_init) := ggX2_enter_X1_init
theorem dX2_enter_0 : decode cX2_enter 0 = .ok (.aload_n 0, 1) := by decide +kernel
theorem dX2_enter_1 : decode cX2_enter 1 = .ok (.getfield 144, 3) := by decide +kernel
theorem dX2_enter_4 : decode cX2_enter 4 = .ok (.bipush 60, 2) := by decide +kernel
theorem dX2_enter_6 : decode cX2_enter 6 = .ok (.if_icmp .lt 13, 3) := by decide +kernel
theorem dX2_enter_9 : decode cX2_enter 9 = .ok (.new 168, 3) := by decide +kernel
theorem dX2_enter_12 : decode cX2_enter 12 = .ok (.dup, 1) := by decide +kernel
theorem dX2_enter_13 : decode cX2_enter 13 = .ok (.ldc 181, 2) := by decide +kernel
theorem dX2_enter_15 : decode cX2_enter 15 = .ok (.invokespecial 172, 3) := by decide +kernel
theorem dX2_enter_18 : decode cX2_enter 18 = .ok (.athrow, 1) := by decide +kernel
theorem dX2_enter_19 : decode cX2_enter 19 = .ok (.aload_n 0, 1) := by decide +kernel
theorem dX2_enter_20 : decode cX2_enter 20 = .ok (.getfield 144, 3) := by decide +kernel
theorem dX2_enter_23 : decode cX2_enter 23 = .ok (.istore_n 3, 1) := by decide +kernel
theorem dX2_enter_24 : decode cX2_enter 24 = .ok (.aload_n 0, 1) := by decide +kernel
theorem dX2_enter_25 : decode cX2_enter 25 = .ok (.getfield 11, 3) := by decide +kernel
theorem dX2_enter_28 : decode cX2_enter 28 = .ok (.iload_n 3, 1) := by decide +kernel
theorem dX2_enter_29 : decode cX2_enter 29 = .ok (.new 9, 3) := by decide +kernel
theorem dX2_enter_32 : decode cX2_enter 32 = .ok (.dup, 1) := by decide +kernel
theorem dX2_enter_33 : decode cX2_enter 33 = .ok (.iload_n 3, 1) := by decide +kernel
theorem dX2_enter_34 : decode cX2_enter 34 = .ok (.iload_n 1, 1) := by decide +kernel
theorem dX2_enter_35 : decode cX2_enter 35 = .ok (.iload_n 2, 1) := by decide +kernel
theorem dX2_enter_36 : decode cX2_enter 36 = .ok (.invokespecial 183, 3) := by decide +kernel
theorem dX2_enter_39 : decode cX2_enter 39 = .ok (.aastore, 1) := by decide +kernel
theorem dX2_enter_40 : decode cX2_enter 40 = .ok (.aload_n 0, 1) := by decide +kernel
theorem dX2_enter_41 : decode cX2_enter 41 = .ok (.dup, 1) := by decide +kernel
theorem dX2_enter_42 : decode cX2_enter 42 = .ok (.getfield 144, 3) := by decide +kernel
theorem dX2_enter_45 : decode cX2_enter 45 = .ok (.iconst 1, 1) := by decide +kernel
theorem dX2_enter_46 : decode cX2_enter 46 = .ok (.iadd, 1) := by decide +kernel
theorem dX2_enter_47 : decode cX2_enter 47 = .ok (.putfield 144, 3) := by decide +kernel
theorem dX2_enter_50 : decode cX2_enter 50 = .ok (.iload_n 3, 1) := by decide +kernel
theorem dX2_enter_51 : decode cX2_enter 51 = .ok (.ireturn, 1) := by decide +kernel
set_option maxRecDepth 20000 in
theorem ggX2_finish_X2_queueThoseWaitingFor : GoodIn wsX2_finish wsX2_queueThoseWaitingFor := goodIn_r _ [8, 9, 10, 11, 12, 7, 13, 14, 15, 2, 16, 17, 18, 19, 20, 21, 22, 23, 24, 25, 26, 27, 28, 29, 30, 31, 32, 33, 34, 35, 36, 37, 38, 39, 40, 41, 42, 43, 44, 45, 46, 47, 48] (by decide +kernel) (by decide +kernel)
set_option maxRecDepth 20000 in
theorem gX2_finish_X2_queueThoseWaitingFor : GoodIn wsX2_finish (wsV RX2 186 RX2 yX2_queueThoseWaitingFor wsX2_queueThoseWaitingFor) := goodIn_app (goodIn_of _ (by decide +kernel)) ggX2_finish_X2_queueThoseWaitingFor
theorem dX2_finish_0 : decode cX2_finish 0 = .ok (.aload_n 1, 1) := by decide +kernel
theorem dX2_finish_1 : decode cX2_finish 1 = .ok (.iload_n 2, 1) := by decide +kernel
theorem dX2_finish_2 : decode cX2_finish 2 = .ok (.putfield 128, 3) := by decide +kernel
theorem dX2_finish_5 : decode cX2_finish 5 = .ok (.aload_n 1, 1) := by decide +kernel
theorem dX2_finish_6 : decode cX2_finish 6 = .ok (.aconst_null, 1) := by decide +kernel
theorem dX2_finish_7 : decode cX2_finish 7 = .ok (.putfield 131, 3) := by decide +kernel
theorem dX2_finish_10 : decode cX2_finish 10 = .ok (.iconst 0, 1) := by decide +kernel
theorem dX2_finish_11 : decode cX2_finish 11 = .ok (.istore_n 3, 1) := by decide +kernel
theorem dX2_finish_12 : decode cX2_finish 12 = .ok (.iload_n 3, 1) := by decide +kernel
theorem dX2_finish_13 : decode cX2_finish 13 = .ok (.sipush 200, 3) := by decide +kernel
theorem dX2_finish_16 : decode cX2_finish 16 = .ok (.if_icmp .ge 26, 3) := by decide +kernel
theorem dX2_finish_19 : decode cX2_finish 19 = .ok (.aload_n 0, 1) := by decide +kernel
theorem dX2_finish_20 : decode cX2_finish 20 = .ok (.getfield 25, 3) := by decide +kernel
theorem dX2_finish_23 : decode cX2_finish 23 = .ok (.iload_n 3, 1) := by decide +kernel
theorem dX2_finish_24 : decode cX2_finish 24 = .ok (.aaload, 1) := by decide +kernel
theorem dX2_finish_25 : decode cX2_finish 25 = .ok (.aload_n 1, 1) := by decide +kernel
theorem dX2_finish_26 : decode cX2_finish 26 = .ok (.if_acmp .ne 10, 3) := by decide +kernel
theorem dX2_finish_29 : decode cX2_finish 29 = .ok (.aload_n 0, 1) := by decide +kernel
theorem dX2_finish_30 : decode cX2_finish 30 = .ok (.getfield 25, 3) := by decide +kernel
theorem dX2_finish_33 : decode cX2_finish 33 = .ok (.iload_n 3, 1) := by decide +kernel
theorem dX2_finish_34 : decode cX2_finish 34 = .ok (.aconst_null, 1) := by decide +kernel
theorem dX2_finish_35 : decode cX2_finish 35 = .ok (.aastore, 1) := by decide +kernel
theorem dX2_finish_36 : decode cX2_finish 36 = .ok (.iinc 3 1, 3) := by decide +kernel
theorem dX2_finish_39 : decode cX2_finish 39 = .ok (.goto (-27), 3) := by decide +kernel
theorem dX2_finish_42 : decode cX2_finish 42 = .ok (.aload_n 0, 1) := by decide +kernel
theorem dX2_finish_43 : decode cX2_finish 43 = .ok (.aload_n 1, 1) := by decide +kernel
theorem dX2_finish_44 : decode cX2_finish 44 = .ok (.invokevirtual 186, 3) := by decide +kernel
theorem dX2_finish_47 : decode cX2_finish 47 = .ok (.return_, 1) := by decide +kernel
theorem dX2_countOwnWrites_0 : decode cX2_countOwnWrites 0 = .ok (.iconst 0, 1) := by decide +kernel
theorem dX2_countOwnWrites_1 : decode cX2_countOwnWrites 1 = .ok (.istore_n 2, 1) := by decide +kernel
theorem dX2_countOwnWrites_2 : decode cX2_countOwnWrites 2 = .ok (.iconst 0, 1) := by decide +kernel
theorem dX2_countOwnWrites_3 : decode cX2_countOwnWrites 3 = .ok (.istore_n 3, 1) := by decide +kernel
theorem dX2_countOwnWrites_4 : decode cX2_countOwnWrites 4 = .ok (.iload_n 3, 1) := by decide +kernel
theorem dX2_countOwnWrites_5 : decode cX2_countOwnWrites 5 = .ok (.sipush 200, 3) := by decide +kernel
theorem dX2_countOwnWrites_8 : decode cX2_countOwnWrites 8 = .ok (.if_icmp .ge 22, 3) := by decide +kernel
theorem dX2_countOwnWrites_11 : decode cX2_countOwnWrites 11 = .ok (.aload_n 0, 1) := by decide +kernel
theorem dX2_countOwnWrites_12 : decode cX2_countOwnWrites 12 = .ok (.getfield 25, 3) := by decide +kernel
theorem dX2_countOwnWrites_15 : decode cX2_countOwnWrites 15 = .ok (.iload_n 3, 1) := by decide +kernel
theorem dX2_countOwnWrites_16 : decode cX2_countOwnWrites 16 = .ok (.aaload, 1) := by decide +kernel
theorem dX2_countOwnWrites_17 : decode cX2_countOwnWrites 17 = .ok (.aload_n 1, 1) := by decide +kernel
theorem dX2_countOwnWrites_18 : decode cX2_countOwnWrites 18 = .ok (.if_acmp .ne 6, 3) := by decide +kernel
theorem dX2_countOwnWrites_21 : decode cX2_countOwnWrites 21 = .ok (.iinc 2 1, 3) := by decide +kernel
theorem dX2_countOwnWrites_24 : decode cX2_countOwnWrites 24 = .ok (.iinc 3 1, 3) := by decide +kernel
theorem dX2_countOwnWrites_27 : decode cX2_countOwnWrites 27 = .ok (.goto (-23), 3) := by decide +kernel
theorem dX2_countOwnWrites_30 : decode cX2_countOwnWrites 30 = .ok (.iload_n 2, 1) := by decide +kernel
theorem dX2_countOwnWrites_31 : decode cX2_countOwnWrites 31 = .ok (.ireturn, 1) := by decide +kernel
set_option maxRecDepth 20000 in
theorem ggX2_isRefused_X2_leastChangedNote : GoodIn wsX2_isRefused wsX2_leastChangedNote := goodIn_r _ [6, 7, 8, 9, 10, 11, 5, 12, 13, 14, 15, 16, 17, 18, 19, 20, 21, 22, 23, 24, 25, 26, 27, 28, 29, 30, 31, 32, 33, 34, 35, 36, 37, 38, 39, 40, 41, 42, 43, 44, 45, 46, 47] (by decide +kernel) (by decide +kernel)
set_option maxRecDepth 20000 in
theorem gX2_isRefused_X2_leastChangedNote : GoodIn wsX2_isRefused (wsV RX2 189 RX2 yX2_leastChangedNote wsX2_leastChangedNote) := goodIn_app (goodIn_of _ (by decide +kernel)) ggX2_isRefused_X2_leastChangedNote
theorem dX2_isRefused_0 : decode cX2_isRefused 0 = .ok (.aload_n 1, 1) := by decide +kernel
theorem dX2_isRefused_1 : decode cX2_isRefused 1 = .ok (.getfield 128, 3) := by decide +kernel
theorem dX2_isRefused_4 : decode cX2_isRefused 4 = .ok (.iconst 2, 1) := by decide +kernel
theorem dX2_isRefused_5 : decode cX2_isRefused 5 = .ok (.if_icmp .eq 11, 3) := by decide +kernel
theorem dX2_isRefused_8 : decode cX2_isRefused 8 = .ok (.aload_n 0, 1) := by decide +kernel
theorem dX2_isRefused_9 : decode cX2_isRefused 9 = .ok (.aload_n 1, 1) := by decide +kernel
theorem dX2_isRefused_10 : decode cX2_isRefused 10 = .ok (.invokevirtual 189, 3) := by decide +kernel
theorem dX2_isRefused_13 : decode cX2_isRefused 13 = .ok (.ifCond .lt 7, 3) := by decide +kernel
theorem dX2_isRefused_16 : decode cX2_isRefused 16 = .ok (.iconst 1, 1) := by decide +kernel
theorem dX2_isRefused_17 : decode cX2_isRefused 17 = .ok (.goto 4, 3) := by decide +kernel
theorem dX2_isRefused_20 : decode cX2_isRefused 20 = .ok (.iconst 0, 1) := by decide +kernel
theorem dX2_isRefused_21 : decode cX2_isRefused 21 = .ok (.ireturn, 1) := by decide +kernel
set_option maxRecDepth 20000 in
theorem ggX2_giveUp_X2_leastChangedNote : GoodIn wsX2_giveUp wsX2_leastChangedNote := goodIn_r _ [7, 8, 9, 10, 11, 12, 6, 13, 14, 15, 16, 17, 18, 19, 44, 45, 46, 47, 48, 49, 50, 51, 52, 53, 54, 55, 56, 57, 58, 59, 60, 61, 62, 63, 64, 65, 66, 67, 68, 69, 70, 71, 72] (by decide +kernel) (by decide +kernel)
set_option maxRecDepth 20000 in
theorem gX2_giveUp_X2_leastChangedNote : GoodIn wsX2_giveUp (wsV RX2 189 RX2 yX2_leastChangedNote wsX2_leastChangedNote) := goodIn_app (goodIn_of _ (by decide +kernel)) ggX2_giveUp_X2_leastChangedNote
set_option maxRecDepth 20000 in
theorem ggX2_giveUp_X2_finish : GoodIn wsX2_giveUp wsX2_finish := goodIn_r _ [23, 1, 24, 25, 26, 27, 28, 6, 29, 30, 31, 32, 33, 34, 35, 36, 37, 38, 39, 40, 41, 42, 43, 44, 45, 46, 47, 48, 49, 50, 51, 52, 53, 54, 55, 56, 57, 58, 59, 60, 61, 62, 63, 64, 65, 66, 67, 68, 69] (by decide +kernel) (by decide +kernel)
set_option maxRecDepth 20000 in
theorem gX2_giveUp_X2_finish : GoodIn wsX2_giveUp (wsV RX2 110 RX2 yX2_finish wsX2_finish) := goodIn_app (goodIn_of _ (by decide +kernel)) ggX2_giveUp_X2_finish
theorem dX2_giveUp_0 : decode cX2_giveUp 0 = .ok (.aload_n 1, 1) := by decide +kernel
theorem dX2_giveUp_1 : decode cX2_giveUp 1 = .ok (.getfield 128, 3) := by decide +kernel
theorem dX2_giveUp_4 : decode cX2_giveUp 4 = .ok (.iconst 2, 1) := by decide +kernel
theorem dX2_giveUp_5 : decode cX2_giveUp 5 = .ok (.if_icmp .eq 23, 3) := by decide +kernel
theorem dX2_giveUp_8 : decode cX2_giveUp 8 = .ok (.aload_n 0, 1) := by decide +kernel
theorem dX2_giveUp_9 : decode cX2_giveUp 9 = .ok (.aload_n 1, 1) := by decide +kernel
theorem dX2_giveUp_10 : decode cX2_giveUp 10 = .ok (.invokevirtual 189, 3) := by decide +kernel
theorem dX2_giveUp_13 : decode cX2_giveUp 13 = .ok (.istore_n 2, 1) := by decide +kernel
theorem dX2_giveUp_14 : decode cX2_giveUp 14 = .ok (.iload_n 2, 1) := by decide +kernel
theorem dX2_giveUp_15 : decode cX2_giveUp 15 = .ok (.ifCond .lt 13, 3) := by decide +kernel
theorem dX2_giveUp_18 : decode cX2_giveUp 18 = .ok (.aload_n 0, 1) := by decide +kernel
theorem dX2_giveUp_19 : decode cX2_giveUp 19 = .ok (.getfield 35, 3) := by decide +kernel
theorem dX2_giveUp_22 : decode cX2_giveUp 22 = .ok (.iload_n 2, 1) := by decide +kernel
theorem dX2_giveUp_23 : decode cX2_giveUp 23 = .ok (.dup2, 1) := by decide +kernel
theorem dX2_giveUp_24 : decode cX2_giveUp 24 = .ok (.iaload, 1) := by decide +kernel
theorem dX2_giveUp_25 : decode cX2_giveUp 25 = .ok (.iconst 1, 1) := by decide +kernel
theorem dX2_giveUp_26 : decode cX2_giveUp 26 = .ok (.iadd, 1) := by decide +kernel
theorem dX2_giveUp_27 : decode cX2_giveUp 27 = .ok (.iastore, 1) := by decide +kernel
theorem dX2_giveUp_28 : decode cX2_giveUp 28 = .ok (.aload_n 0, 1) := by decide +kernel
theorem dX2_giveUp_29 : decode cX2_giveUp 29 = .ok (.aload_n 1, 1) := by decide +kernel
theorem dX2_giveUp_30 : decode cX2_giveUp 30 = .ok (.iconst 4, 1) := by decide +kernel
theorem dX2_giveUp_31 : decode cX2_giveUp 31 = .ok (.invokevirtual 110, 3) := by decide +kernel
theorem dX2_giveUp_34 : decode cX2_giveUp 34 = .ok (.iconst 0, 1) := by decide +kernel
theorem dX2_giveUp_35 : decode cX2_giveUp 35 = .ok (.ireturn, 1) := by decide +kernel
set_option maxRecDepth 20000 in
theorem ggX2_makeVersion_X2_addChanges : GoodIn wsX2_makeVersion wsX2_addChanges := goodIn_r _ [7, 8, 9, 2, 10, 11, 12, 13, 14, 15, 16, 17, 6, 18, 19, 20, 21, 22, 23, 24, 25, 26, 27, 28, 29, 30, 55, 56, 57, 58, 59, 60, 61, 62, 63, 64, 65, 66, 67, 68, 69, 70, 71, 72, 73, 74, 75, 76, 77, 78, 79, 80, 81, 82, 83] (by decide +kernel) (by decide +kernel)
set_option maxRecDepth 20000 in
theorem gX2_makeVersion_X2_addChanges : GoodIn wsX2_makeVersion (wsV RX2 192 RX2 yX2_addChanges wsX2_addChanges) := goodIn_app (goodIn_of _ (by decide +kernel)) ggX2_makeVersion_X2_addChanges
set_option maxRecDepth 20000 in
theorem ggX2_makeVersion_X2_finish : GoodIn wsX2_makeVersion wsX2_finish := goodIn_r _ [34, 35, 36, 8, 37, 38, 39, 6, 40, 41, 42, 43, 44, 45, 46, 47, 48, 49, 50, 51, 52, 53, 54, 70, 71, 72, 73, 74, 75, 76, 77, 78, 79, 80, 55, 56, 57, 58, 59, 60, 61, 62, 63, 64, 65, 66, 67, 68, 69] (by decide +kernel) (by decide +kernel)
set_option maxRecDepth 20000 in
theorem gX2_makeVersion_X2_finish : GoodIn wsX2_makeVersion (wsV RX2 110 RX2 yX2_finish wsX2_finish) := goodIn_app (goodIn_of _ (by decide +kernel)) ggX2_makeVersion_X2_finish
theorem dX2_makeVersion_0 : decode cX2_makeVersion 0 = .ok (.aload_n 0, 1) := by decide +kernel
theorem dX2_makeVersion_1 : decode cX2_makeVersion 1 = .ok (.getfield 41, 3) := by decide +kernel
theorem dX2_makeVersion_4 : decode cX2_makeVersion 4 = .ok (.iconst 1, 1) := by decide +kernel
theorem dX2_makeVersion_5 : decode cX2_makeVersion 5 = .ok (.iadd, 1) := by decide +kernel
theorem dX2_makeVersion_6 : decode cX2_makeVersion 6 = .ok (.istore_n 2, 1) := by decide +kernel
theorem dX2_makeVersion_7 : decode cX2_makeVersion 7 = .ok (.aload_n 0, 1) := by decide +kernel
theorem dX2_makeVersion_8 : decode cX2_makeVersion 8 = .ok (.aload_n 1, 1) := by decide +kernel
theorem dX2_makeVersion_9 : decode cX2_makeVersion 9 = .ok (.iload_n 2, 1) := by decide +kernel
theorem dX2_makeVersion_10 : decode cX2_makeVersion 10 = .ok (.invokevirtual 192, 3) := by decide +kernel
theorem dX2_makeVersion_13 : decode cX2_makeVersion 13 = .ok (.ifCond .le 11, 3) := by decide +kernel
theorem dX2_makeVersion_16 : decode cX2_makeVersion 16 = .ok (.aload_n 0, 1) := by decide +kernel
theorem dX2_makeVersion_17 : decode cX2_makeVersion 17 = .ok (.iload_n 2, 1) := by decide +kernel
theorem dX2_makeVersion_18 : decode cX2_makeVersion 18 = .ok (.putfield 41, 3) := by decide +kernel
theorem dX2_makeVersion_21 : decode cX2_makeVersion 21 = .ok (.goto 8, 3) := by decide +kernel
theorem dX2_makeVersion_24 : decode cX2_makeVersion 24 = .ok (.aload_n 1, 1) := by decide +kernel
theorem dX2_makeVersion_25 : decode cX2_makeVersion 25 = .ok (.getfield 87, 3) := by decide +kernel
theorem dX2_makeVersion_28 : decode cX2_makeVersion 28 = .ok (.istore_n 2, 1) := by decide +kernel
theorem dX2_makeVersion_29 : decode cX2_makeVersion 29 = .ok (.aload_n 0, 1) := by decide +kernel
theorem dX2_makeVersion_30 : decode cX2_makeVersion 30 = .ok (.aload_n 1, 1) := by decide +kernel
theorem dX2_makeVersion_31 : decode cX2_makeVersion 31 = .ok (.iconst 3, 1) := by decide +kernel
theorem dX2_makeVersion_32 : decode cX2_makeVersion 32 = .ok (.invokevirtual 110, 3) := by decide +kernel
theorem dX2_makeVersion_35 : decode cX2_makeVersion 35 = .ok (.iload_n 2, 1) := by decide +kernel
theorem dX2_makeVersion_36 : decode cX2_makeVersion 36 = .ok (.ireturn, 1) := by decide +kernel
set_option maxRecDepth 20000 in
theorem ggX2_addChanges_X2_isThere : GoodIn wsX2_addChanges wsX2_isThere := goodIn_r _ [13, 4, 14, 15, 16, 26, 27, 28, 29, 30, 31, 32, 33, 34, 35, 36, 37, 38, 39, 40, 52, 53, 54] (by decide +kernel) (by decide +kernel)
set_option maxRecDepth 20000 in
theorem gX2_addChanges_X2_isThere : GoodIn wsX2_addChanges (wsV RX2 90 RX2 yX2_isThere wsX2_isThere) := goodIn_app (goodIn_of _ (by decide +kernel)) ggX2_addChanges_X2_isThere
set_option maxRecDepth 20000 in
theorem ggX2_addChanges_X0_init : GoodIn wsX2_addChanges wsX0_init := goodIn_r _ [19, 20, 21, 22, 23, 24, 25, 52, 53, 54] (by decide +kernel) (by decide +kernel)
set_option maxRecDepth 20000 in
theorem gX2_addChanges_X0_init : GoodIn wsX2_addChanges (wsX0_init) := ggX2_addChanges_X0_init
theorem dX2_addChanges_0 : decode cX2_addChanges 0 = .ok (.iconst 0, 1) := by decide +kernel
theorem dX2_addChanges_1 : decode cX2_addChanges 1 = .ok (.istore_n 3, 1) := by decide +kernel
theorem dX2_addChanges_2 : decode cX2_addChanges 2 = .ok (.iconst 0, 1) := by decide +kernel
theorem dX2_addChanges_3 : decode cX2_addChanges 3 = .ok (.istore 4, 2) := by decide +kernel
theorem dX2_addChanges_5 : decode cX2_addChanges 5 = .ok (.iload 4, 2) := by decide +kernel
theorem dX2_addChanges_7 : decode cX2_addChanges 7 = .ok (.sipush 200, 3) := by decide +kernel
theorem dX2_addChanges_10 : decode cX2_addChanges 10 = .ok (.if_icmp .ge 72, 3) := by decide +kernel
theorem dX2_addChanges_13 : decode cX2_addChanges 13 = .ok (.aload_n 0, 1) := by decide +kernel
theorem dX2_addChanges_14 : decode cX2_addChanges 14 = .ok (.getfield 25, 3) := by decide +kernel
theorem dX2_addChanges_17 : decode cX2_addChanges 17 = .ok (.iload 4, 2) := by decide +kernel
theorem dX2_addChanges_19 : decode cX2_addChanges 19 = .ok (.aaload, 1) := by decide +kernel
theorem dX2_addChanges_20 : decode cX2_addChanges 20 = .ok (.aload_n 1, 1) := by decide +kernel
theorem dX2_addChanges_21 : decode cX2_addChanges 21 = .ok (.if_acmp .ne 55, 3) := by decide +kernel
theorem dX2_addChanges_24 : decode cX2_addChanges 24 = .ok (.aload_n 0, 1) := by decide +kernel
theorem dX2_addChanges_25 : decode cX2_addChanges 25 = .ok (.getfield 28, 3) := by decide +kernel
theorem dX2_addChanges_28 : decode cX2_addChanges 28 = .ok (.iload 4, 2) := by decide +kernel
theorem dX2_addChanges_30 : decode cX2_addChanges 30 = .ok (.baload, 1) := by decide +kernel
theorem dX2_addChanges_31 : decode cX2_addChanges 31 = .ok (.aload_n 0, 1) := by decide +kernel
theorem dX2_addChanges_32 : decode cX2_addChanges 32 = .ok (.iload 4, 2) := by decide +kernel
theorem dX2_addChanges_34 : decode cX2_addChanges 34 = .ok (.aload_n 1, 1) := by decide +kernel
theorem dX2_addChanges_35 : decode cX2_addChanges 35 = .ok (.getfield 87, 3) := by decide +kernel
theorem dX2_addChanges_38 : decode cX2_addChanges 38 = .ok (.invokevirtual 90, 3) := by decide +kernel
theorem dX2_addChanges_41 : decode cX2_addChanges 41 = .ok (.if_icmp .eq 35, 3) := by decide +kernel
theorem dX2_addChanges_44 : decode cX2_addChanges 44 = .ok (.aload_n 0, 1) := by decide +kernel
theorem dX2_addChanges_45 : decode cX2_addChanges 45 = .ok (.getfield 17, 3) := by decide +kernel
theorem dX2_addChanges_48 : decode cX2_addChanges 48 = .ok (.iload 4, 2) := by decide +kernel
theorem dX2_addChanges_50 : decode cX2_addChanges 50 = .ok (.new 15, 3) := by decide +kernel
theorem dX2_addChanges_53 : decode cX2_addChanges 53 = .ok (.dup, 1) := by decide +kernel
theorem dX2_addChanges_54 : decode cX2_addChanges 54 = .ok (.iload_n 2, 1) := by decide +kernel
theorem dX2_addChanges_55 : decode cX2_addChanges 55 = .ok (.aload_n 0, 1) := by decide +kernel
theorem dX2_addChanges_56 : decode cX2_addChanges 56 = .ok (.getfield 28, 3) := by decide +kernel
theorem dX2_addChanges_59 : decode cX2_addChanges 59 = .ok (.iload 4, 2) := by decide +kernel
theorem dX2_addChanges_61 : decode cX2_addChanges 61 = .ok (.baload, 1) := by decide +kernel
theorem dX2_addChanges_62 : decode cX2_addChanges 62 = .ok (.aload_n 0, 1) := by decide +kernel
theorem dX2_addChanges_63 : decode cX2_addChanges 63 = .ok (.getfield 17, 3) := by decide +kernel
theorem dX2_addChanges_66 : decode cX2_addChanges 66 = .ok (.iload 4, 2) := by decide +kernel
theorem dX2_addChanges_68 : decode cX2_addChanges 68 = .ok (.aaload, 1) := by decide +kernel
theorem dX2_addChanges_69 : decode cX2_addChanges 69 = .ok (.invokespecial 196, 3) := by decide +kernel
theorem dX2_addChanges_72 : decode cX2_addChanges 72 = .ok (.aastore, 1) := by decide +kernel
theorem dX2_addChanges_73 : decode cX2_addChanges 73 = .ok (.iinc 3 1, 3) := by decide +kernel
theorem dX2_addChanges_76 : decode cX2_addChanges 76 = .ok (.iinc 4 1, 3) := by decide +kernel
theorem dX2_addChanges_79 : decode cX2_addChanges 79 = .ok (.goto (-74), 3) := by decide +kernel
theorem dX2_addChanges_82 : decode cX2_addChanges 82 = .ok (.aload_n 0, 1) := by decide +kernel
theorem dX2_addChanges_83 : decode cX2_addChanges 83 = .ok (.dup, 1) := by decide +kernel
theorem dX2_addChanges_84 : decode cX2_addChanges 84 = .ok (.getfield 125, 3) := by decide +kernel
theorem dX2_addChanges_87 : decode cX2_addChanges 87 = .ok (.iload_n 3, 1) := by decide +kernel
theorem dX2_addChanges_88 : decode cX2_addChanges 88 = .ok (.iadd, 1) := by decide +kernel
theorem dX2_addChanges_89 : decode cX2_addChanges 89 = .ok (.putfield 125, 3) := by decide +kernel
theorem dX2_addChanges_92 : decode cX2_addChanges 92 = .ok (.iload_n 3, 1) := by decide +kernel
theorem dX2_addChanges_93 : decode cX2_addChanges 93 = .ok (.ireturn, 1) := by decide +kernel
set_option maxRecDepth 20000 in
theorem ggX2_leastChangedNote_X2_isGraphChangedSince : GoodIn wsX2_leastChangedNote wsX2_isGraphChangedSince := goodIn_r _ [7, 8, 9, 10, 6, 11, 12, 13, 25, 26, 27, 28, 29, 30, 31, 32, 33, 34, 35, 36, 37, 38, 39, 40, 41, 42] (by decide +kernel) (by decide +kernel)
set_option maxRecDepth 20000 in
theorem gX2_leastChangedNote_X2_isGraphChangedSince : GoodIn wsX2_leastChangedNote (wsV RX2 199 RX2 yX2_isGraphChangedSince wsX2_isGraphChangedSince) := goodIn_app (goodIn_of _ (by decide +kernel)) ggX2_leastChangedNote_X2_isGraphChangedSince
theorem dX2_leastChangedNote_0 : decode cX2_leastChangedNote 0 = .ok (.iconst 0, 1) := by decide +kernel
theorem dX2_leastChangedNote_1 : decode cX2_leastChangedNote 1 = .ok (.istore_n 2, 1) := by decide +kernel
theorem dX2_leastChangedNote_2 : decode cX2_leastChangedNote 2 = .ok (.iload_n 2, 1) := by decide +kernel
theorem dX2_leastChangedNote_3 : decode cX2_leastChangedNote 3 = .ok (.iconst 4, 1) := by decide +kernel
theorem dX2_leastChangedNote_4 : decode cX2_leastChangedNote 4 = .ok (.if_icmp .ge 32, 3) := by decide +kernel
theorem dX2_leastChangedNote_7 : decode cX2_leastChangedNote 7 = .ok (.aload_n 1, 1) := by decide +kernel
theorem dX2_leastChangedNote_8 : decode cX2_leastChangedNote 8 = .ok (.getfield 78, 3) := by decide +kernel
theorem dX2_leastChangedNote_11 : decode cX2_leastChangedNote 11 = .ok (.iload_n 2, 1) := by decide +kernel
theorem dX2_leastChangedNote_12 : decode cX2_leastChangedNote 12 = .ok (.baload, 1) := by decide +kernel
theorem dX2_leastChangedNote_13 : decode cX2_leastChangedNote 13 = .ok (.ifCond .eq 17, 3) := by decide +kernel
theorem dX2_leastChangedNote_16 : decode cX2_leastChangedNote 16 = .ok (.aload_n 0, 1) := by decide +kernel
theorem dX2_leastChangedNote_17 : decode cX2_leastChangedNote 17 = .ok (.iload_n 2, 1) := by decide +kernel
theorem dX2_leastChangedNote_18 : decode cX2_leastChangedNote 18 = .ok (.aload_n 1, 1) := by decide +kernel
theorem dX2_leastChangedNote_19 : decode cX2_leastChangedNote 19 = .ok (.getfield 87, 3) := by decide +kernel
theorem dX2_leastChangedNote_22 : decode cX2_leastChangedNote 22 = .ok (.invokevirtual 199, 3) := by decide +kernel
theorem dX2_leastChangedNote_25 : decode cX2_leastChangedNote 25 = .ok (.ifCond .eq 5, 3) := by decide +kernel
theorem dX2_leastChangedNote_28 : decode cX2_leastChangedNote 28 = .ok (.iload_n 2, 1) := by decide +kernel
theorem dX2_leastChangedNote_29 : decode cX2_leastChangedNote 29 = .ok (.ireturn, 1) := by decide +kernel
theorem dX2_leastChangedNote_30 : decode cX2_leastChangedNote 30 = .ok (.iinc 2 1, 3) := by decide +kernel
theorem dX2_leastChangedNote_33 : decode cX2_leastChangedNote 33 = .ok (.goto (-31), 3) := by decide +kernel
theorem dX2_leastChangedNote_36 : decode cX2_leastChangedNote 36 = .ok (.iconst (-1), 1) := by decide +kernel
theorem dX2_leastChangedNote_37 : decode cX2_leastChangedNote 37 = .ok (.ireturn, 1) := by decide +kernel
set_option maxRecDepth 20000 in
theorem ggX2_isGraphChangedSince_X2_isChangedSince : GoodIn wsX2_isGraphChangedSince wsX2_isChangedSince := goodIn_r _ [5, 6, 7, 8, 9, 10, 11, 12, 13, 14, 15, 16, 17, 18, 19, 20, 21, 22, 23, 24, 25] (by decide +kernel) (by decide +kernel)
set_option maxRecDepth 20000 in
theorem gX2_isGraphChangedSince_X2_isChangedSince : GoodIn wsX2_isGraphChangedSince (wsV RX2 202 RX2 yX2_isChangedSince wsX2_isChangedSince) := goodIn_app (goodIn_of _ (by decide +kernel)) ggX2_isGraphChangedSince_X2_isChangedSince
theorem dX2_isGraphChangedSince_0 : decode cX2_isGraphChangedSince 0 = .ok (.iload_n 1, 1) := by decide +kernel
theorem dX2_isGraphChangedSince_1 : decode cX2_isGraphChangedSince 1 = .ok (.bipush 50, 2) := by decide +kernel
theorem dX2_isGraphChangedSince_3 : decode cX2_isGraphChangedSince 3 = .ok (.imul, 1) := by decide +kernel
theorem dX2_isGraphChangedSince_4 : decode cX2_isGraphChangedSince 4 = .ok (.istore_n 3, 1) := by decide +kernel
theorem dX2_isGraphChangedSince_5 : decode cX2_isGraphChangedSince 5 = .ok (.iload_n 3, 1) := by decide +kernel
theorem dX2_isGraphChangedSince_6 : decode cX2_isGraphChangedSince 6 = .ok (.istore 4, 2) := by decide +kernel
theorem dX2_isGraphChangedSince_8 : decode cX2_isGraphChangedSince 8 = .ok (.iload 4, 2) := by decide +kernel
theorem dX2_isGraphChangedSince_10 : decode cX2_isGraphChangedSince 10 = .ok (.iload_n 3, 1) := by decide +kernel
theorem dX2_isGraphChangedSince_11 : decode cX2_isGraphChangedSince 11 = .ok (.bipush 50, 2) := by decide +kernel
theorem dX2_isGraphChangedSince_13 : decode cX2_isGraphChangedSince 13 = .ok (.iadd, 1) := by decide +kernel
theorem dX2_isGraphChangedSince_14 : decode cX2_isGraphChangedSince 14 = .ok (.if_icmp .ge 21, 3) := by decide +kernel
theorem dX2_isGraphChangedSince_17 : decode cX2_isGraphChangedSince 17 = .ok (.aload_n 0, 1) := by decide +kernel
theorem dX2_isGraphChangedSince_18 : decode cX2_isGraphChangedSince 18 = .ok (.iload 4, 2) := by decide +kernel
theorem dX2_isGraphChangedSince_20 : decode cX2_isGraphChangedSince 20 = .ok (.iload_n 2, 1) := by decide +kernel
theorem dX2_isGraphChangedSince_21 : decode cX2_isGraphChangedSince 21 = .ok (.invokevirtual 202, 3) := by decide +kernel
theorem dX2_isGraphChangedSince_24 : decode cX2_isGraphChangedSince 24 = .ok (.ifCond .eq 5, 3) := by decide +kernel
theorem dX2_isGraphChangedSince_27 : decode cX2_isGraphChangedSince 27 = .ok (.iconst 1, 1) := by decide +kernel
theorem dX2_isGraphChangedSince_28 : decode cX2_isGraphChangedSince 28 = .ok (.ireturn, 1) := by decide +kernel
theorem dX2_isGraphChangedSince_29 : decode cX2_isGraphChangedSince 29 = .ok (.iinc 4 1, 3) := by decide +kernel
theorem dX2_isGraphChangedSince_32 : decode cX2_isGraphChangedSince 32 = .ok (.goto (-24), 3) := by decide +kernel
theorem dX2_isGraphChangedSince_35 : decode cX2_isGraphChangedSince 35 = .ok (.iconst 0, 1) := by decide +kernel
theorem dX2_isGraphChangedSince_36 : decode cX2_isGraphChangedSince 36 = .ok (.ireturn, 1) := by decide +kernel
theorem dX2_isChangedSince_0 : decode cX2_isChangedSince 0 = .ok (.aload_n 0, 1) := by decide +kernel
theorem dX2_isChangedSince_1 : decode cX2_isChangedSince 1 = .ok (.getfield 17, 3) := by decide +kernel
theorem dX2_isChangedSince_4 : decode cX2_isChangedSince 4 = .ok (.iload_n 1, 1) := by decide +kernel
theorem dX2_isChangedSince_5 : decode cX2_isChangedSince 5 = .ok (.aaload, 1) := by decide +kernel
theorem dX2_isChangedSince_6 : decode cX2_isChangedSince 6 = .ok (.ifnull 20, 3) := by decide +kernel
theorem dX2_isChangedSince_9 : decode cX2_isChangedSince 9 = .ok (.aload_n 0, 1) := by decide +kernel
theorem dX2_isChangedSince_10 : decode cX2_isChangedSince 10 = .ok (.getfield 17, 3) := by decide +kernel
theorem dX2_isChangedSince_13 : decode cX2_isChangedSince 13 = .ok (.iload_n 1, 1) := by decide +kernel
theorem dX2_isChangedSince_14 : decode cX2_isChangedSince 14 = .ok (.aaload, 1) := by decide +kernel
theorem dX2_isChangedSince_15 : decode cX2_isChangedSince 15 = .ok (.getfield 205, 3) := by decide +kernel
theorem dX2_isChangedSince_18 : decode cX2_isChangedSince 18 = .ok (.iload_n 2, 1) := by decide +kernel
theorem dX2_isChangedSince_19 : decode cX2_isChangedSince 19 = .ok (.if_icmp .le 7, 3) := by decide +kernel
theorem dX2_isChangedSince_22 : decode cX2_isChangedSince 22 = .ok (.iconst 1, 1) := by decide +kernel
theorem dX2_isChangedSince_23 : decode cX2_isChangedSince 23 = .ok (.goto 4, 3) := by decide +kernel
theorem dX2_isChangedSince_26 : decode cX2_isChangedSince 26 = .ok (.iconst 0, 1) := by decide +kernel
theorem dX2_isChangedSince_27 : decode cX2_isChangedSince 27 = .ok (.ireturn, 1) := by decide +kernel
theorem dX2_isThere_0 : decode cX2_isThere 0 = .ok (.aload_n 0, 1) := by decide +kernel
theorem dX2_isThere_1 : decode cX2_isThere 1 = .ok (.getfield 17, 3) := by decide +kernel
theorem dX2_isThere_4 : decode cX2_isThere 4 = .ok (.iload_n 1, 1) := by decide +kernel
theorem dX2_isThere_5 : decode cX2_isThere 5 = .ok (.aaload, 1) := by decide +kernel
theorem dX2_isThere_6 : decode cX2_isThere 6 = .ok (.astore_n 3, 1) := by decide +kernel
theorem dX2_isThere_7 : decode cX2_isThere 7 = .ok (.aload_n 3, 1) := by decide +kernel
theorem dX2_isThere_8 : decode cX2_isThere 8 = .ok (.ifnull 19, 3) := by decide +kernel
theorem dX2_isThere_11 : decode cX2_isThere 11 = .ok (.aload_n 3, 1) := by decide +kernel
theorem dX2_isThere_12 : decode cX2_isThere 12 = .ok (.getfield 205, 3) := by decide +kernel
theorem dX2_isThere_15 : decode cX2_isThere 15 = .ok (.iload_n 2, 1) := by decide +kernel
theorem dX2_isThere_16 : decode cX2_isThere 16 = .ok (.if_icmp .le 11, 3) := by decide +kernel
theorem dX2_isThere_19 : decode cX2_isThere 19 = .ok (.aload_n 3, 1) := by decide +kernel
theorem dX2_isThere_20 : decode cX2_isThere 20 = .ok (.getfield 208, 3) := by decide +kernel
theorem dX2_isThere_23 : decode cX2_isThere 23 = .ok (.astore_n 3, 1) := by decide +kernel
theorem dX2_isThere_24 : decode cX2_isThere 24 = .ok (.goto (-17), 3) := by decide +kernel
theorem dX2_isThere_27 : decode cX2_isThere 27 = .ok (.aload_n 3, 1) := by decide +kernel
theorem dX2_isThere_28 : decode cX2_isThere 28 = .ok (.ifnull 14, 3) := by decide +kernel
theorem dX2_isThere_31 : decode cX2_isThere 31 = .ok (.aload_n 3, 1) := by decide +kernel
theorem dX2_isThere_32 : decode cX2_isThere 32 = .ok (.getfield 212, 3) := by decide +kernel
theorem dX2_isThere_35 : decode cX2_isThere 35 = .ok (.ifCond .eq 7, 3) := by decide +kernel
theorem dX2_isThere_38 : decode cX2_isThere 38 = .ok (.iconst 1, 1) := by decide +kernel
theorem dX2_isThere_39 : decode cX2_isThere 39 = .ok (.goto 4, 3) := by decide +kernel
theorem dX2_isThere_42 : decode cX2_isThere 42 = .ok (.iconst 0, 1) := by decide +kernel
theorem dX2_isThere_43 : decode cX2_isThere 43 = .ok (.ireturn, 1) := by decide +kernel
set_option maxRecDepth 20000 in
theorem ggX2_leastKept_X1_hasEnded : GoodIn wsX2_leastKept wsX1_hasEnded := goodIn_r _ [14, 15, 31, 32, 33, 34, 35, 36, 37, 38, 39, 40, 41] (by decide +kernel) (by decide +kernel)
set_option maxRecDepth 20000 in
theorem gX2_leastKept_X1_hasEnded : GoodIn wsX2_leastKept (wsV RX2 164 RX1 yX1_hasEnded wsX1_hasEnded) := goodIn_app (goodIn_of _ (by decide +kernel)) ggX2_leastKept_X1_hasEnded
theorem dX2_leastKept_0 : decode cX2_leastKept 0 = .ok (.aload_n 0, 1) := by decide +kernel
theorem dX2_leastKept_1 : decode cX2_leastKept 1 = .ok (.getfield 41, 3) := by decide +kernel
theorem dX2_leastKept_4 : decode cX2_leastKept 4 = .ok (.istore_n 1, 1) := by decide +kernel
theorem dX2_leastKept_5 : decode cX2_leastKept 5 = .ok (.iconst 0, 1) := by decide +kernel
theorem dX2_leastKept_6 : decode cX2_leastKept 6 = .ok (.istore_n 2, 1) := by decide +kernel
theorem dX2_leastKept_7 : decode cX2_leastKept 7 = .ok (.iload_n 2, 1) := by decide +kernel
theorem dX2_leastKept_8 : decode cX2_leastKept 8 = .ok (.aload_n 0, 1) := by decide +kernel
theorem dX2_leastKept_9 : decode cX2_leastKept 9 = .ok (.getfield 144, 3) := by decide +kernel
theorem dX2_leastKept_12 : decode cX2_leastKept 12 = .ok (.if_icmp .ge 35, 3) := by decide +kernel
theorem dX2_leastKept_15 : decode cX2_leastKept 15 = .ok (.aload_n 0, 1) := by decide +kernel
theorem dX2_leastKept_16 : decode cX2_leastKept 16 = .ok (.getfield 11, 3) := by decide +kernel
theorem dX2_leastKept_19 : decode cX2_leastKept 19 = .ok (.iload_n 2, 1) := by decide +kernel
theorem dX2_leastKept_20 : decode cX2_leastKept 20 = .ok (.aaload, 1) := by decide +kernel
theorem dX2_leastKept_21 : decode cX2_leastKept 21 = .ok (.invokevirtual 164, 3) := by decide +kernel
theorem dX2_leastKept_24 : decode cX2_leastKept 24 = .ok (.ifCond .ne 17, 3) := by decide +kernel
theorem dX2_leastKept_27 : decode cX2_leastKept 27 = .ok (.iload_n 1, 1) := by decide +kernel
theorem dX2_leastKept_28 : decode cX2_leastKept 28 = .ok (.aload_n 0, 1) := by decide +kernel
theorem dX2_leastKept_29 : decode cX2_leastKept 29 = .ok (.getfield 11, 3) := by decide +kernel
theorem dX2_leastKept_32 : decode cX2_leastKept 32 = .ok (.iload_n 2, 1) := by decide +kernel
theorem dX2_leastKept_33 : decode cX2_leastKept 33 = .ok (.aaload, 1) := by decide +kernel
theorem dX2_leastKept_34 : decode cX2_leastKept 34 = .ok (.getfield 87, 3) := by decide +kernel
theorem dX2_leastKept_37 : decode cX2_leastKept 37 = .ok (.invokestatic 215, 3) := by decide +kernel
theorem dX2_leastKept_40 : decode cX2_leastKept 40 = .ok (.istore_n 1, 1) := by decide +kernel
theorem dX2_leastKept_41 : decode cX2_leastKept 41 = .ok (.iinc 2 1, 3) := by decide +kernel
theorem dX2_leastKept_44 : decode cX2_leastKept 44 = .ok (.goto (-37), 3) := by decide +kernel
theorem dX2_leastKept_47 : decode cX2_leastKept 47 = .ok (.iconst 0, 1) := by decide +kernel
theorem dX2_leastKept_48 : decode cX2_leastKept 48 = .ok (.istore_n 2, 1) := by decide +kernel
theorem dX2_leastKept_49 : decode cX2_leastKept 49 = .ok (.iload_n 2, 1) := by decide +kernel
theorem dX2_leastKept_50 : decode cX2_leastKept 50 = .ok (.iload_n 1, 1) := by decide +kernel
theorem dX2_leastKept_51 : decode cX2_leastKept 51 = .ok (.if_icmp .ge 20, 3) := by decide +kernel
theorem dX2_leastKept_54 : decode cX2_leastKept 54 = .ok (.aload_n 0, 1) := by decide +kernel
theorem dX2_leastKept_55 : decode cX2_leastKept 55 = .ok (.getfield 21, 3) := by decide +kernel
theorem dX2_leastKept_58 : decode cX2_leastKept 58 = .ok (.iload_n 2, 1) := by decide +kernel
theorem dX2_leastKept_59 : decode cX2_leastKept 59 = .ok (.iaload, 1) := by decide +kernel
theorem dX2_leastKept_60 : decode cX2_leastKept 60 = .ok (.ifCond .le 5, 3) := by decide +kernel
theorem dX2_leastKept_63 : decode cX2_leastKept 63 = .ok (.iload_n 2, 1) := by decide +kernel
theorem dX2_leastKept_64 : decode cX2_leastKept 64 = .ok (.ireturn, 1) := by decide +kernel
theorem dX2_leastKept_65 : decode cX2_leastKept 65 = .ok (.iinc 2 1, 3) := by decide +kernel
theorem dX2_leastKept_68 : decode cX2_leastKept 68 = .ok (.goto (-19), 3) := by decide +kernel
theorem dX2_leastKept_71 : decode cX2_leastKept 71 = .ok (.iload_n 1, 1) := by decide +kernel
theorem dX2_leastKept_72 : decode cX2_leastKept 72 = .ok (.ireturn, 1) := by decide +kernel
set_option maxRecDepth 20000 in
theorem ggX2_dropOldRows_X2_countRows : GoodIn wsX2_dropOldRows wsX2_countRows := goodIn_r _ [8, 3, 28, 29, 30] (by decide +kernel) (by decide +kernel)
set_option maxRecDepth 20000 in
theorem gX2_dropOldRows_X2_countRows : GoodIn wsX2_dropOldRows (va_wsS RX2 220 yX2_countRows wsX2_countRows) := goodIn_app (goodIn_of _ (by decide +kernel)) ggX2_dropOldRows_X2_countRows
set_option maxRecDepth 20000 in
theorem ggX2_dropOldRows_X2_cutBelow : GoodIn wsX2_dropOldRows wsX2_cutBelow := goodIn_r _ [12, 1, 3, 13, 14, 15, 16, 17, 18, 19, 20, 21, 22, 23, 24, 25, 26, 27, 28, 29, 30] (by decide +kernel) (by decide +kernel)
set_option maxRecDepth 20000 in
theorem gX2_dropOldRows_X2_cutBelow : GoodIn wsX2_dropOldRows (wsV RX2 224 RX2 yX2_cutBelow wsX2_cutBelow) := goodIn_app (goodIn_of _ (by decide +kernel)) ggX2_dropOldRows_X2_cutBelow
theorem dX2_dropOldRows_0 : decode cX2_dropOldRows 0 = .ok (.aconst_null, 1) := by decide +kernel
theorem dX2_dropOldRows_1 : decode cX2_dropOldRows 1 = .ok (.astore_n 3, 1) := by decide +kernel
theorem dX2_dropOldRows_2 : decode cX2_dropOldRows 2 = .ok (.aload_n 0, 1) := by decide +kernel
theorem dX2_dropOldRows_3 : decode cX2_dropOldRows 3 = .ok (.getfield 17, 3) := by decide +kernel
theorem dX2_dropOldRows_6 : decode cX2_dropOldRows 6 = .ok (.iload_n 1, 1) := by decide +kernel
theorem dX2_dropOldRows_7 : decode cX2_dropOldRows 7 = .ok (.aaload, 1) := by decide +kernel
theorem dX2_dropOldRows_8 : decode cX2_dropOldRows 8 = .ok (.astore 4, 2) := by decide +kernel
theorem dX2_dropOldRows_10 : decode cX2_dropOldRows 10 = .ok (.aload 4, 2) := by decide +kernel
theorem dX2_dropOldRows_12 : decode cX2_dropOldRows 12 = .ok (.ifnull 25, 3) := by decide +kernel
theorem dX2_dropOldRows_15 : decode cX2_dropOldRows 15 = .ok (.aload 4, 2) := by decide +kernel
theorem dX2_dropOldRows_17 : decode cX2_dropOldRows 17 = .ok (.getfield 205, 3) := by decide +kernel
theorem dX2_dropOldRows_20 : decode cX2_dropOldRows 20 = .ok (.iload_n 2, 1) := by decide +kernel
theorem dX2_dropOldRows_21 : decode cX2_dropOldRows 21 = .ok (.if_icmp .le 16, 3) := by decide +kernel
theorem dX2_dropOldRows_24 : decode cX2_dropOldRows 24 = .ok (.aload 4, 2) := by decide +kernel
theorem dX2_dropOldRows_26 : decode cX2_dropOldRows 26 = .ok (.astore_n 3, 1) := by decide +kernel
theorem dX2_dropOldRows_27 : decode cX2_dropOldRows 27 = .ok (.aload 4, 2) := by decide +kernel
theorem dX2_dropOldRows_29 : decode cX2_dropOldRows 29 = .ok (.getfield 208, 3) := by decide +kernel
theorem dX2_dropOldRows_32 : decode cX2_dropOldRows 32 = .ok (.astore 4, 2) := by decide +kernel
theorem dX2_dropOldRows_34 : decode cX2_dropOldRows 34 = .ok (.goto (-24), 3) := by decide +kernel
theorem dX2_dropOldRows_37 : decode cX2_dropOldRows 37 = .ok (.aload 4, 2) := by decide +kernel
theorem dX2_dropOldRows_39 : decode cX2_dropOldRows 39 = .ok (.ifnonnull 5, 3) := by decide +kernel
theorem dX2_dropOldRows_42 : decode cX2_dropOldRows 42 = .ok (.iconst 0, 1) := by decide +kernel
theorem dX2_dropOldRows_43 : decode cX2_dropOldRows 43 = .ok (.ireturn, 1) := by decide +kernel
theorem dX2_dropOldRows_44 : decode cX2_dropOldRows 44 = .ok (.aload 4, 2) := by decide +kernel
theorem dX2_dropOldRows_46 : decode cX2_dropOldRows 46 = .ok (.getfield 208, 3) := by decide +kernel
theorem dX2_dropOldRows_49 : decode cX2_dropOldRows 49 = .ok (.invokestatic 220, 3) := by decide +kernel
theorem dX2_dropOldRows_52 : decode cX2_dropOldRows 52 = .ok (.istore 5, 2) := by decide +kernel
theorem dX2_dropOldRows_54 : decode cX2_dropOldRows 54 = .ok (.aload 4, 2) := by decide +kernel
theorem dX2_dropOldRows_56 : decode cX2_dropOldRows 56 = .ok (.aconst_null, 1) := by decide +kernel
theorem dX2_dropOldRows_57 : decode cX2_dropOldRows 57 = .ok (.putfield 208, 3) := by decide +kernel
theorem dX2_dropOldRows_60 : decode cX2_dropOldRows 60 = .ok (.aload 4, 2) := by decide +kernel
theorem dX2_dropOldRows_62 : decode cX2_dropOldRows 62 = .ok (.getfield 212, 3) := by decide +kernel
theorem dX2_dropOldRows_65 : decode cX2_dropOldRows 65 = .ok (.ifCond .ne 12, 3) := by decide +kernel
theorem dX2_dropOldRows_68 : decode cX2_dropOldRows 68 = .ok (.aload_n 0, 1) := by decide +kernel
theorem dX2_dropOldRows_69 : decode cX2_dropOldRows 69 = .ok (.iload_n 1, 1) := by decide +kernel
theorem dX2_dropOldRows_70 : decode cX2_dropOldRows 70 = .ok (.aload_n 3, 1) := by decide +kernel
theorem dX2_dropOldRows_71 : decode cX2_dropOldRows 71 = .ok (.invokevirtual 224, 3) := by decide +kernel
theorem dX2_dropOldRows_74 : decode cX2_dropOldRows 74 = .ok (.iinc 5 1, 3) := by decide +kernel
theorem dX2_dropOldRows_77 : decode cX2_dropOldRows 77 = .ok (.iload 5, 2) := by decide +kernel
theorem dX2_dropOldRows_79 : decode cX2_dropOldRows 79 = .ok (.ireturn, 1) := by decide +kernel
theorem dX2_cutBelow_0 : decode cX2_cutBelow 0 = .ok (.aload_n 2, 1) := by decide +kernel
theorem dX2_cutBelow_1 : decode cX2_cutBelow 1 = .ok (.ifnonnull 13, 3) := by decide +kernel
theorem dX2_cutBelow_4 : decode cX2_cutBelow 4 = .ok (.aload_n 0, 1) := by decide +kernel
theorem dX2_cutBelow_5 : decode cX2_cutBelow 5 = .ok (.getfield 17, 3) := by decide +kernel
theorem dX2_cutBelow_8 : decode cX2_cutBelow 8 = .ok (.iload_n 1, 1) := by decide +kernel
theorem dX2_cutBelow_9 : decode cX2_cutBelow 9 = .ok (.aconst_null, 1) := by decide +kernel
theorem dX2_cutBelow_10 : decode cX2_cutBelow 10 = .ok (.aastore, 1) := by decide +kernel
theorem dX2_cutBelow_11 : decode cX2_cutBelow 11 = .ok (.goto 8, 3) := by decide +kernel
theorem dX2_cutBelow_14 : decode cX2_cutBelow 14 = .ok (.aload_n 2, 1) := by decide +kernel
theorem dX2_cutBelow_15 : decode cX2_cutBelow 15 = .ok (.aconst_null, 1) := by decide +kernel
theorem dX2_cutBelow_16 : decode cX2_cutBelow 16 = .ok (.putfield 208, 3) := by decide +kernel
theorem dX2_cutBelow_19 : decode cX2_cutBelow 19 = .ok (.return_, 1) := by decide +kernel
theorem dX2_countRows_0 : decode cX2_countRows 0 = .ok (.iconst 0, 1) := by decide +kernel
theorem dX2_countRows_1 : decode cX2_countRows 1 = .ok (.istore_n 1, 1) := by decide +kernel
theorem dX2_countRows_2 : decode cX2_countRows 2 = .ok (.aload_n 0, 1) := by decide +kernel
theorem dX2_countRows_3 : decode cX2_countRows 3 = .ok (.astore_n 2, 1) := by decide +kernel
theorem dX2_countRows_4 : decode cX2_countRows 4 = .ok (.aload_n 2, 1) := by decide +kernel
theorem dX2_countRows_5 : decode cX2_countRows 5 = .ok (.ifnull 14, 3) := by decide +kernel
theorem dX2_countRows_8 : decode cX2_countRows 8 = .ok (.iinc 1 1, 3) := by decide +kernel
theorem dX2_countRows_11 : decode cX2_countRows 11 = .ok (.aload_n 2, 1) := by decide +kernel
theorem dX2_countRows_12 : decode cX2_countRows 12 = .ok (.getfield 208, 3) := by decide +kernel
theorem dX2_countRows_15 : decode cX2_countRows 15 = .ok (.astore_n 2, 1) := by decide +kernel
theorem dX2_countRows_16 : decode cX2_countRows 16 = .ok (.goto (-12), 3) := by decide +kernel
theorem dX2_countRows_19 : decode cX2_countRows 19 = .ok (.iload_n 1, 1) := by decide +kernel
theorem dX2_countRows_20 : decode cX2_countRows 20 = .ok (.ireturn, 1) := by decide +kernel
set_option maxRecDepth 20000 in
theorem ggX2_tryWrite_X2_isChangedSince : GoodIn wsX2_tryWrite wsX2_isChangedSince := goodIn_r _ [11, 12, 13, 69, 70, 71, 72, 73, 74, 75, 76, 77, 78, 79, 80, 81, 82, 83, 84, 85, 86] (by decide +kernel) (by decide +kernel)
set_option maxRecDepth 20000 in
theorem gX2_tryWrite_X2_isChangedSince : GoodIn wsX2_tryWrite (wsV RX2 202 RX2 yX2_isChangedSince wsX2_isChangedSince) := goodIn_app (goodIn_of _ (by decide +kernel)) ggX2_tryWrite_X2_isChangedSince
set_option maxRecDepth 20000 in
theorem ggX2_tryWrite_X2_beginToWait : GoodIn wsX2_tryWrite wsX2_beginToWait := goodIn_r _ [17, 18, 1, 5, 2, 19, 20, 21, 22, 23, 24, 25, 26, 10, 27, 28, 29, 30, 31, 32, 33, 34, 35, 36, 37, 38, 39, 40, 41, 42, 43, 44, 45, 46, 47, 48, 49, 50, 51, 52, 53, 54, 55, 56, 57, 69, 70, 71, 72, 73, 74, 75, 76, 77, 78, 79, 80, 81, 82, 83, 58, 59, 60, 61, 62, 63, 64, 65, 66, 67, 68] (by decide +kernel) (by decide +kernel)
set_option maxRecDepth 20000 in
theorem gX2_tryWrite_X2_beginToWait : GoodIn wsX2_tryWrite (wsV RX2 228 RX2 yX2_beginToWait wsX2_beginToWait) := goodIn_app (goodIn_of _ (by decide +kernel)) ggX2_tryWrite_X2_beginToWait
theorem dX2_tryWrite_0 : decode cX2_tryWrite 0 = .ok (.aload_n 1, 1) := by decide +kernel
theorem dX2_tryWrite_1 : decode cX2_tryWrite 1 = .ok (.iconst 0, 1) := by decide +kernel
theorem dX2_tryWrite_2 : decode cX2_tryWrite 2 = .ok (.putfield 128, 3) := by decide +kernel
theorem dX2_tryWrite_5 : decode cX2_tryWrite 5 = .ok (.aload_n 1, 1) := by decide +kernel
theorem dX2_tryWrite_6 : decode cX2_tryWrite 6 = .ok (.aconst_null, 1) := by decide +kernel
theorem dX2_tryWrite_7 : decode cX2_tryWrite 7 = .ok (.putfield 131, 3) := by decide +kernel
theorem dX2_tryWrite_10 : decode cX2_tryWrite 10 = .ok (.aload_n 0, 1) := by decide +kernel
theorem dX2_tryWrite_11 : decode cX2_tryWrite 11 = .ok (.iload_n 2, 1) := by decide +kernel
theorem dX2_tryWrite_12 : decode cX2_tryWrite 12 = .ok (.aload_n 1, 1) := by decide +kernel
theorem dX2_tryWrite_13 : decode cX2_tryWrite 13 = .ok (.getfield 87, 3) := by decide +kernel
theorem dX2_tryWrite_16 : decode cX2_tryWrite 16 = .ok (.invokevirtual 202, 3) := by decide +kernel
theorem dX2_tryWrite_19 : decode cX2_tryWrite 19 = .ok (.ifCond .eq 21, 3) := by decide +kernel
theorem dX2_tryWrite_22 : decode cX2_tryWrite 22 = .ok (.aload_n 1, 1) := by decide +kernel
theorem dX2_tryWrite_23 : decode cX2_tryWrite 23 = .ok (.iconst 2, 1) := by decide +kernel
theorem dX2_tryWrite_24 : decode cX2_tryWrite 24 = .ok (.putfield 128, 3) := by decide +kernel
theorem dX2_tryWrite_27 : decode cX2_tryWrite 27 = .ok (.aload_n 0, 1) := by decide +kernel
theorem dX2_tryWrite_28 : decode cX2_tryWrite 28 = .ok (.getfield 32, 3) := by decide +kernel
theorem dX2_tryWrite_31 : decode cX2_tryWrite 31 = .ok (.iload_n 2, 1) := by decide +kernel
theorem dX2_tryWrite_32 : decode cX2_tryWrite 32 = .ok (.dup2, 1) := by decide +kernel
theorem dX2_tryWrite_33 : decode cX2_tryWrite 33 = .ok (.iaload, 1) := by decide +kernel
theorem dX2_tryWrite_34 : decode cX2_tryWrite 34 = .ok (.iconst 1, 1) := by decide +kernel
theorem dX2_tryWrite_35 : decode cX2_tryWrite 35 = .ok (.iadd, 1) := by decide +kernel
theorem dX2_tryWrite_36 : decode cX2_tryWrite 36 = .ok (.iastore, 1) := by decide +kernel
theorem dX2_tryWrite_37 : decode cX2_tryWrite 37 = .ok (.goto 46, 3) := by decide +kernel
theorem dX2_tryWrite_40 : decode cX2_tryWrite 40 = .ok (.aload_n 0, 1) := by decide +kernel
theorem dX2_tryWrite_41 : decode cX2_tryWrite 41 = .ok (.getfield 25, 3) := by decide +kernel
theorem dX2_tryWrite_44 : decode cX2_tryWrite 44 = .ok (.iload_n 2, 1) := by decide +kernel
theorem dX2_tryWrite_45 : decode cX2_tryWrite 45 = .ok (.aaload, 1) := by decide +kernel
theorem dX2_tryWrite_46 : decode cX2_tryWrite 46 = .ok (.ifnull 23, 3) := by decide +kernel
theorem dX2_tryWrite_49 : decode cX2_tryWrite 49 = .ok (.aload_n 0, 1) := by decide +kernel
theorem dX2_tryWrite_50 : decode cX2_tryWrite 50 = .ok (.getfield 25, 3) := by decide +kernel
theorem dX2_tryWrite_53 : decode cX2_tryWrite 53 = .ok (.iload_n 2, 1) := by decide +kernel
theorem dX2_tryWrite_54 : decode cX2_tryWrite 54 = .ok (.aaload, 1) := by decide +kernel
theorem dX2_tryWrite_55 : decode cX2_tryWrite 55 = .ok (.aload_n 1, 1) := by decide +kernel
theorem dX2_tryWrite_56 : decode cX2_tryWrite 56 = .ok (.if_acmp .eq 13, 3) := by decide +kernel
theorem dX2_tryWrite_59 : decode cX2_tryWrite 59 = .ok (.aload_n 0, 1) := by decide +kernel
theorem dX2_tryWrite_60 : decode cX2_tryWrite 60 = .ok (.aload_n 1, 1) := by decide +kernel
theorem dX2_tryWrite_61 : decode cX2_tryWrite 61 = .ok (.iload_n 2, 1) := by decide +kernel
theorem dX2_tryWrite_62 : decode cX2_tryWrite 62 = .ok (.iload_n 3, 1) := by decide +kernel
theorem dX2_tryWrite_63 : decode cX2_tryWrite 63 = .ok (.invokevirtual 228, 3) := by decide +kernel
theorem dX2_tryWrite_66 : decode cX2_tryWrite 66 = .ok (.goto 17, 3) := by decide +kernel
theorem dX2_tryWrite_69 : decode cX2_tryWrite 69 = .ok (.aload_n 0, 1) := by decide +kernel
theorem dX2_tryWrite_70 : decode cX2_tryWrite 70 = .ok (.getfield 25, 3) := by decide +kernel
theorem dX2_tryWrite_73 : decode cX2_tryWrite 73 = .ok (.iload_n 2, 1) := by decide +kernel
theorem dX2_tryWrite_74 : decode cX2_tryWrite 74 = .ok (.aload_n 1, 1) := by decide +kernel
theorem dX2_tryWrite_75 : decode cX2_tryWrite 75 = .ok (.aastore, 1) := by decide +kernel
theorem dX2_tryWrite_76 : decode cX2_tryWrite 76 = .ok (.aload_n 0, 1) := by decide +kernel
theorem dX2_tryWrite_77 : decode cX2_tryWrite 77 = .ok (.getfield 28, 3) := by decide +kernel
theorem dX2_tryWrite_80 : decode cX2_tryWrite 80 = .ok (.iload_n 2, 1) := by decide +kernel
theorem dX2_tryWrite_81 : decode cX2_tryWrite 81 = .ok (.iload_n 3, 1) := by decide +kernel
theorem dX2_tryWrite_82 : decode cX2_tryWrite 82 = .ok (.bastore, 1) := by decide +kernel
theorem dX2_tryWrite_83 : decode cX2_tryWrite 83 = .ok (.return_, 1) := by decide +kernel
theorem dX2_outcomeOfWrite_0 : decode cX2_outcomeOfWrite 0 = .ok (.aload_n 0, 1) := by decide +kernel
theorem dX2_outcomeOfWrite_1 : decode cX2_outcomeOfWrite 1 = .ok (.getfield 128, 3) := by decide +kernel
theorem dX2_outcomeOfWrite_4 : decode cX2_outcomeOfWrite 4 = .ok (.tableswitch 39 1 4 #[32, 34, 39, 36], 32) := by decide +kernel
theorem dX2_outcomeOfWrite_36 : decode cX2_outcomeOfWrite 36 = .ok (.iconst 0, 1) := by decide +kernel
theorem dX2_outcomeOfWrite_37 : decode cX2_outcomeOfWrite 37 = .ok (.ireturn, 1) := by decide +kernel
theorem dX2_outcomeOfWrite_38 : decode cX2_outcomeOfWrite 38 = .ok (.iconst (-1), 1) := by decide +kernel
theorem dX2_outcomeOfWrite_39 : decode cX2_outcomeOfWrite 39 = .ok (.ireturn, 1) := by decide +kernel
theorem dX2_outcomeOfWrite_40 : decode cX2_outcomeOfWrite 40 = .ok (.bipush (-2), 2) := by decide +kernel
theorem dX2_outcomeOfWrite_42 : decode cX2_outcomeOfWrite 42 = .ok (.ireturn, 1) := by decide +kernel
theorem dX2_outcomeOfWrite_43 : decode cX2_outcomeOfWrite 43 = .ok (.iconst 1, 1) := by decide +kernel
theorem dX2_outcomeOfWrite_44 : decode cX2_outcomeOfWrite 44 = .ok (.ireturn, 1) := by decide +kernel
set_option maxRecDepth 20000 in
theorem ggX2_beginToWait_X2_sizeOfRingThrough : GoodIn wsX2_beginToWait wsX2_sizeOfRingThrough := goodIn_r _ [14, 4, 60, 61, 62, 63, 64, 65, 66, 67, 68, 69, 70] (by decide +kernel) (by decide +kernel)
set_option maxRecDepth 20000 in
theorem gX2_beginToWait_X2_sizeOfRingThrough : GoodIn wsX2_beginToWait (wsV RX2 243 RX2 yX2_sizeOfRingThrough wsX2_sizeOfRingThrough) := goodIn_app (goodIn_of _ (by decide +kernel)) ggX2_beginToWait_X2_sizeOfRingThrough
set_option maxRecDepth 20000 in
theorem ggX2_beginToWait_X2_keepRing : GoodIn wsX2_beginToWait wsX2_keepRing := goodIn_r _ [18, 19, 20, 4, 21, 22, 23, 13, 24, 9, 45, 46, 47, 48, 49, 50, 51, 52, 53, 54, 55, 56, 57, 58, 59, 60, 61, 62, 63, 64, 65, 66, 67, 68, 69, 70] (by decide +kernel) (by decide +kernel)
set_option maxRecDepth 20000 in
theorem gX2_beginToWait_X2_keepRing : GoodIn wsX2_beginToWait (wsV RX2 246 RX2 yX2_keepRing wsX2_keepRing) := goodIn_app (goodIn_of _ (by decide +kernel)) ggX2_beginToWait_X2_keepRing
set_option maxRecDepth 20000 in
theorem ggX2_beginToWait_X2_finish : GoodIn wsX2_beginToWait wsX2_finish := goodIn_r _ [28, 2, 4, 3, 29, 30, 31, 13, 32, 7, 33, 34, 35, 36, 37, 8, 38, 39, 40, 41, 42, 43, 44, 60, 61, 62, 63, 64, 65, 66, 67, 68, 69, 70, 45, 46, 47, 48, 49, 50, 51, 52, 53, 54, 55, 56, 57, 58, 59] (by decide +kernel) (by decide +kernel)
set_option maxRecDepth 20000 in
theorem gX2_beginToWait_X2_finish : GoodIn wsX2_beginToWait (wsV RX2 110 RX2 yX2_finish wsX2_finish) := goodIn_app (goodIn_of _ (by decide +kernel)) ggX2_beginToWait_X2_finish
theorem dX2_beginToWait_0 : decode cX2_beginToWait 0 = .ok (.aload_n 0, 1) := by decide +kernel
theorem dX2_beginToWait_1 : decode cX2_beginToWait 1 = .ok (.dup, 1) := by decide +kernel
theorem dX2_beginToWait_2 : decode cX2_beginToWait 2 = .ok (.getfield 231, 3) := by decide +kernel
theorem dX2_beginToWait_5 : decode cX2_beginToWait 5 = .ok (.iconst 1, 1) := by decide +kernel
theorem dX2_beginToWait_6 : decode cX2_beginToWait 6 = .ok (.iadd, 1) := by decide +kernel
theorem dX2_beginToWait_7 : decode cX2_beginToWait 7 = .ok (.putfield 231, 3) := by decide +kernel
theorem dX2_beginToWait_10 : decode cX2_beginToWait 10 = .ok (.aload_n 1, 1) := by decide +kernel
theorem dX2_beginToWait_11 : decode cX2_beginToWait 11 = .ok (.iconst 1, 1) := by decide +kernel
theorem dX2_beginToWait_12 : decode cX2_beginToWait 12 = .ok (.putfield 128, 3) := by decide +kernel
theorem dX2_beginToWait_15 : decode cX2_beginToWait 15 = .ok (.aload_n 1, 1) := by decide +kernel
theorem dX2_beginToWait_16 : decode cX2_beginToWait 16 = .ok (.aload_n 0, 1) := by decide +kernel
theorem dX2_beginToWait_17 : decode cX2_beginToWait 17 = .ok (.getfield 25, 3) := by decide +kernel
theorem dX2_beginToWait_20 : decode cX2_beginToWait 20 = .ok (.iload_n 2, 1) := by decide +kernel
theorem dX2_beginToWait_21 : decode cX2_beginToWait 21 = .ok (.aaload, 1) := by decide +kernel
theorem dX2_beginToWait_22 : decode cX2_beginToWait 22 = .ok (.putfield 131, 3) := by decide +kernel
theorem dX2_beginToWait_25 : decode cX2_beginToWait 25 = .ok (.aload_n 1, 1) := by decide +kernel
theorem dX2_beginToWait_26 : decode cX2_beginToWait 26 = .ok (.iload_n 2, 1) := by decide +kernel
theorem dX2_beginToWait_27 : decode cX2_beginToWait 27 = .ok (.putfield 234, 3) := by decide +kernel
theorem dX2_beginToWait_30 : decode cX2_beginToWait 30 = .ok (.aload_n 1, 1) := by decide +kernel
theorem dX2_beginToWait_31 : decode cX2_beginToWait 31 = .ok (.iload_n 3, 1) := by decide +kernel
theorem dX2_beginToWait_32 : decode cX2_beginToWait 32 = .ok (.putfield 237, 3) := by decide +kernel
theorem dX2_beginToWait_35 : decode cX2_beginToWait 35 = .ok (.aload_n 1, 1) := by decide +kernel
theorem dX2_beginToWait_36 : decode cX2_beginToWait 36 = .ok (.aload_n 0, 1) := by decide +kernel
theorem dX2_beginToWait_37 : decode cX2_beginToWait 37 = .ok (.getfield 231, 3) := by decide +kernel
theorem dX2_beginToWait_40 : decode cX2_beginToWait 40 = .ok (.putfield 240, 3) := by decide +kernel
theorem dX2_beginToWait_43 : decode cX2_beginToWait 43 = .ok (.aload_n 0, 1) := by decide +kernel
theorem dX2_beginToWait_44 : decode cX2_beginToWait 44 = .ok (.aload_n 1, 1) := by decide +kernel
theorem dX2_beginToWait_45 : decode cX2_beginToWait 45 = .ok (.invokevirtual 243, 3) := by decide +kernel
theorem dX2_beginToWait_48 : decode cX2_beginToWait 48 = .ok (.istore 4, 2) := by decide +kernel
theorem dX2_beginToWait_50 : decode cX2_beginToWait 50 = .ok (.iload 4, 2) := by decide +kernel
theorem dX2_beginToWait_52 : decode cX2_beginToWait 52 = .ok (.ifCond .le 29, 3) := by decide +kernel
theorem dX2_beginToWait_55 : decode cX2_beginToWait 55 = .ok (.aload_n 0, 1) := by decide +kernel
theorem dX2_beginToWait_56 : decode cX2_beginToWait 56 = .ok (.aload_n 1, 1) := by decide +kernel
theorem dX2_beginToWait_57 : decode cX2_beginToWait 57 = .ok (.iload 4, 2) := by decide +kernel
theorem dX2_beginToWait_59 : decode cX2_beginToWait 59 = .ok (.invokevirtual 246, 3) := by decide +kernel
theorem dX2_beginToWait_62 : decode cX2_beginToWait 62 = .ok (.aload_n 0, 1) := by decide +kernel
theorem dX2_beginToWait_63 : decode cX2_beginToWait 63 = .ok (.aload_n 0, 1) := by decide +kernel
theorem dX2_beginToWait_64 : decode cX2_beginToWait 64 = .ok (.getfield 11, 3) := by decide +kernel
theorem dX2_beginToWait_67 : decode cX2_beginToWait 67 = .ok (.aload_n 0, 1) := by decide +kernel
theorem dX2_beginToWait_68 : decode cX2_beginToWait 68 = .ok (.getfield 38, 3) := by decide +kernel
theorem dX2_beginToWait_71 : decode cX2_beginToWait 71 = .ok (.iload 4, 2) := by decide +kernel
theorem dX2_beginToWait_73 : decode cX2_beginToWait 73 = .ok (.iconst 1, 1) := by decide +kernel
theorem dX2_beginToWait_74 : decode cX2_beginToWait 74 = .ok (.isub, 1) := by decide +kernel
theorem dX2_beginToWait_75 : decode cX2_beginToWait 75 = .ok (.iaload, 1) := by decide +kernel
theorem dX2_beginToWait_76 : decode cX2_beginToWait 76 = .ok (.aaload, 1) := by decide +kernel
theorem dX2_beginToWait_77 : decode cX2_beginToWait 77 = .ok (.iconst 4, 1) := by decide +kernel
theorem dX2_beginToWait_78 : decode cX2_beginToWait 78 = .ok (.invokevirtual 110, 3) := by decide +kernel
theorem dX2_beginToWait_81 : decode cX2_beginToWait 81 = .ok (.return_, 1) := by decide +kernel
theorem dX2_sizeOfRingThrough_0 : decode cX2_sizeOfRingThrough 0 = .ok (.aload_n 1, 1) := by decide +kernel
theorem dX2_sizeOfRingThrough_1 : decode cX2_sizeOfRingThrough 1 = .ok (.getfield 131, 3) := by decide +kernel
theorem dX2_sizeOfRingThrough_4 : decode cX2_sizeOfRingThrough 4 = .ok (.astore_n 2, 1) := by decide +kernel
theorem dX2_sizeOfRingThrough_5 : decode cX2_sizeOfRingThrough 5 = .ok (.iconst 1, 1) := by decide +kernel
theorem dX2_sizeOfRingThrough_6 : decode cX2_sizeOfRingThrough 6 = .ok (.istore_n 3, 1) := by decide +kernel
theorem dX2_sizeOfRingThrough_7 : decode cX2_sizeOfRingThrough 7 = .ok (.iload_n 3, 1) := by decide +kernel
theorem dX2_sizeOfRingThrough_8 : decode cX2_sizeOfRingThrough 8 = .ok (.bipush 60, 2) := by decide +kernel
theorem dX2_sizeOfRingThrough_10 : decode cX2_sizeOfRingThrough 10 = .ok (.if_icmp .gt 25, 3) := by decide +kernel
theorem dX2_sizeOfRingThrough_13 : decode cX2_sizeOfRingThrough 13 = .ok (.aload_n 2, 1) := by decide +kernel
theorem dX2_sizeOfRingThrough_14 : decode cX2_sizeOfRingThrough 14 = .ok (.ifnull 21, 3) := by decide +kernel
theorem dX2_sizeOfRingThrough_17 : decode cX2_sizeOfRingThrough 17 = .ok (.aload_n 2, 1) := by decide +kernel
theorem dX2_sizeOfRingThrough_18 : decode cX2_sizeOfRingThrough 18 = .ok (.aload_n 1, 1) := by decide +kernel
theorem dX2_sizeOfRingThrough_19 : decode cX2_sizeOfRingThrough 19 = .ok (.if_acmp .ne 5, 3) := by decide +kernel
theorem dX2_sizeOfRingThrough_22 : decode cX2_sizeOfRingThrough 22 = .ok (.iload_n 3, 1) := by decide +kernel
theorem dX2_sizeOfRingThrough_23 : decode cX2_sizeOfRingThrough 23 = .ok (.ireturn, 1) := by decide +kernel
theorem dX2_sizeOfRingThrough_24 : decode cX2_sizeOfRingThrough 24 = .ok (.aload_n 2, 1) := by decide +kernel
theorem dX2_sizeOfRingThrough_25 : decode cX2_sizeOfRingThrough 25 = .ok (.getfield 131, 3) := by decide +kernel
theorem dX2_sizeOfRingThrough_28 : decode cX2_sizeOfRingThrough 28 = .ok (.astore_n 2, 1) := by decide +kernel
theorem dX2_sizeOfRingThrough_29 : decode cX2_sizeOfRingThrough 29 = .ok (.iinc 3 1, 3) := by decide +kernel
theorem dX2_sizeOfRingThrough_32 : decode cX2_sizeOfRingThrough 32 = .ok (.goto (-25), 3) := by decide +kernel
theorem dX2_sizeOfRingThrough_35 : decode cX2_sizeOfRingThrough 35 = .ok (.iconst 0, 1) := by decide +kernel
theorem dX2_sizeOfRingThrough_36 : decode cX2_sizeOfRingThrough 36 = .ok (.ireturn, 1) := by decide +kernel
set_option maxRecDepth 20000 in
theorem ggX2_keepRing_X2_addRingMember : GoodIn wsX2_keepRing wsX2_addRingMember := goodIn_r _ [8, 1, 9, 10, 11, 12, 13, 14, 15, 16, 17, 18, 19, 20, 21, 22, 23, 24] (by decide +kernel) (by decide +kernel)
set_option maxRecDepth 20000 in
theorem gX2_keepRing_X2_addRingMember : GoodIn wsX2_keepRing (wsV RX2 249 RX2 yX2_addRingMember wsX2_addRingMember) := goodIn_app (goodIn_of _ (by decide +kernel)) ggX2_keepRing_X2_addRingMember
theorem dX2_keepRing_0 : decode cX2_keepRing 0 = .ok (.aload_n 0, 1) := by decide +kernel
theorem dX2_keepRing_1 : decode cX2_keepRing 1 = .ok (.iconst 0, 1) := by decide +kernel
theorem dX2_keepRing_2 : decode cX2_keepRing 2 = .ok (.putfield 138, 3) := by decide +kernel
theorem dX2_keepRing_5 : decode cX2_keepRing 5 = .ok (.aload_n 1, 1) := by decide +kernel
theorem dX2_keepRing_6 : decode cX2_keepRing 6 = .ok (.astore_n 3, 1) := by decide +kernel
theorem dX2_keepRing_7 : decode cX2_keepRing 7 = .ok (.iconst 0, 1) := by decide +kernel
theorem dX2_keepRing_8 : decode cX2_keepRing 8 = .ok (.istore 4, 2) := by decide +kernel
theorem dX2_keepRing_10 : decode cX2_keepRing 10 = .ok (.iload 4, 2) := by decide +kernel
theorem dX2_keepRing_12 : decode cX2_keepRing 12 = .ok (.iload_n 2, 1) := by decide +kernel
theorem dX2_keepRing_13 : decode cX2_keepRing 13 = .ok (.if_icmp .ge 26, 3) := by decide +kernel
theorem dX2_keepRing_16 : decode cX2_keepRing 16 = .ok (.aload_n 3, 1) := by decide +kernel
theorem dX2_keepRing_17 : decode cX2_keepRing 17 = .ok (.ifnull 22, 3) := by decide +kernel
theorem dX2_keepRing_20 : decode cX2_keepRing 20 = .ok (.aload_n 0, 1) := by decide +kernel
theorem dX2_keepRing_21 : decode cX2_keepRing 21 = .ok (.aload_n 3, 1) := by decide +kernel
theorem dX2_keepRing_22 : decode cX2_keepRing 22 = .ok (.getfield 135, 3) := by decide +kernel
theorem dX2_keepRing_25 : decode cX2_keepRing 25 = .ok (.invokevirtual 249, 3) := by decide +kernel
theorem dX2_keepRing_28 : decode cX2_keepRing 28 = .ok (.aload_n 3, 1) := by decide +kernel
theorem dX2_keepRing_29 : decode cX2_keepRing 29 = .ok (.getfield 131, 3) := by decide +kernel
theorem dX2_keepRing_32 : decode cX2_keepRing 32 = .ok (.astore_n 3, 1) := by decide +kernel
theorem dX2_keepRing_33 : decode cX2_keepRing 33 = .ok (.iinc 4 1, 3) := by decide +kernel
theorem dX2_keepRing_36 : decode cX2_keepRing 36 = .ok (.goto (-26), 3) := by decide +kernel
theorem dX2_keepRing_39 : decode cX2_keepRing 39 = .ok (.return_, 1) := by decide +kernel
theorem dX2_addRingMember_0 : decode cX2_addRingMember 0 = .ok (.aload_n 0, 1) := by decide +kernel
theorem dX2_addRingMember_1 : decode cX2_addRingMember 1 = .ok (.getfield 138, 3) := by decide +kernel
theorem dX2_addRingMember_4 : decode cX2_addRingMember 4 = .ok (.istore_n 2, 1) := by decide +kernel
theorem dX2_addRingMember_5 : decode cX2_addRingMember 5 = .ok (.iload_n 2, 1) := by decide +kernel
theorem dX2_addRingMember_6 : decode cX2_addRingMember 6 = .ok (.ifCond .le 35, 3) := by decide +kernel
theorem dX2_addRingMember_9 : decode cX2_addRingMember 9 = .ok (.aload_n 0, 1) := by decide +kernel
theorem dX2_addRingMember_10 : decode cX2_addRingMember 10 = .ok (.getfield 38, 3) := by decide +kernel
theorem dX2_addRingMember_13 : decode cX2_addRingMember 13 = .ok (.iload_n 2, 1) := by decide +kernel
theorem dX2_addRingMember_14 : decode cX2_addRingMember 14 = .ok (.iconst 1, 1) := by decide +kernel
theorem dX2_addRingMember_15 : decode cX2_addRingMember 15 = .ok (.isub, 1) := by decide +kernel
theorem dX2_addRingMember_16 : decode cX2_addRingMember 16 = .ok (.iaload, 1) := by decide +kernel
theorem dX2_addRingMember_17 : decode cX2_addRingMember 17 = .ok (.iload_n 1, 1) := by decide +kernel
theorem dX2_addRingMember_18 : decode cX2_addRingMember 18 = .ok (.if_icmp .le 23, 3) := by decide +kernel
theorem dX2_addRingMember_21 : decode cX2_addRingMember 21 = .ok (.aload_n 0, 1) := by decide +kernel
theorem dX2_addRingMember_22 : decode cX2_addRingMember 22 = .ok (.getfield 38, 3) := by decide +kernel
theorem dX2_addRingMember_25 : decode cX2_addRingMember 25 = .ok (.iload_n 2, 1) := by decide +kernel
theorem dX2_addRingMember_26 : decode cX2_addRingMember 26 = .ok (.aload_n 0, 1) := by decide +kernel
theorem dX2_addRingMember_27 : decode cX2_addRingMember 27 = .ok (.getfield 38, 3) := by decide +kernel
theorem dX2_addRingMember_30 : decode cX2_addRingMember 30 = .ok (.iload_n 2, 1) := by decide +kernel
theorem dX2_addRingMember_31 : decode cX2_addRingMember 31 = .ok (.iconst 1, 1) := by decide +kernel
theorem dX2_addRingMember_32 : decode cX2_addRingMember 32 = .ok (.isub, 1) := by decide +kernel
theorem dX2_addRingMember_33 : decode cX2_addRingMember 33 = .ok (.iaload, 1) := by decide +kernel
theorem dX2_addRingMember_34 : decode cX2_addRingMember 34 = .ok (.iastore, 1) := by decide +kernel
theorem dX2_addRingMember_35 : decode cX2_addRingMember 35 = .ok (.iinc 2 (-1), 3) := by decide +kernel
theorem dX2_addRingMember_38 : decode cX2_addRingMember 38 = .ok (.goto (-33), 3) := by decide +kernel
theorem dX2_addRingMember_41 : decode cX2_addRingMember 41 = .ok (.aload_n 0, 1) := by decide +kernel
theorem dX2_addRingMember_42 : decode cX2_addRingMember 42 = .ok (.getfield 38, 3) := by decide +kernel
theorem dX2_addRingMember_45 : decode cX2_addRingMember 45 = .ok (.iload_n 2, 1) := by decide +kernel
theorem dX2_addRingMember_46 : decode cX2_addRingMember 46 = .ok (.iload_n 1, 1) := by decide +kernel
theorem dX2_addRingMember_47 : decode cX2_addRingMember 47 = .ok (.iastore, 1) := by decide +kernel
theorem dX2_addRingMember_48 : decode cX2_addRingMember 48 = .ok (.aload_n 0, 1) := by decide +kernel
theorem dX2_addRingMember_49 : decode cX2_addRingMember 49 = .ok (.dup, 1) := by decide +kernel
theorem dX2_addRingMember_50 : decode cX2_addRingMember 50 = .ok (.getfield 138, 3) := by decide +kernel
theorem dX2_addRingMember_53 : decode cX2_addRingMember 53 = .ok (.iconst 1, 1) := by decide +kernel
theorem dX2_addRingMember_54 : decode cX2_addRingMember 54 = .ok (.iadd, 1) := by decide +kernel
theorem dX2_addRingMember_55 : decode cX2_addRingMember 55 = .ok (.putfield 138, 3) := by decide +kernel
theorem dX2_addRingMember_58 : decode cX2_addRingMember 58 = .ok (.return_, 1) := by decide +kernel
set_option maxRecDepth 20000 in
theorem ggX2_queueThoseWaitingFor_X2_firstWaitingFor : GoodIn wsX2_queueThoseWaitingFor wsX2_firstWaitingFor := goodIn_r _ [6, 7, 8, 9, 1, 28, 29, 30, 31, 32, 33, 34, 35, 36, 37, 38, 39, 40, 41, 42, 17, 18, 19, 20, 21, 22, 23, 24, 25, 26, 27] (by decide +kernel) (by decide +kernel)
set_option maxRecDepth 20000 in
theorem gX2_queueThoseWaitingFor_X2_firstWaitingFor : GoodIn wsX2_queueThoseWaitingFor (wsV RX2 252 RX2 yX2_firstWaitingFor wsX2_firstWaitingFor) := goodIn_app (goodIn_of _ (by decide +kernel)) ggX2_queueThoseWaitingFor_X2_firstWaitingFor
set_option maxRecDepth 20000 in
theorem ggX2_queueThoseWaitingFor_X2_addToQueue : GoodIn wsX2_queueThoseWaitingFor wsX2_addToQueue := goodIn_r _ [13, 14, 15, 16, 17, 18, 19, 20, 21, 22, 23, 24, 25, 26, 27, 28, 29, 30, 31, 32, 33, 34, 35, 36, 37, 38, 39, 40, 41, 42] (by decide +kernel) (by decide +kernel)
set_option maxRecDepth 20000 in
theorem gX2_queueThoseWaitingFor_X2_addToQueue : GoodIn wsX2_queueThoseWaitingFor (wsV RX2 256 RX2 yX2_addToQueue wsX2_addToQueue) := goodIn_app (goodIn_of _ (by decide +kernel)) ggX2_queueThoseWaitingFor_X2_addToQueue
theorem dX2_queueThoseWaitingFor_0 : decode cX2_queueThoseWaitingFor 0 = .ok (.aload_n 0, 1) := by decide +kernel
theorem dX2_queueThoseWaitingFor_1 : decode cX2_queueThoseWaitingFor 1 = .ok (.aload_n 1, 1) := by decide +kernel
theorem dX2_queueThoseWaitingFor_2 : decode cX2_queueThoseWaitingFor 2 = .ok (.iconst 0, 1) := by decide +kernel
theorem dX2_queueThoseWaitingFor_3 : decode cX2_queueThoseWaitingFor 3 = .ok (.invokevirtual 252, 3) := by decide +kernel
theorem dX2_queueThoseWaitingFor_6 : decode cX2_queueThoseWaitingFor 6 = .ok (.astore_n 2, 1) := by decide +kernel
theorem dX2_queueThoseWaitingFor_7 : decode cX2_queueThoseWaitingFor 7 = .ok (.iconst 0, 1) := by decide +kernel
theorem dX2_queueThoseWaitingFor_8 : decode cX2_queueThoseWaitingFor 8 = .ok (.istore_n 3, 1) := by decide +kernel
theorem dX2_queueThoseWaitingFor_9 : decode cX2_queueThoseWaitingFor 9 = .ok (.iload_n 3, 1) := by decide +kernel
theorem dX2_queueThoseWaitingFor_10 : decode cX2_queueThoseWaitingFor 10 = .ok (.bipush 60, 2) := by decide +kernel
theorem dX2_queueThoseWaitingFor_12 : decode cX2_queueThoseWaitingFor 12 = .ok (.if_icmp .ge 28, 3) := by decide +kernel
theorem dX2_queueThoseWaitingFor_15 : decode cX2_queueThoseWaitingFor 15 = .ok (.aload_n 2, 1) := by decide +kernel
theorem dX2_queueThoseWaitingFor_16 : decode cX2_queueThoseWaitingFor 16 = .ok (.ifnull 24, 3) := by decide +kernel
theorem dX2_queueThoseWaitingFor_19 : decode cX2_queueThoseWaitingFor 19 = .ok (.aload_n 0, 1) := by decide +kernel
theorem dX2_queueThoseWaitingFor_20 : decode cX2_queueThoseWaitingFor 20 = .ok (.aload_n 2, 1) := by decide +kernel
theorem dX2_queueThoseWaitingFor_21 : decode cX2_queueThoseWaitingFor 21 = .ok (.invokevirtual 256, 3) := by decide +kernel
theorem dX2_queueThoseWaitingFor_24 : decode cX2_queueThoseWaitingFor 24 = .ok (.aload_n 0, 1) := by decide +kernel
theorem dX2_queueThoseWaitingFor_25 : decode cX2_queueThoseWaitingFor 25 = .ok (.aload_n 1, 1) := by decide +kernel
theorem dX2_queueThoseWaitingFor_26 : decode cX2_queueThoseWaitingFor 26 = .ok (.aload_n 2, 1) := by decide +kernel
theorem dX2_queueThoseWaitingFor_27 : decode cX2_queueThoseWaitingFor 27 = .ok (.getfield 240, 3) := by decide +kernel
theorem dX2_queueThoseWaitingFor_30 : decode cX2_queueThoseWaitingFor 30 = .ok (.invokevirtual 252, 3) := by decide +kernel
theorem dX2_queueThoseWaitingFor_33 : decode cX2_queueThoseWaitingFor 33 = .ok (.astore_n 2, 1) := by decide +kernel
theorem dX2_queueThoseWaitingFor_34 : decode cX2_queueThoseWaitingFor 34 = .ok (.iinc 3 1, 3) := by decide +kernel
theorem dX2_queueThoseWaitingFor_37 : decode cX2_queueThoseWaitingFor 37 = .ok (.goto (-28), 3) := by decide +kernel
theorem dX2_queueThoseWaitingFor_40 : decode cX2_queueThoseWaitingFor 40 = .ok (.return_, 1) := by decide +kernel
theorem dX2_firstWaitingFor_0 : decode cX2_firstWaitingFor 0 = .ok (.aconst_null, 1) := by decide +kernel
theorem dX2_firstWaitingFor_1 : decode cX2_firstWaitingFor 1 = .ok (.astore_n 3, 1) := by decide +kernel
theorem dX2_firstWaitingFor_2 : decode cX2_firstWaitingFor 2 = .ok (.iconst 0, 1) := by decide +kernel
theorem dX2_firstWaitingFor_3 : decode cX2_firstWaitingFor 3 = .ok (.istore 4, 2) := by decide +kernel
theorem dX2_firstWaitingFor_5 : decode cX2_firstWaitingFor 5 = .ok (.iload 4, 2) := by decide +kernel
theorem dX2_firstWaitingFor_7 : decode cX2_firstWaitingFor 7 = .ok (.aload_n 0, 1) := by decide +kernel
theorem dX2_firstWaitingFor_8 : decode cX2_firstWaitingFor 8 = .ok (.getfield 144, 3) := by decide +kernel
theorem dX2_firstWaitingFor_11 : decode cX2_firstWaitingFor 11 = .ok (.if_icmp .ge 55, 3) := by decide +kernel
theorem dX2_firstWaitingFor_14 : decode cX2_firstWaitingFor 14 = .ok (.aload_n 0, 1) := by decide +kernel
theorem dX2_firstWaitingFor_15 : decode cX2_firstWaitingFor 15 = .ok (.getfield 11, 3) := by decide +kernel
theorem dX2_firstWaitingFor_18 : decode cX2_firstWaitingFor 18 = .ok (.iload 4, 2) := by decide +kernel
theorem dX2_firstWaitingFor_20 : decode cX2_firstWaitingFor 20 = .ok (.aaload, 1) := by decide +kernel
theorem dX2_firstWaitingFor_21 : decode cX2_firstWaitingFor 21 = .ok (.astore 5, 2) := by decide +kernel
theorem dX2_firstWaitingFor_23 : decode cX2_firstWaitingFor 23 = .ok (.aload 5, 2) := by decide +kernel
theorem dX2_firstWaitingFor_25 : decode cX2_firstWaitingFor 25 = .ok (.getfield 131, 3) := by decide +kernel
theorem dX2_firstWaitingFor_28 : decode cX2_firstWaitingFor 28 = .ok (.aload_n 1, 1) := by decide +kernel
theorem dX2_firstWaitingFor_29 : decode cX2_firstWaitingFor 29 = .ok (.if_acmp .ne 31, 3) := by decide +kernel
theorem dX2_firstWaitingFor_32 : decode cX2_firstWaitingFor 32 = .ok (.aload 5, 2) := by decide +kernel
theorem dX2_firstWaitingFor_34 : decode cX2_firstWaitingFor 34 = .ok (.getfield 240, 3) := by decide +kernel
theorem dX2_firstWaitingFor_37 : decode cX2_firstWaitingFor 37 = .ok (.iload_n 2, 1) := by decide +kernel
theorem dX2_firstWaitingFor_38 : decode cX2_firstWaitingFor 38 = .ok (.if_icmp .le 22, 3) := by decide +kernel
theorem dX2_firstWaitingFor_41 : decode cX2_firstWaitingFor 41 = .ok (.aload_n 3, 1) := by decide +kernel
theorem dX2_firstWaitingFor_42 : decode cX2_firstWaitingFor 42 = .ok (.ifnull 15, 3) := by decide +kernel
theorem dX2_firstWaitingFor_45 : decode cX2_firstWaitingFor 45 = .ok (.aload 5, 2) := by decide +kernel
theorem dX2_firstWaitingFor_47 : decode cX2_firstWaitingFor 47 = .ok (.getfield 240, 3) := by decide +kernel
theorem dX2_firstWaitingFor_50 : decode cX2_firstWaitingFor 50 = .ok (.aload_n 3, 1) := by decide +kernel
theorem dX2_firstWaitingFor_51 : decode cX2_firstWaitingFor 51 = .ok (.getfield 240, 3) := by decide +kernel
theorem dX2_firstWaitingFor_54 : decode cX2_firstWaitingFor 54 = .ok (.if_icmp .ge 6, 3) := by decide +kernel
theorem dX2_firstWaitingFor_57 : decode cX2_firstWaitingFor 57 = .ok (.aload 5, 2) := by decide +kernel
theorem dX2_firstWaitingFor_59 : decode cX2_firstWaitingFor 59 = .ok (.astore_n 3, 1) := by decide +kernel
theorem dX2_firstWaitingFor_60 : decode cX2_firstWaitingFor 60 = .ok (.iinc 4 1, 3) := by decide +kernel
theorem dX2_firstWaitingFor_63 : decode cX2_firstWaitingFor 63 = .ok (.goto (-58), 3) := by decide +kernel
theorem dX2_firstWaitingFor_66 : decode cX2_firstWaitingFor 66 = .ok (.aload_n 3, 1) := by decide +kernel
theorem dX2_firstWaitingFor_67 : decode cX2_firstWaitingFor 67 = .ok (.areturn, 1) := by decide +kernel
theorem dX2_addToQueue_0 : decode cX2_addToQueue 0 = .ok (.aload_n 1, 1) := by decide +kernel
theorem dX2_addToQueue_1 : decode cX2_addToQueue 1 = .ok (.aconst_null, 1) := by decide +kernel
theorem dX2_addToQueue_2 : decode cX2_addToQueue 2 = .ok (.putfield 259, 3) := by decide +kernel
theorem dX2_addToQueue_5 : decode cX2_addToQueue 5 = .ok (.aload_n 0, 1) := by decide +kernel
theorem dX2_addToQueue_6 : decode cX2_addToQueue 6 = .ok (.getfield 262, 3) := by decide +kernel
theorem dX2_addToQueue_9 : decode cX2_addToQueue 9 = .ok (.ifnonnull 11, 3) := by decide +kernel
theorem dX2_addToQueue_12 : decode cX2_addToQueue 12 = .ok (.aload_n 0, 1) := by decide +kernel
theorem dX2_addToQueue_13 : decode cX2_addToQueue 13 = .ok (.aload_n 1, 1) := by decide +kernel
theorem dX2_addToQueue_14 : decode cX2_addToQueue 14 = .ok (.putfield 265, 3) := by decide +kernel
theorem dX2_addToQueue_17 : decode cX2_addToQueue 17 = .ok (.goto 11, 3) := by decide +kernel
theorem dX2_addToQueue_20 : decode cX2_addToQueue 20 = .ok (.aload_n 0, 1) := by decide +kernel
theorem dX2_addToQueue_21 : decode cX2_addToQueue 21 = .ok (.getfield 262, 3) := by decide +kernel
theorem dX2_addToQueue_24 : decode cX2_addToQueue 24 = .ok (.aload_n 1, 1) := by decide +kernel
theorem dX2_addToQueue_25 : decode cX2_addToQueue 25 = .ok (.putfield 259, 3) := by decide +kernel
theorem dX2_addToQueue_28 : decode cX2_addToQueue 28 = .ok (.aload_n 0, 1) := by decide +kernel
theorem dX2_addToQueue_29 : decode cX2_addToQueue 29 = .ok (.aload_n 1, 1) := by decide +kernel
theorem dX2_addToQueue_30 : decode cX2_addToQueue 30 = .ok (.putfield 262, 3) := by decide +kernel
theorem dX2_addToQueue_33 : decode cX2_addToQueue 33 = .ok (.return_, 1) := by decide +kernel
set_option maxRecDepth 20000 in
theorem ggX2_retryQueued_X2_tryWrite : GoodIn wsX2_retryQueued wsX2_tryWrite := goodIn_r _ [11, 4, 12, 13, 14, 15, 16, 17, 18, 19, 10, 20, 21, 22, 23, 24, 25, 26, 27, 5, 6, 28, 29, 30, 31, 32, 33, 34, 35, 36, 37, 38, 39, 40, 41, 42, 43, 44, 45, 46, 47, 48, 49, 50, 51, 52, 53, 54, 55, 56, 57, 58, 59, 60, 61, 2, 3, 1, 77, 78, 79, 80, 81, 82, 83, 84, 85, 86, 87, 62, 63, 64, 65, 66, 67, 68, 69, 70, 71, 72, 73, 74, 75, 76, 88, 89, 90] (by decide +kernel) (by decide +kernel)
set_option maxRecDepth 20000 in
theorem gX2_retryQueued_X2_tryWrite : GoodIn wsX2_retryQueued (wsV RX2 64 RX2 yX2_tryWrite wsX2_tryWrite) := goodIn_app (goodIn_of _ (by decide +kernel)) ggX2_retryQueued_X2_tryWrite
theorem dX2_retryQueued_0 : decode cX2_retryQueued 0 = .ok (.iconst 0, 1) := by decide +kernel
theorem dX2_retryQueued_1 : decode cX2_retryQueued 1 = .ok (.istore_n 1, 1) := by decide +kernel
theorem dX2_retryQueued_2 : decode cX2_retryQueued 2 = .ok (.iload_n 1, 1) := by decide +kernel
theorem dX2_retryQueued_3 : decode cX2_retryQueued 3 = .ok (.sipush 3600, 3) := by decide +kernel
theorem dX2_retryQueued_6 : decode cX2_retryQueued 6 = .ok (.if_icmp .ge 62, 3) := by decide +kernel
theorem dX2_retryQueued_9 : decode cX2_retryQueued 9 = .ok (.aload_n 0, 1) := by decide +kernel
theorem dX2_retryQueued_10 : decode cX2_retryQueued 10 = .ok (.getfield 265, 3) := by decide +kernel
theorem dX2_retryQueued_13 : decode cX2_retryQueued 13 = .ok (.ifnull 55, 3) := by decide +kernel
theorem dX2_retryQueued_16 : decode cX2_retryQueued 16 = .ok (.aload_n 0, 1) := by decide +kernel
theorem dX2_retryQueued_17 : decode cX2_retryQueued 17 = .ok (.getfield 265, 3) := by decide +kernel
theorem dX2_retryQueued_20 : decode cX2_retryQueued 20 = .ok (.astore_n 2, 1) := by decide +kernel
theorem dX2_retryQueued_21 : decode cX2_retryQueued 21 = .ok (.aload_n 0, 1) := by decide +kernel
theorem dX2_retryQueued_22 : decode cX2_retryQueued 22 = .ok (.aload_n 2, 1) := by decide +kernel
theorem dX2_retryQueued_23 : decode cX2_retryQueued 23 = .ok (.getfield 259, 3) := by decide +kernel
theorem dX2_retryQueued_26 : decode cX2_retryQueued 26 = .ok (.putfield 265, 3) := by decide +kernel
theorem dX2_retryQueued_29 : decode cX2_retryQueued 29 = .ok (.aload_n 0, 1) := by decide +kernel
theorem dX2_retryQueued_30 : decode cX2_retryQueued 30 = .ok (.getfield 265, 3) := by decide +kernel
theorem dX2_retryQueued_33 : decode cX2_retryQueued 33 = .ok (.ifnonnull 8, 3) := by decide +kernel
theorem dX2_retryQueued_36 : decode cX2_retryQueued 36 = .ok (.aload_n 0, 1) := by decide +kernel
theorem dX2_retryQueued_37 : decode cX2_retryQueued 37 = .ok (.aconst_null, 1) := by decide +kernel
theorem dX2_retryQueued_38 : decode cX2_retryQueued 38 = .ok (.putfield 262, 3) := by decide +kernel
theorem dX2_retryQueued_41 : decode cX2_retryQueued 41 = .ok (.aload_n 2, 1) := by decide +kernel
theorem dX2_retryQueued_42 : decode cX2_retryQueued 42 = .ok (.getfield 128, 3) := by decide +kernel
theorem dX2_retryQueued_45 : decode cX2_retryQueued 45 = .ok (.iconst 1, 1) := by decide +kernel
theorem dX2_retryQueued_46 : decode cX2_retryQueued 46 = .ok (.if_icmp .ne 16, 3) := by decide +kernel
theorem dX2_retryQueued_49 : decode cX2_retryQueued 49 = .ok (.aload_n 0, 1) := by decide +kernel
theorem dX2_retryQueued_50 : decode cX2_retryQueued 50 = .ok (.aload_n 2, 1) := by decide +kernel
theorem dX2_retryQueued_51 : decode cX2_retryQueued 51 = .ok (.aload_n 2, 1) := by decide +kernel
theorem dX2_retryQueued_52 : decode cX2_retryQueued 52 = .ok (.getfield 234, 3) := by decide +kernel
theorem dX2_retryQueued_55 : decode cX2_retryQueued 55 = .ok (.aload_n 2, 1) := by decide +kernel
theorem dX2_retryQueued_56 : decode cX2_retryQueued 56 = .ok (.getfield 237, 3) := by decide +kernel
theorem dX2_retryQueued_59 : decode cX2_retryQueued 59 = .ok (.invokevirtual 64, 3) := by decide +kernel
theorem dX2_retryQueued_62 : decode cX2_retryQueued 62 = .ok (.iinc 1 1, 3) := by decide +kernel
theorem dX2_retryQueued_65 : decode cX2_retryQueued 65 = .ok (.goto (-63), 3) := by decide +kernel
theorem dX2_retryQueued_68 : decode cX2_retryQueued 68 = .ok (.return_, 1) := by decide +kernel
end
section
theorem dX3_thrown_0 : decode cX3_thrown 0 = .ok (.aload_n 0, 1) := by decide +kernel
theorem dX3_thrown_1 : decode cX3_thrown 1 = .ok (.getfield 1, 3) := by decide +kernel
theorem dX3_thrown_4 : decode cX3_thrown 4 = .ok (.ireturn, 1) := by decide +kernel
theorem dX3_init_0 : decode cX3_init 0 = .ok (.aload_n 0, 1) := by decide +kernel
theorem dX3_init_1 : decode cX3_init 1 = .ok (.invokespecial 7, 3) := by decide +kernel
theorem dX3_init_4 : decode cX3_init 4 = .ok (.aload_n 0, 1) := by decide +kernel
theorem dX3_init_5 : decode cX3_init 5 = .ok (.sipush 13000, 3) := by decide +kernel
theorem dX3_init_8 : decode cX3_init 8 = .ok (.newarray .int, 2) := by decide +kernel
theorem dX3_init_10 : decode cX3_init 10 = .ok (.putfield 13, 3) := by decide +kernel
theorem dX3_init_13 : decode cX3_init 13 = .ok (.aload_n 0, 1) := by decide +kernel
theorem dX3_init_14 : decode cX3_init 14 = .ok (.sipush 13000, 3) := by decide +kernel
theorem dX3_init_17 : decode cX3_init 17 = .ok (.newarray .int, 2) := by decide +kernel
theorem dX3_init_19 : decode cX3_init 19 = .ok (.putfield 17, 3) := by decide +kernel
theorem dX3_init_22 : decode cX3_init 22 = .ok (.aload_n 0, 1) := by decide +kernel
theorem dX3_init_23 : decode cX3_init 23 = .ok (.sipush 13000, 3) := by decide +kernel
theorem dX3_init_26 : decode cX3_init 26 = .ok (.newarray .boolean, 2) := by decide +kernel
theorem dX3_init_28 : decode cX3_init 28 = .ok (.putfield 20, 3) := by decide +kernel
theorem dX3_init_31 : decode cX3_init 31 = .ok (.aload_n 0, 1) := by decide +kernel
theorem dX3_init_32 : decode cX3_init 32 = .ok (.bipush 64, 2) := by decide +kernel
theorem dX3_init_34 : decode cX3_init 34 = .ok (.newarray .int, 2) := by decide +kernel
theorem dX3_init_36 : decode cX3_init 36 = .ok (.putfield 24, 3) := by decide +kernel
theorem dX3_init_39 : decode cX3_init 39 = .ok (.aload_n 0, 1) := by decide +kernel
theorem dX3_init_40 : decode cX3_init 40 = .ok (.bipush 60, 2) := by decide +kernel
theorem dX3_init_42 : decode cX3_init 42 = .ok (.newarray .boolean, 2) := by decide +kernel
theorem dX3_init_44 : decode cX3_init 44 = .ok (.putfield 27, 3) := by decide +kernel
theorem dX3_init_47 : decode cX3_init 47 = .ok (.aload_n 0, 1) := by decide +kernel
theorem dX3_init_48 : decode cX3_init 48 = .ok (.bipush 60, 2) := by decide +kernel
theorem dX3_init_50 : decode cX3_init 50 = .ok (.newarray .int, 2) := by decide +kernel
theorem dX3_init_52 : decode cX3_init 52 = .ok (.putfield 30, 3) := by decide +kernel
theorem dX3_init_55 : decode cX3_init 55 = .ok (.aload_n 0, 1) := by decide +kernel
theorem dX3_init_56 : decode cX3_init 56 = .ok (.bipush 60, 2) := by decide +kernel
theorem dX3_init_58 : decode cX3_init 58 = .ok (.newarray .int, 2) := by decide +kernel
theorem dX3_init_60 : decode cX3_init 60 = .ok (.putfield 33, 3) := by decide +kernel
theorem dX3_init_63 : decode cX3_init 63 = .ok (.aload_n 0, 1) := by decide +kernel
theorem dX3_init_64 : decode cX3_init 64 = .ok (.bipush 60, 2) := by decide +kernel
theorem dX3_init_66 : decode cX3_init 66 = .ok (.newarray .int, 2) := by decide +kernel
theorem dX3_init_68 : decode cX3_init 68 = .ok (.putfield 36, 3) := by decide +kernel
theorem dX3_init_71 : decode cX3_init 71 = .ok (.aload_n 0, 1) := by decide +kernel
theorem dX3_init_72 : decode cX3_init 72 = .ok (.sipush 12000, 3) := by decide +kernel
theorem dX3_init_75 : decode cX3_init 75 = .ok (.newarray .int, 2) := by decide +kernel
theorem dX3_init_77 : decode cX3_init 77 = .ok (.putfield 39, 3) := by decide +kernel
theorem dX3_init_80 : decode cX3_init 80 = .ok (.aload_n 0, 1) := by decide +kernel
theorem dX3_init_81 : decode cX3_init 81 = .ok (.bipush 60, 2) := by decide +kernel
theorem dX3_init_83 : decode cX3_init 83 = .ok (.newarray .int, 2) := by decide +kernel
theorem dX3_init_85 : decode cX3_init 85 = .ok (.putfield 42, 3) := by decide +kernel
theorem dX3_init_88 : decode cX3_init 88 = .ok (.aload_n 0, 1) := by decide +kernel
theorem dX3_init_89 : decode cX3_init 89 = .ok (.bipush 60, 2) := by decide +kernel
theorem dX3_init_91 : decode cX3_init 91 = .ok (.newarray .int, 2) := by decide +kernel
theorem dX3_init_93 : decode cX3_init 93 = .ok (.putfield 45, 3) := by decide +kernel
theorem dX3_init_96 : decode cX3_init 96 = .ok (.aload_n 0, 1) := by decide +kernel
theorem dX3_init_97 : decode cX3_init 97 = .ok (.bipush 60, 2) := by decide +kernel
theorem dX3_init_99 : decode cX3_init 99 = .ok (.newarray .boolean, 2) := by decide +kernel
theorem dX3_init_101 : decode cX3_init 101 = .ok (.putfield 48, 3) := by decide +kernel
theorem dX3_init_104 : decode cX3_init 104 = .ok (.aload_n 0, 1) := by decide +kernel
theorem dX3_init_105 : decode cX3_init 105 = .ok (.bipush 60, 2) := by decide +kernel
theorem dX3_init_107 : decode cX3_init 107 = .ok (.newarray .int, 2) := by decide +kernel
theorem dX3_init_109 : decode cX3_init 109 = .ok (.putfield 51, 3) := by decide +kernel
theorem dX3_init_112 : decode cX3_init 112 = .ok (.aload_n 0, 1) := by decide +kernel
theorem dX3_init_113 : decode cX3_init 113 = .ok (.sipush 200, 3) := by decide +kernel
theorem dX3_init_116 : decode cX3_init 116 = .ok (.newarray .int, 2) := by decide +kernel
theorem dX3_init_118 : decode cX3_init 118 = .ok (.putfield 54, 3) := by decide +kernel
theorem dX3_init_121 : decode cX3_init 121 = .ok (.aload_n 0, 1) := by decide +kernel
theorem dX3_init_122 : decode cX3_init 122 = .ok (.sipush 4000, 3) := by decide +kernel
theorem dX3_init_125 : decode cX3_init 125 = .ok (.newarray .int, 2) := by decide +kernel
theorem dX3_init_127 : decode cX3_init 127 = .ok (.putfield 57, 3) := by decide +kernel
theorem dX3_init_130 : decode cX3_init 130 = .ok (.aload_n 0, 1) := by decide +kernel
theorem dX3_init_131 : decode cX3_init 131 = .ok (.bipush 60, 2) := by decide +kernel
theorem dX3_init_133 : decode cX3_init 133 = .ok (.newarray .int, 2) := by decide +kernel
theorem dX3_init_135 : decode cX3_init 135 = .ok (.putfield 60, 3) := by decide +kernel
theorem dX3_init_138 : decode cX3_init 138 = .ok (.aload_n 0, 1) := by decide +kernel
theorem dX3_init_139 : decode cX3_init 139 = .ok (.sipush 200, 3) := by decide +kernel
theorem dX3_init_142 : decode cX3_init 142 = .ok (.newarray .int, 2) := by decide +kernel
theorem dX3_init_144 : decode cX3_init 144 = .ok (.putfield 63, 3) := by decide +kernel
theorem dX3_init_147 : decode cX3_init 147 = .ok (.aload_n 0, 1) := by decide +kernel
theorem dX3_init_148 : decode cX3_init 148 = .ok (.iconst 4, 1) := by decide +kernel
theorem dX3_init_149 : decode cX3_init 149 = .ok (.newarray .int, 2) := by decide +kernel
theorem dX3_init_151 : decode cX3_init 151 = .ok (.putfield 66, 3) := by decide +kernel
theorem dX3_init_154 : decode cX3_init 154 = .ok (.aload_n 0, 1) := by decide +kernel
theorem dX3_init_155 : decode cX3_init 155 = .ok (.sipush 200, 3) := by decide +kernel
theorem dX3_init_158 : decode cX3_init 158 = .ok (.newarray .int, 2) := by decide +kernel
theorem dX3_init_160 : decode cX3_init 160 = .ok (.putfield 69, 3) := by decide +kernel
theorem dX3_init_163 : decode cX3_init 163 = .ok (.iconst 0, 1) := by decide +kernel
theorem dX3_init_164 : decode cX3_init 164 = .ok (.istore_n 1, 1) := by decide +kernel
theorem dX3_init_165 : decode cX3_init 165 = .ok (.iload_n 1, 1) := by decide +kernel
theorem dX3_init_166 : decode cX3_init 166 = .ok (.sipush 200, 3) := by decide +kernel
theorem dX3_init_169 : decode cX3_init 169 = .ok (.if_icmp .ge 16, 3) := by decide +kernel
theorem dX3_init_172 : decode cX3_init 172 = .ok (.aload_n 0, 1) := by decide +kernel
theorem dX3_init_173 : decode cX3_init 173 = .ok (.getfield 54, 3) := by decide +kernel
theorem dX3_init_176 : decode cX3_init 176 = .ok (.iload_n 1, 1) := by decide +kernel
theorem dX3_init_177 : decode cX3_init 177 = .ok (.iconst (-1), 1) := by decide +kernel
theorem dX3_init_178 : decode cX3_init 178 = .ok (.iastore, 1) := by decide +kernel
theorem dX3_init_179 : decode cX3_init 179 = .ok (.iinc 1 1, 3) := by decide +kernel
theorem dX3_init_182 : decode cX3_init 182 = .ok (.goto (-17), 3) := by decide +kernel
theorem dX3_init_185 : decode cX3_init 185 = .ok (.return_, 1) := by decide +kernel
theorem dX3_fails_0 : decode cX3_fails 0 = .ok (.aload_n 0, 1) := by decide +kernel
theorem dX3_fails_1 : decode cX3_fails 1 = .ok (.iload_n 1, 1) := by decide +kernel
theorem dX3_fails_2 : decode cX3_fails 2 = .ok (.ifCond .ne 7, 3) := by decide +kernel
theorem dX3_fails_5 : decode cX3_fails 5 = .ok (.iconst 1, 1) := by decide +kernel
theorem dX3_fails_6 : decode cX3_fails 6 = .ok (.goto 12, 3) := by decide +kernel
theorem dX3_fails_9 : decode cX3_fails 9 = .ok (.iload_n 2, 1) := by decide +kernel
theorem dX3_fails_10 : decode cX3_fails 10 = .ok (.ifCond .ne 7, 3) := by decide +kernel
theorem dX3_fails_13 : decode cX3_fails 13 = .ok (.iconst 2, 1) := by decide +kernel
theorem dX3_fails_14 : decode cX3_fails 14 = .ok (.goto 4, 3) := by decide +kernel
theorem dX3_fails_17 : decode cX3_fails 17 = .ok (.iconst 0, 1) := by decide +kernel
theorem dX3_fails_18 : decode cX3_fails 18 = .ok (.putfield 1, 3) := by decide +kernel
theorem dX3_fails_21 : decode cX3_fails 21 = .ok (.aload_n 0, 1) := by decide +kernel
theorem dX3_fails_22 : decode cX3_fails 22 = .ok (.getfield 1, 3) := by decide +kernel
theorem dX3_fails_25 : decode cX3_fails 25 = .ok (.ifCond .eq 7, 3) := by decide +kernel
theorem dX3_fails_28 : decode cX3_fails 28 = .ok (.iconst 1, 1) := by decide +kernel
theorem dX3_fails_29 : decode cX3_fails 29 = .ok (.goto 4, 3) := by decide +kernel
theorem dX3_fails_32 : decode cX3_fails 32 = .ok (.iconst 0, 1) := by decide +kernel
theorem dX3_fails_33 : decode cX3_fails 33 = .ok (.ireturn, 1) := by decide +kernel
theorem dX3_isTransaction_0 : decode cX3_isTransaction 0 = .ok (.iload_n 1, 1) := by decide +kernel
theorem dX3_isTransaction_1 : decode cX3_isTransaction 1 = .ok (.ifCond .lt 15, 3) := by decide +kernel
theorem dX3_isTransaction_4 : decode cX3_isTransaction 4 = .ok (.iload_n 1, 1) := by decide +kernel
theorem dX3_isTransaction_5 : decode cX3_isTransaction 5 = .ok (.aload_n 0, 1) := by decide +kernel
theorem dX3_isTransaction_6 : decode cX3_isTransaction 6 = .ok (.getfield 72, 3) := by decide +kernel
theorem dX3_isTransaction_9 : decode cX3_isTransaction 9 = .ok (.if_icmp .ge 7, 3) := by decide +kernel
theorem dX3_isTransaction_12 : decode cX3_isTransaction 12 = .ok (.iconst 1, 1) := by decide +kernel
theorem dX3_isTransaction_13 : decode cX3_isTransaction 13 = .ok (.goto 4, 3) := by decide +kernel
theorem dX3_isTransaction_16 : decode cX3_isTransaction 16 = .ok (.iconst 0, 1) := by decide +kernel
theorem dX3_isTransaction_17 : decode cX3_isTransaction 17 = .ok (.ireturn, 1) := by decide +kernel
theorem dX3_isTriple_0 : decode cX3_isTriple 0 = .ok (.iload_n 0, 1) := by decide +kernel
theorem dX3_isTriple_1 : decode cX3_isTriple 1 = .ok (.ifCond .lt 14, 3) := by decide +kernel
theorem dX3_isTriple_4 : decode cX3_isTriple 4 = .ok (.iload_n 0, 1) := by decide +kernel
theorem dX3_isTriple_5 : decode cX3_isTriple 5 = .ok (.sipush 200, 3) := by decide +kernel
theorem dX3_isTriple_8 : decode cX3_isTriple 8 = .ok (.if_icmp .ge 7, 3) := by decide +kernel
theorem dX3_isTriple_11 : decode cX3_isTriple 11 = .ok (.iconst 1, 1) := by decide +kernel
theorem dX3_isTriple_12 : decode cX3_isTriple 12 = .ok (.goto 4, 3) := by decide +kernel
theorem dX3_isTriple_15 : decode cX3_isTriple 15 = .ok (.iconst 0, 1) := by decide +kernel
theorem dX3_isTriple_16 : decode cX3_isTriple 16 = .ok (.ireturn, 1) := by decide +kernel
theorem dX3_isLive_0 : decode cX3_isLive 0 = .ok (.aload_n 0, 1) := by decide +kernel
theorem dX3_isLive_1 : decode cX3_isLive 1 = .ok (.getfield 33, 3) := by decide +kernel
theorem dX3_isLive_4 : decode cX3_isLive 4 = .ok (.iload_n 1, 1) := by decide +kernel
theorem dX3_isLive_5 : decode cX3_isLive 5 = .ok (.iaload, 1) := by decide +kernel
theorem dX3_isLive_6 : decode cX3_isLive 6 = .ok (.iconst 3, 1) := by decide +kernel
theorem dX3_isLive_7 : decode cX3_isLive 7 = .ok (.if_icmp .ge 7, 3) := by decide +kernel
theorem dX3_isLive_10 : decode cX3_isLive 10 = .ok (.iconst 1, 1) := by decide +kernel
theorem dX3_isLive_11 : decode cX3_isLive 11 = .ok (.goto 4, 3) := by decide +kernel
theorem dX3_isLive_14 : decode cX3_isLive 14 = .ok (.iconst 0, 1) := by decide +kernel
theorem dX3_isLive_15 : decode cX3_isLive 15 = .ok (.ireturn, 1) := by decide +kernel
set_option maxRecDepth 20000 in
theorem ggX3_isTellable_X3_leastKept : GoodIn wsX3_isTellable wsX3_leastKept := goodIn_r _ [6, 1, 7, 8, 9, 10, 11, 12, 5, 13, 14, 15, 16, 17, 18, 19, 20, 21, 22, 23, 24, 25, 26, 27, 28, 29, 30, 31, 32, 33, 34, 35, 36, 37, 38, 39, 40, 41] (by decide +kernel) (by decide +kernel)
set_option maxRecDepth 20000 in
theorem gX3_isTellable_X3_leastKept : GoodIn wsX3_isTellable (wsV RX3 75 RX3 yX3_leastKept wsX3_leastKept) := goodIn_app (goodIn_of _ (by decide +kernel)) ggX3_isTellable_X3_leastKept
theorem dX3_isTellable_0 : decode cX3_isTellable 0 = .ok (.iload_n 1, 1) := by decide +kernel
theorem dX3_isTellable_1 : decode cX3_isTellable 1 = .ok (.aload_n 0, 1) := by decide +kernel
theorem dX3_isTellable_2 : decode cX3_isTellable 2 = .ok (.invokevirtual 75, 3) := by decide +kernel
theorem dX3_isTellable_5 : decode cX3_isTellable 5 = .ok (.if_icmp .lt 15, 3) := by decide +kernel
theorem dX3_isTellable_8 : decode cX3_isTellable 8 = .ok (.iload_n 1, 1) := by decide +kernel
theorem dX3_isTellable_9 : decode cX3_isTellable 9 = .ok (.aload_n 0, 1) := by decide +kernel
theorem dX3_isTellable_10 : decode cX3_isTellable 10 = .ok (.getfield 79, 3) := by decide +kernel
theorem dX3_isTellable_13 : decode cX3_isTellable 13 = .ok (.if_icmp .gt 7, 3) := by decide +kernel
theorem dX3_isTellable_16 : decode cX3_isTellable 16 = .ok (.iconst 1, 1) := by decide +kernel
theorem dX3_isTellable_17 : decode cX3_isTellable 17 = .ok (.goto 4, 3) := by decide +kernel
theorem dX3_isTellable_20 : decode cX3_isTellable 20 = .ok (.iconst 0, 1) := by decide +kernel
theorem dX3_isTellable_21 : decode cX3_isTellable 21 = .ok (.ireturn, 1) := by decide +kernel
theorem dX3_rowOf_0 : decode cX3_rowOf 0 = .ok (.iconst (-1), 1) := by decide +kernel
theorem dX3_rowOf_1 : decode cX3_rowOf 1 = .ok (.istore_n 3, 1) := by decide +kernel
theorem dX3_rowOf_2 : decode cX3_rowOf 2 = .ok (.iconst 0, 1) := by decide +kernel
theorem dX3_rowOf_3 : decode cX3_rowOf 3 = .ok (.istore 4, 2) := by decide +kernel
theorem dX3_rowOf_5 : decode cX3_rowOf 5 = .ok (.iload 4, 2) := by decide +kernel
theorem dX3_rowOf_7 : decode cX3_rowOf 7 = .ok (.aload_n 0, 1) := by decide +kernel
theorem dX3_rowOf_8 : decode cX3_rowOf 8 = .ok (.getfield 82, 3) := by decide +kernel
theorem dX3_rowOf_11 : decode cX3_rowOf 11 = .ok (.if_icmp .ge 54, 3) := by decide +kernel
theorem dX3_rowOf_14 : decode cX3_rowOf 14 = .ok (.aload_n 0, 1) := by decide +kernel
theorem dX3_rowOf_15 : decode cX3_rowOf 15 = .ok (.getfield 13, 3) := by decide +kernel
theorem dX3_rowOf_18 : decode cX3_rowOf 18 = .ok (.iload 4, 2) := by decide +kernel
theorem dX3_rowOf_20 : decode cX3_rowOf 20 = .ok (.iaload, 1) := by decide +kernel
theorem dX3_rowOf_21 : decode cX3_rowOf 21 = .ok (.iload_n 1, 1) := by decide +kernel
theorem dX3_rowOf_22 : decode cX3_rowOf 22 = .ok (.if_icmp .ne 37, 3) := by decide +kernel
theorem dX3_rowOf_25 : decode cX3_rowOf 25 = .ok (.aload_n 0, 1) := by decide +kernel
theorem dX3_rowOf_26 : decode cX3_rowOf 26 = .ok (.getfield 17, 3) := by decide +kernel
theorem dX3_rowOf_29 : decode cX3_rowOf 29 = .ok (.iload 4, 2) := by decide +kernel
theorem dX3_rowOf_31 : decode cX3_rowOf 31 = .ok (.iaload, 1) := by decide +kernel
theorem dX3_rowOf_32 : decode cX3_rowOf 32 = .ok (.iload_n 2, 1) := by decide +kernel
theorem dX3_rowOf_33 : decode cX3_rowOf 33 = .ok (.if_icmp .gt 26, 3) := by decide +kernel
theorem dX3_rowOf_36 : decode cX3_rowOf 36 = .ok (.iload_n 3, 1) := by decide +kernel
theorem dX3_rowOf_37 : decode cX3_rowOf 37 = .ok (.ifCond .lt 19, 3) := by decide +kernel
theorem dX3_rowOf_40 : decode cX3_rowOf 40 = .ok (.aload_n 0, 1) := by decide +kernel
theorem dX3_rowOf_41 : decode cX3_rowOf 41 = .ok (.getfield 17, 3) := by decide +kernel
theorem dX3_rowOf_44 : decode cX3_rowOf 44 = .ok (.iload 4, 2) := by decide +kernel
theorem dX3_rowOf_46 : decode cX3_rowOf 46 = .ok (.iaload, 1) := by decide +kernel
theorem dX3_rowOf_47 : decode cX3_rowOf 47 = .ok (.aload_n 0, 1) := by decide +kernel
theorem dX3_rowOf_48 : decode cX3_rowOf 48 = .ok (.getfield 17, 3) := by decide +kernel
theorem dX3_rowOf_51 : decode cX3_rowOf 51 = .ok (.iload_n 3, 1) := by decide +kernel
theorem dX3_rowOf_52 : decode cX3_rowOf 52 = .ok (.iaload, 1) := by decide +kernel
theorem dX3_rowOf_53 : decode cX3_rowOf 53 = .ok (.if_icmp .le 6, 3) := by decide +kernel
theorem dX3_rowOf_56 : decode cX3_rowOf 56 = .ok (.iload 4, 2) := by decide +kernel
theorem dX3_rowOf_58 : decode cX3_rowOf 58 = .ok (.istore_n 3, 1) := by decide +kernel
theorem dX3_rowOf_59 : decode cX3_rowOf 59 = .ok (.iinc 4 1, 3) := by decide +kernel
theorem dX3_rowOf_62 : decode cX3_rowOf 62 = .ok (.goto (-57), 3) := by decide +kernel
theorem dX3_rowOf_65 : decode cX3_rowOf 65 = .ok (.iload_n 3, 1) := by decide +kernel
theorem dX3_rowOf_66 : decode cX3_rowOf 66 = .ok (.ireturn, 1) := by decide +kernel
set_option maxRecDepth 20000 in
theorem ggX3_isThere_X3_rowOf : GoodIn wsX3_isThere wsX3_rowOf := goodIn_r _ [6, 7, 8, 9, 10, 11, 12, 13, 14, 15, 16, 17, 18, 19, 20, 21, 22, 23, 24, 25, 26, 27, 28, 29, 30, 31, 32, 33, 34, 35, 36] (by decide +kernel) (by decide +kernel)
set_option maxRecDepth 20000 in
theorem gX3_isThere_X3_rowOf : GoodIn wsX3_isThere (wsV RX3 85 RX3 yX3_rowOf wsX3_rowOf) := goodIn_app (goodIn_of _ (by decide +kernel)) ggX3_isThere_X3_rowOf
theorem dX3_isThere_0 : decode cX3_isThere 0 = .ok (.aload_n 0, 1) := by decide +kernel
theorem dX3_isThere_1 : decode cX3_isThere 1 = .ok (.iload_n 1, 1) := by decide +kernel
theorem dX3_isThere_2 : decode cX3_isThere 2 = .ok (.iload_n 2, 1) := by decide +kernel
theorem dX3_isThere_3 : decode cX3_isThere 3 = .ok (.invokevirtual 85, 3) := by decide +kernel
theorem dX3_isThere_6 : decode cX3_isThere 6 = .ok (.istore_n 3, 1) := by decide +kernel
theorem dX3_isThere_7 : decode cX3_isThere 7 = .ok (.iload_n 3, 1) := by decide +kernel
theorem dX3_isThere_8 : decode cX3_isThere 8 = .ok (.ifCond .lt 16, 3) := by decide +kernel
theorem dX3_isThere_11 : decode cX3_isThere 11 = .ok (.aload_n 0, 1) := by decide +kernel
theorem dX3_isThere_12 : decode cX3_isThere 12 = .ok (.getfield 20, 3) := by decide +kernel
theorem dX3_isThere_15 : decode cX3_isThere 15 = .ok (.iload_n 3, 1) := by decide +kernel
theorem dX3_isThere_16 : decode cX3_isThere 16 = .ok (.baload, 1) := by decide +kernel
theorem dX3_isThere_17 : decode cX3_isThere 17 = .ok (.ifCond .eq 7, 3) := by decide +kernel
theorem dX3_isThere_20 : decode cX3_isThere 20 = .ok (.iconst 1, 1) := by decide +kernel
theorem dX3_isThere_21 : decode cX3_isThere 21 = .ok (.goto 4, 3) := by decide +kernel
theorem dX3_isThere_24 : decode cX3_isThere 24 = .ok (.iconst 0, 1) := by decide +kernel
theorem dX3_isThere_25 : decode cX3_isThere 25 = .ok (.ireturn, 1) := by decide +kernel
theorem dX3_hasAbove_0 : decode cX3_hasAbove 0 = .ok (.iconst 0, 1) := by decide +kernel
theorem dX3_hasAbove_1 : decode cX3_hasAbove 1 = .ok (.istore_n 3, 1) := by decide +kernel
theorem dX3_hasAbove_2 : decode cX3_hasAbove 2 = .ok (.iload_n 3, 1) := by decide +kernel
theorem dX3_hasAbove_3 : decode cX3_hasAbove 3 = .ok (.aload_n 0, 1) := by decide +kernel
theorem dX3_hasAbove_4 : decode cX3_hasAbove 4 = .ok (.getfield 82, 3) := by decide +kernel
theorem dX3_hasAbove_7 : decode cX3_hasAbove 7 = .ok (.if_icmp .ge 31, 3) := by decide +kernel
theorem dX3_hasAbove_10 : decode cX3_hasAbove 10 = .ok (.aload_n 0, 1) := by decide +kernel
theorem dX3_hasAbove_11 : decode cX3_hasAbove 11 = .ok (.getfield 13, 3) := by decide +kernel
theorem dX3_hasAbove_14 : decode cX3_hasAbove 14 = .ok (.iload_n 3, 1) := by decide +kernel
theorem dX3_hasAbove_15 : decode cX3_hasAbove 15 = .ok (.iaload, 1) := by decide +kernel
theorem dX3_hasAbove_16 : decode cX3_hasAbove 16 = .ok (.iload_n 1, 1) := by decide +kernel
theorem dX3_hasAbove_17 : decode cX3_hasAbove 17 = .ok (.if_icmp .ne 15, 3) := by decide +kernel
theorem dX3_hasAbove_20 : decode cX3_hasAbove 20 = .ok (.aload_n 0, 1) := by decide +kernel
theorem dX3_hasAbove_21 : decode cX3_hasAbove 21 = .ok (.getfield 17, 3) := by decide +kernel
theorem dX3_hasAbove_24 : decode cX3_hasAbove 24 = .ok (.iload_n 3, 1) := by decide +kernel
theorem dX3_hasAbove_25 : decode cX3_hasAbove 25 = .ok (.iaload, 1) := by decide +kernel
theorem dX3_hasAbove_26 : decode cX3_hasAbove 26 = .ok (.iload_n 2, 1) := by decide +kernel
theorem dX3_hasAbove_27 : decode cX3_hasAbove 27 = .ok (.if_icmp .le 5, 3) := by decide +kernel
theorem dX3_hasAbove_30 : decode cX3_hasAbove 30 = .ok (.iconst 1, 1) := by decide +kernel
theorem dX3_hasAbove_31 : decode cX3_hasAbove 31 = .ok (.ireturn, 1) := by decide +kernel
theorem dX3_hasAbove_32 : decode cX3_hasAbove 32 = .ok (.iinc 3 1, 3) := by decide +kernel
theorem dX3_hasAbove_35 : decode cX3_hasAbove 35 = .ok (.goto (-33), 3) := by decide +kernel
theorem dX3_hasAbove_38 : decode cX3_hasAbove 38 = .ok (.iconst 0, 1) := by decide +kernel
theorem dX3_hasAbove_39 : decode cX3_hasAbove 39 = .ok (.ireturn, 1) := by decide +kernel
set_option maxRecDepth 20000 in
theorem ggX3_least_X3_leastKept : GoodIn wsX3_least wsX3_leastKept := goodIn_r _ [6, 7, 8, 9, 10, 11, 12, 13, 5, 14, 15, 16, 17, 18, 19, 20, 21, 22, 23, 24, 25, 26, 27, 28, 29, 30, 31, 32, 33, 34, 35, 36, 37, 38, 39, 40, 41, 42] (by decide +kernel) (by decide +kernel)
set_option maxRecDepth 20000 in
theorem gX3_least_X3_leastKept : GoodIn wsX3_least (wsV RX3 75 RX3 yX3_leastKept wsX3_leastKept) := goodIn_app (goodIn_of _ (by decide +kernel)) ggX3_least_X3_leastKept
theorem dX3_least_0 : decode cX3_least 0 = .ok (.aload_n 0, 1) := by decide +kernel
theorem dX3_least_1 : decode cX3_least 1 = .ok (.iconst 0, 1) := by decide +kernel
theorem dX3_least_2 : decode cX3_least 2 = .ok (.putfield 1, 3) := by decide +kernel
theorem dX3_least_5 : decode cX3_least 5 = .ok (.aload_n 0, 1) := by decide +kernel
theorem dX3_least_6 : decode cX3_least 6 = .ok (.invokevirtual 75, 3) := by decide +kernel
theorem dX3_least_9 : decode cX3_least 9 = .ok (.ireturn, 1) := by decide +kernel
set_option maxRecDepth 20000 in
theorem ggX3_leastKept_X3_isLive : GoodIn wsX3_leastKept wsX3_isLive := goodIn_r _ [9, 10, 11, 12, 13, 14, 15, 16, 17, 18, 19, 20, 21, 22, 23, 24, 25, 26, 27, 28, 29, 30, 31, 32, 33, 34, 35, 36, 37] (by decide +kernel) (by decide +kernel)
set_option maxRecDepth 20000 in
theorem gX3_leastKept_X3_isLive : GoodIn wsX3_leastKept (wsV RX3 89 RX3 yX3_isLive wsX3_isLive) := goodIn_app (goodIn_of _ (by decide +kernel)) ggX3_leastKept_X3_isLive
theorem dX3_leastKept_0 : decode cX3_leastKept 0 = .ok (.aload_n 0, 1) := by decide +kernel
theorem dX3_leastKept_1 : decode cX3_leastKept 1 = .ok (.getfield 79, 3) := by decide +kernel
theorem dX3_leastKept_4 : decode cX3_leastKept 4 = .ok (.istore_n 1, 1) := by decide +kernel
theorem dX3_leastKept_5 : decode cX3_leastKept 5 = .ok (.iconst 0, 1) := by decide +kernel
theorem dX3_leastKept_6 : decode cX3_leastKept 6 = .ok (.istore_n 2, 1) := by decide +kernel
theorem dX3_leastKept_7 : decode cX3_leastKept 7 = .ok (.iload_n 2, 1) := by decide +kernel
theorem dX3_leastKept_8 : decode cX3_leastKept 8 = .ok (.aload_n 0, 1) := by decide +kernel
theorem dX3_leastKept_9 : decode cX3_leastKept 9 = .ok (.getfield 72, 3) := by decide +kernel
theorem dX3_leastKept_12 : decode cX3_leastKept 12 = .ok (.if_icmp .ge 38, 3) := by decide +kernel
theorem dX3_leastKept_15 : decode cX3_leastKept 15 = .ok (.aload_n 0, 1) := by decide +kernel
theorem dX3_leastKept_16 : decode cX3_leastKept 16 = .ok (.iload_n 2, 1) := by decide +kernel
theorem dX3_leastKept_17 : decode cX3_leastKept 17 = .ok (.invokevirtual 89, 3) := by decide +kernel
theorem dX3_leastKept_20 : decode cX3_leastKept 20 = .ok (.ifCond .eq 22, 3) := by decide +kernel
theorem dX3_leastKept_23 : decode cX3_leastKept 23 = .ok (.aload_n 0, 1) := by decide +kernel
theorem dX3_leastKept_24 : decode cX3_leastKept 24 = .ok (.getfield 30, 3) := by decide +kernel
theorem dX3_leastKept_27 : decode cX3_leastKept 27 = .ok (.iload_n 2, 1) := by decide +kernel
theorem dX3_leastKept_28 : decode cX3_leastKept 28 = .ok (.iaload, 1) := by decide +kernel
theorem dX3_leastKept_29 : decode cX3_leastKept 29 = .ok (.iload_n 1, 1) := by decide +kernel
theorem dX3_leastKept_30 : decode cX3_leastKept 30 = .ok (.if_icmp .ge 12, 3) := by decide +kernel
theorem dX3_leastKept_33 : decode cX3_leastKept 33 = .ok (.aload_n 0, 1) := by decide +kernel
theorem dX3_leastKept_34 : decode cX3_leastKept 34 = .ok (.getfield 30, 3) := by decide +kernel
theorem dX3_leastKept_37 : decode cX3_leastKept 37 = .ok (.iload_n 2, 1) := by decide +kernel
theorem dX3_leastKept_38 : decode cX3_leastKept 38 = .ok (.iaload, 1) := by decide +kernel
theorem dX3_leastKept_39 : decode cX3_leastKept 39 = .ok (.goto 4, 3) := by decide +kernel
theorem dX3_leastKept_42 : decode cX3_leastKept 42 = .ok (.iload_n 1, 1) := by decide +kernel
theorem dX3_leastKept_43 : decode cX3_leastKept 43 = .ok (.istore_n 1, 1) := by decide +kernel
theorem dX3_leastKept_44 : decode cX3_leastKept 44 = .ok (.iinc 2 1, 3) := by decide +kernel
theorem dX3_leastKept_47 : decode cX3_leastKept 47 = .ok (.goto (-40), 3) := by decide +kernel
theorem dX3_leastKept_50 : decode cX3_leastKept 50 = .ok (.iconst 0, 1) := by decide +kernel
theorem dX3_leastKept_51 : decode cX3_leastKept 51 = .ok (.istore_n 2, 1) := by decide +kernel
theorem dX3_leastKept_52 : decode cX3_leastKept 52 = .ok (.iload_n 2, 1) := by decide +kernel
theorem dX3_leastKept_53 : decode cX3_leastKept 53 = .ok (.bipush 64, 2) := by decide +kernel
theorem dX3_leastKept_55 : decode cX3_leastKept 55 = .ok (.if_icmp .ge 29, 3) := by decide +kernel
theorem dX3_leastKept_58 : decode cX3_leastKept 58 = .ok (.aload_n 0, 1) := by decide +kernel
theorem dX3_leastKept_59 : decode cX3_leastKept 59 = .ok (.getfield 24, 3) := by decide +kernel
theorem dX3_leastKept_62 : decode cX3_leastKept 62 = .ok (.iload_n 2, 1) := by decide +kernel
theorem dX3_leastKept_63 : decode cX3_leastKept 63 = .ok (.iaload, 1) := by decide +kernel
theorem dX3_leastKept_64 : decode cX3_leastKept 64 = .ok (.ifCond .le 12, 3) := by decide +kernel
theorem dX3_leastKept_67 : decode cX3_leastKept 67 = .ok (.iload_n 2, 1) := by decide +kernel
theorem dX3_leastKept_68 : decode cX3_leastKept 68 = .ok (.iload_n 1, 1) := by decide +kernel
theorem dX3_leastKept_69 : decode cX3_leastKept 69 = .ok (.if_icmp .ge 7, 3) := by decide +kernel
theorem dX3_leastKept_72 : decode cX3_leastKept 72 = .ok (.iload_n 2, 1) := by decide +kernel
theorem dX3_leastKept_73 : decode cX3_leastKept 73 = .ok (.goto 4, 3) := by decide +kernel
theorem dX3_leastKept_76 : decode cX3_leastKept 76 = .ok (.iload_n 1, 1) := by decide +kernel
theorem dX3_leastKept_77 : decode cX3_leastKept 77 = .ok (.istore_n 1, 1) := by decide +kernel
theorem dX3_leastKept_78 : decode cX3_leastKept 78 = .ok (.iinc 2 1, 3) := by decide +kernel
theorem dX3_leastKept_81 : decode cX3_leastKept 81 = .ok (.goto (-29), 3) := by decide +kernel
theorem dX3_leastKept_84 : decode cX3_leastKept 84 = .ok (.iload_n 1, 1) := by decide +kernel
theorem dX3_leastKept_85 : decode cX3_leastKept 85 = .ok (.ireturn, 1) := by decide +kernel
theorem dX3_latest_0 : decode cX3_latest 0 = .ok (.aload_n 0, 1) := by decide +kernel
theorem dX3_latest_1 : decode cX3_latest 1 = .ok (.iconst 0, 1) := by decide +kernel
theorem dX3_latest_2 : decode cX3_latest 2 = .ok (.putfield 1, 3) := by decide +kernel
theorem dX3_latest_5 : decode cX3_latest 5 = .ok (.aload_n 0, 1) := by decide +kernel
theorem dX3_latest_6 : decode cX3_latest 6 = .ok (.getfield 79, 3) := by decide +kernel
theorem dX3_latest_9 : decode cX3_latest 9 = .ok (.ireturn, 1) := by decide +kernel
theorem dX3_rows_0 : decode cX3_rows 0 = .ok (.aload_n 0, 1) := by decide +kernel
theorem dX3_rows_1 : decode cX3_rows 1 = .ok (.iconst 0, 1) := by decide +kernel
theorem dX3_rows_2 : decode cX3_rows 2 = .ok (.putfield 1, 3) := by decide +kernel
theorem dX3_rows_5 : decode cX3_rows 5 = .ok (.aload_n 0, 1) := by decide +kernel
theorem dX3_rows_6 : decode cX3_rows 6 = .ok (.getfield 82, 3) := by decide +kernel
theorem dX3_rows_9 : decode cX3_rows 9 = .ok (.ireturn, 1) := by decide +kernel
set_option maxRecDepth 20000 in
theorem ggX3_told_X3_isTellable : GoodIn wsX3_told wsX3_isTellable := goodIn_r _ [5, 6, 7, 8, 9, 4, 10, 11, 12, 13, 14, 15, 16, 17, 18, 39, 40, 41, 42, 43, 44, 45, 46, 47, 48, 49, 50, 51, 52, 53, 54, 55, 56, 57, 58, 59, 60, 61, 62, 63, 64, 65] (by decide +kernel) (by decide +kernel)
set_option maxRecDepth 20000 in
theorem gX3_told_X3_isTellable : GoodIn wsX3_told (wsV RX3 93 RX3 yX3_isTellable wsX3_isTellable) := goodIn_app (goodIn_of _ (by decide +kernel)) ggX3_told_X3_isTellable
set_option maxRecDepth 20000 in
theorem ggX3_told_X3_isTriple : GoodIn wsX3_told wsX3_isTriple := goodIn_r _ [21] (by decide +kernel) (by decide +kernel)
set_option maxRecDepth 20000 in
theorem gX3_told_X3_isTriple : GoodIn wsX3_told (va_wsS RX3 96 yX3_isTriple wsX3_isTriple) := goodIn_app (goodIn_of _ (by decide +kernel)) ggX3_told_X3_isTriple
set_option maxRecDepth 20000 in
theorem ggX3_told_X3_fails : GoodIn wsX3_told wsX3_fails := goodIn_r _ [25, 26, 39, 40, 41, 42, 43, 44, 45, 46, 47, 48, 49, 50, 51, 52, 53, 54, 55, 56, 57, 58, 59, 60, 61, 62, 63, 64, 65] (by decide +kernel) (by decide +kernel)
set_option maxRecDepth 20000 in
theorem gX3_told_X3_fails : GoodIn wsX3_told (wsV RX3 99 RX3 yX3_fails wsX3_fails) := goodIn_app (goodIn_of _ (by decide +kernel)) ggX3_told_X3_fails
set_option maxRecDepth 20000 in
theorem ggX3_told_X3_isThere : GoodIn wsX3_told wsX3_isThere := goodIn_r _ [30, 31, 32, 33, 34, 4, 35, 36, 37, 38, 39, 40, 41, 42, 43, 44, 45, 46, 47, 48, 49, 50, 51, 52, 53, 54, 55, 56, 57, 58, 59, 60, 61, 62, 63, 64, 65] (by decide +kernel) (by decide +kernel)
set_option maxRecDepth 20000 in
theorem gX3_told_X3_isThere : GoodIn wsX3_told (wsV RX3 103 RX3 yX3_isThere wsX3_isThere) := goodIn_app (goodIn_of _ (by decide +kernel)) ggX3_told_X3_isThere
theorem dX3_told_0 : decode cX3_told 0 = .ok (.aload_n 0, 1) := by decide +kernel
theorem dX3_told_1 : decode cX3_told 1 = .ok (.aload_n 0, 1) := by decide +kernel
theorem dX3_told_2 : decode cX3_told 2 = .ok (.iload_n 1, 1) := by decide +kernel
theorem dX3_told_3 : decode cX3_told 3 = .ok (.invokevirtual 93, 3) := by decide +kernel
theorem dX3_told_6 : decode cX3_told 6 = .ok (.ifCond .eq 14, 3) := by decide +kernel
theorem dX3_told_9 : decode cX3_told 9 = .ok (.iload_n 2, 1) := by decide +kernel
theorem dX3_told_10 : decode cX3_told 10 = .ok (.invokestatic 96, 3) := by decide +kernel
theorem dX3_told_13 : decode cX3_told 13 = .ok (.ifCond .eq 7, 3) := by decide +kernel
theorem dX3_told_16 : decode cX3_told 16 = .ok (.iconst 1, 1) := by decide +kernel
theorem dX3_told_17 : decode cX3_told 17 = .ok (.goto 4, 3) := by decide +kernel
theorem dX3_told_20 : decode cX3_told 20 = .ok (.iconst 0, 1) := by decide +kernel
theorem dX3_told_21 : decode cX3_told 21 = .ok (.iconst 1, 1) := by decide +kernel
theorem dX3_told_22 : decode cX3_told 22 = .ok (.invokevirtual 99, 3) := by decide +kernel
theorem dX3_told_25 : decode cX3_told 25 = .ok (.ifCond .ne 16, 3) := by decide +kernel
theorem dX3_told_28 : decode cX3_told 28 = .ok (.aload_n 0, 1) := by decide +kernel
theorem dX3_told_29 : decode cX3_told 29 = .ok (.iload_n 2, 1) := by decide +kernel
theorem dX3_told_30 : decode cX3_told 30 = .ok (.iload_n 1, 1) := by decide +kernel
theorem dX3_told_31 : decode cX3_told 31 = .ok (.invokevirtual 103, 3) := by decide +kernel
theorem dX3_told_34 : decode cX3_told 34 = .ok (.ifCond .eq 7, 3) := by decide +kernel
theorem dX3_told_37 : decode cX3_told 37 = .ok (.iconst 1, 1) := by decide +kernel
theorem dX3_told_38 : decode cX3_told 38 = .ok (.goto 4, 3) := by decide +kernel
theorem dX3_told_41 : decode cX3_told 41 = .ok (.iconst 0, 1) := by decide +kernel
theorem dX3_told_42 : decode cX3_told 42 = .ok (.ireturn, 1) := by decide +kernel
set_option maxRecDepth 20000 in
theorem ggX3_pin_X3_isTellable : GoodIn wsX3_pin wsX3_isTellable := goodIn_r _ [6, 7, 8, 9, 10, 5, 11, 12, 13, 1, 14, 15, 16, 17, 18, 24, 25, 26, 27, 28, 29, 30, 31, 32, 33, 34, 35, 36, 37, 38, 39, 40, 41, 42, 43, 44, 45, 46, 47, 48, 49, 50] (by decide +kernel) (by decide +kernel)
set_option maxRecDepth 20000 in
theorem gX3_pin_X3_isTellable : GoodIn wsX3_pin (wsV RX3 93 RX3 yX3_isTellable wsX3_isTellable) := goodIn_app (goodIn_of _ (by decide +kernel)) ggX3_pin_X3_isTellable
set_option maxRecDepth 20000 in
theorem ggX3_pin_X3_fails : GoodIn wsX3_pin wsX3_fails := goodIn_r _ [22, 23, 24, 25, 26, 27, 28, 29, 30, 31, 32, 33, 34, 35, 36, 37, 38, 39, 40, 41, 42, 43, 44, 45, 46, 47, 48, 49, 50] (by decide +kernel) (by decide +kernel)
set_option maxRecDepth 20000 in
theorem gX3_pin_X3_fails : GoodIn wsX3_pin (wsV RX3 99 RX3 yX3_fails wsX3_fails) := goodIn_app (goodIn_of _ (by decide +kernel)) ggX3_pin_X3_fails
theorem dX3_pin_0 : decode cX3_pin 0 = .ok (.aload_n 0, 1) := by decide +kernel
theorem dX3_pin_1 : decode cX3_pin 1 = .ok (.aload_n 0, 1) := by decide +kernel
theorem dX3_pin_2 : decode cX3_pin 2 = .ok (.iload_n 1, 1) := by decide +kernel
theorem dX3_pin_3 : decode cX3_pin 3 = .ok (.invokevirtual 93, 3) := by decide +kernel
theorem dX3_pin_6 : decode cX3_pin 6 = .ok (.iconst 1, 1) := by decide +kernel
theorem dX3_pin_7 : decode cX3_pin 7 = .ok (.invokevirtual 99, 3) := by decide +kernel
theorem dX3_pin_10 : decode cX3_pin 10 = .ok (.ifCond .eq 5, 3) := by decide +kernel
theorem dX3_pin_13 : decode cX3_pin 13 = .ok (.iconst 0, 1) := by decide +kernel
theorem dX3_pin_14 : decode cX3_pin 14 = .ok (.ireturn, 1) := by decide +kernel
theorem dX3_pin_15 : decode cX3_pin 15 = .ok (.aload_n 0, 1) := by decide +kernel
theorem dX3_pin_16 : decode cX3_pin 16 = .ok (.getfield 24, 3) := by decide +kernel
theorem dX3_pin_19 : decode cX3_pin 19 = .ok (.iload_n 1, 1) := by decide +kernel
theorem dX3_pin_20 : decode cX3_pin 20 = .ok (.dup2, 1) := by decide +kernel
theorem dX3_pin_21 : decode cX3_pin 21 = .ok (.iaload, 1) := by decide +kernel
theorem dX3_pin_22 : decode cX3_pin 22 = .ok (.iconst 1, 1) := by decide +kernel
theorem dX3_pin_23 : decode cX3_pin 23 = .ok (.iadd, 1) := by decide +kernel
theorem dX3_pin_24 : decode cX3_pin 24 = .ok (.iastore, 1) := by decide +kernel
theorem dX3_pin_25 : decode cX3_pin 25 = .ok (.aload_n 0, 1) := by decide +kernel
theorem dX3_pin_26 : decode cX3_pin 26 = .ok (.getfield 24, 3) := by decide +kernel
theorem dX3_pin_29 : decode cX3_pin 29 = .ok (.iload_n 1, 1) := by decide +kernel
theorem dX3_pin_30 : decode cX3_pin 30 = .ok (.iaload, 1) := by decide +kernel
theorem dX3_pin_31 : decode cX3_pin 31 = .ok (.ireturn, 1) := by decide +kernel
set_option maxRecDepth 20000 in
theorem ggX3_unpin_X3_fails : GoodIn wsX3_unpin wsX3_fails := goodIn_r _ [6, 7, 8, 9, 10, 11, 12, 13, 14, 15, 16, 17, 18, 19, 20, 21, 22, 23, 24, 25, 26, 27, 28, 29, 30, 31, 32, 33, 34] (by decide +kernel) (by decide +kernel)
set_option maxRecDepth 20000 in
theorem gX3_unpin_X3_fails : GoodIn wsX3_unpin (wsV RX3 99 RX3 yX3_fails wsX3_fails) := goodIn_app (goodIn_of _ (by decide +kernel)) ggX3_unpin_X3_fails
theorem dX3_unpin_0 : decode cX3_unpin 0 = .ok (.aload_n 0, 1) := by decide +kernel
theorem dX3_unpin_1 : decode cX3_unpin 1 = .ok (.iload_n 1, 1) := by decide +kernel
theorem dX3_unpin_2 : decode cX3_unpin 2 = .ok (.ifCond .lt 22, 3) := by decide +kernel
theorem dX3_unpin_5 : decode cX3_unpin 5 = .ok (.iload_n 1, 1) := by decide +kernel
theorem dX3_unpin_6 : decode cX3_unpin 6 = .ok (.bipush 64, 2) := by decide +kernel
theorem dX3_unpin_8 : decode cX3_unpin 8 = .ok (.if_icmp .ge 16, 3) := by decide +kernel
theorem dX3_unpin_11 : decode cX3_unpin 11 = .ok (.aload_n 0, 1) := by decide +kernel
theorem dX3_unpin_12 : decode cX3_unpin 12 = .ok (.getfield 24, 3) := by decide +kernel
theorem dX3_unpin_15 : decode cX3_unpin 15 = .ok (.iload_n 1, 1) := by decide +kernel
theorem dX3_unpin_16 : decode cX3_unpin 16 = .ok (.iaload, 1) := by decide +kernel
theorem dX3_unpin_17 : decode cX3_unpin 17 = .ok (.ifCond .le 7, 3) := by decide +kernel
theorem dX3_unpin_20 : decode cX3_unpin 20 = .ok (.iconst 1, 1) := by decide +kernel
theorem dX3_unpin_21 : decode cX3_unpin 21 = .ok (.goto 4, 3) := by decide +kernel
theorem dX3_unpin_24 : decode cX3_unpin 24 = .ok (.iconst 0, 1) := by decide +kernel
theorem dX3_unpin_25 : decode cX3_unpin 25 = .ok (.iconst 1, 1) := by decide +kernel
theorem dX3_unpin_26 : decode cX3_unpin 26 = .ok (.invokevirtual 99, 3) := by decide +kernel
theorem dX3_unpin_29 : decode cX3_unpin 29 = .ok (.ifCond .eq 5, 3) := by decide +kernel
theorem dX3_unpin_32 : decode cX3_unpin 32 = .ok (.iconst 0, 1) := by decide +kernel
theorem dX3_unpin_33 : decode cX3_unpin 33 = .ok (.ireturn, 1) := by decide +kernel
theorem dX3_unpin_34 : decode cX3_unpin 34 = .ok (.aload_n 0, 1) := by decide +kernel
theorem dX3_unpin_35 : decode cX3_unpin 35 = .ok (.getfield 24, 3) := by decide +kernel
theorem dX3_unpin_38 : decode cX3_unpin 38 = .ok (.iload_n 1, 1) := by decide +kernel
theorem dX3_unpin_39 : decode cX3_unpin 39 = .ok (.dup2, 1) := by decide +kernel
theorem dX3_unpin_40 : decode cX3_unpin 40 = .ok (.iaload, 1) := by decide +kernel
theorem dX3_unpin_41 : decode cX3_unpin 41 = .ok (.iconst 1, 1) := by decide +kernel
theorem dX3_unpin_42 : decode cX3_unpin 42 = .ok (.isub, 1) := by decide +kernel
theorem dX3_unpin_43 : decode cX3_unpin 43 = .ok (.iastore, 1) := by decide +kernel
theorem dX3_unpin_44 : decode cX3_unpin 44 = .ok (.aload_n 0, 1) := by decide +kernel
theorem dX3_unpin_45 : decode cX3_unpin 45 = .ok (.getfield 24, 3) := by decide +kernel
theorem dX3_unpin_48 : decode cX3_unpin 48 = .ok (.iload_n 1, 1) := by decide +kernel
theorem dX3_unpin_49 : decode cX3_unpin 49 = .ok (.iaload, 1) := by decide +kernel
theorem dX3_unpin_50 : decode cX3_unpin 50 = .ok (.ireturn, 1) := by decide +kernel
set_option maxRecDepth 20000 in
theorem ggX3_free_X3_leastKept : GoodIn wsX3_free wsX3_leastKept := goodIn_r _ [11, 12, 13, 14, 15, 16, 17, 18, 10, 19, 20, 25, 26, 27, 28, 29, 30, 31, 32, 33, 34, 35, 36, 37, 38, 39, 40, 41, 42, 43, 44, 45, 46, 47, 48, 49, 50, 51] (by decide +kernel) (by decide +kernel)
set_option maxRecDepth 20000 in
theorem gX3_free_X3_leastKept : GoodIn wsX3_free (wsV RX3 75 RX3 yX3_leastKept wsX3_leastKept) := goodIn_app (goodIn_of _ (by decide +kernel)) ggX3_free_X3_leastKept
set_option maxRecDepth 20000 in
theorem ggX3_free_X3_rowOf : GoodIn wsX3_free wsX3_rowOf := goodIn_r _ [24, 4, 5, 3, 25, 26, 27, 28, 29, 30, 31, 32, 33, 34, 35, 36, 37, 38, 39, 40, 41, 42, 43, 44, 45, 46, 47, 48, 49, 50, 51] (by decide +kernel) (by decide +kernel)
set_option maxRecDepth 20000 in
theorem gX3_free_X3_rowOf : GoodIn wsX3_free (wsV RX3 85 RX3 yX3_rowOf wsX3_rowOf) := goodIn_app (goodIn_of _ (by decide +kernel)) ggX3_free_X3_rowOf
theorem dX3_free_0 : decode cX3_free 0 = .ok (.aload_n 0, 1) := by decide +kernel
theorem dX3_free_1 : decode cX3_free 1 = .ok (.iconst 0, 1) := by decide +kernel
theorem dX3_free_2 : decode cX3_free 2 = .ok (.putfield 1, 3) := by decide +kernel
theorem dX3_free_5 : decode cX3_free 5 = .ok (.aload_n 0, 1) := by decide +kernel
theorem dX3_free_6 : decode cX3_free 6 = .ok (.invokevirtual 75, 3) := by decide +kernel
theorem dX3_free_9 : decode cX3_free 9 = .ok (.istore_n 1, 1) := by decide +kernel
theorem dX3_free_10 : decode cX3_free 10 = .ok (.iconst 0, 1) := by decide +kernel
theorem dX3_free_11 : decode cX3_free 11 = .ok (.istore_n 2, 1) := by decide +kernel
theorem dX3_free_12 : decode cX3_free 12 = .ok (.iconst 0, 1) := by decide +kernel
theorem dX3_free_13 : decode cX3_free 13 = .ok (.istore_n 3, 1) := by decide +kernel
theorem dX3_free_14 : decode cX3_free 14 = .ok (.iload_n 3, 1) := by decide +kernel
theorem dX3_free_15 : decode cX3_free 15 = .ok (.sipush 200, 3) := by decide +kernel
theorem dX3_free_18 : decode cX3_free 18 = .ok (.if_icmp .ge 39, 3) := by decide +kernel
theorem dX3_free_21 : decode cX3_free 21 = .ok (.aload_n 0, 1) := by decide +kernel
theorem dX3_free_22 : decode cX3_free 22 = .ok (.iload_n 3, 1) := by decide +kernel
theorem dX3_free_23 : decode cX3_free 23 = .ok (.iload_n 1, 1) := by decide +kernel
theorem dX3_free_24 : decode cX3_free 24 = .ok (.invokevirtual 85, 3) := by decide +kernel
theorem dX3_free_27 : decode cX3_free 27 = .ok (.istore 4, 2) := by decide +kernel
theorem dX3_free_29 : decode cX3_free 29 = .ok (.aload_n 0, 1) := by decide +kernel
theorem dX3_free_30 : decode cX3_free 30 = .ok (.getfield 69, 3) := by decide +kernel
theorem dX3_free_33 : decode cX3_free 33 = .ok (.iload_n 3, 1) := by decide +kernel
theorem dX3_free_34 : decode cX3_free 34 = .ok (.iload 4, 2) := by decide +kernel
theorem dX3_free_36 : decode cX3_free 36 = .ok (.ifCond .ge 7, 3) := by decide +kernel
theorem dX3_free_39 : decode cX3_free 39 = .ok (.iconst (-1), 1) := by decide +kernel
theorem dX3_free_40 : decode cX3_free 40 = .ok (.goto 10, 3) := by decide +kernel
theorem dX3_free_43 : decode cX3_free 43 = .ok (.aload_n 0, 1) := by decide +kernel
theorem dX3_free_44 : decode cX3_free 44 = .ok (.getfield 17, 3) := by decide +kernel
theorem dX3_free_47 : decode cX3_free 47 = .ok (.iload 4, 2) := by decide +kernel
theorem dX3_free_49 : decode cX3_free 49 = .ok (.iaload, 1) := by decide +kernel
theorem dX3_free_50 : decode cX3_free 50 = .ok (.iastore, 1) := by decide +kernel
theorem dX3_free_51 : decode cX3_free 51 = .ok (.iinc 3 1, 3) := by decide +kernel
theorem dX3_free_54 : decode cX3_free 54 = .ok (.goto (-40), 3) := by decide +kernel
theorem dX3_free_57 : decode cX3_free 57 = .ok (.aload_n 0, 1) := by decide +kernel
theorem dX3_free_58 : decode cX3_free 58 = .ok (.getfield 82, 3) := by decide +kernel
theorem dX3_free_61 : decode cX3_free 61 = .ok (.istore_n 3, 1) := by decide +kernel
theorem dX3_free_62 : decode cX3_free 62 = .ok (.iconst 0, 1) := by decide +kernel
theorem dX3_free_63 : decode cX3_free 63 = .ok (.istore 4, 2) := by decide +kernel
theorem dX3_free_65 : decode cX3_free 65 = .ok (.iload 4, 2) := by decide +kernel
theorem dX3_free_67 : decode cX3_free 67 = .ok (.iload_n 3, 1) := by decide +kernel
theorem dX3_free_68 : decode cX3_free 68 = .ok (.if_icmp .ge 114, 3) := by decide +kernel
theorem dX3_free_71 : decode cX3_free 71 = .ok (.aload_n 0, 1) := by decide +kernel
theorem dX3_free_72 : decode cX3_free 72 = .ok (.getfield 13, 3) := by decide +kernel
theorem dX3_free_75 : decode cX3_free 75 = .ok (.iload 4, 2) := by decide +kernel
theorem dX3_free_77 : decode cX3_free 77 = .ok (.iaload, 1) := by decide +kernel
theorem dX3_free_78 : decode cX3_free 78 = .ok (.istore 5, 2) := by decide +kernel
theorem dX3_free_80 : decode cX3_free 80 = .ok (.aload_n 0, 1) := by decide +kernel
theorem dX3_free_81 : decode cX3_free 81 = .ok (.getfield 17, 3) := by decide +kernel
theorem dX3_free_84 : decode cX3_free 84 = .ok (.iload 4, 2) := by decide +kernel
theorem dX3_free_86 : decode cX3_free 86 = .ok (.iaload, 1) := by decide +kernel
theorem dX3_free_87 : decode cX3_free 87 = .ok (.aload_n 0, 1) := by decide +kernel
theorem dX3_free_88 : decode cX3_free 88 = .ok (.getfield 69, 3) := by decide +kernel
theorem dX3_free_91 : decode cX3_free 91 = .ok (.iload 5, 2) := by decide +kernel
theorem dX3_free_93 : decode cX3_free 93 = .ok (.iaload, 1) := by decide +kernel
theorem dX3_free_94 : decode cX3_free 94 = .ok (.if_icmp .lt 30, 3) := by decide +kernel
theorem dX3_free_97 : decode cX3_free 97 = .ok (.aload_n 0, 1) := by decide +kernel
theorem dX3_free_98 : decode cX3_free 98 = .ok (.getfield 17, 3) := by decide +kernel
theorem dX3_free_101 : decode cX3_free 101 = .ok (.iload 4, 2) := by decide +kernel
theorem dX3_free_103 : decode cX3_free 103 = .ok (.iaload, 1) := by decide +kernel
theorem dX3_free_104 : decode cX3_free 104 = .ok (.aload_n 0, 1) := by decide +kernel
theorem dX3_free_105 : decode cX3_free 105 = .ok (.getfield 69, 3) := by decide +kernel
theorem dX3_free_108 : decode cX3_free 108 = .ok (.iload 5, 2) := by decide +kernel
theorem dX3_free_110 : decode cX3_free 110 = .ok (.iaload, 1) := by decide +kernel
theorem dX3_free_111 : decode cX3_free 111 = .ok (.if_icmp .ne 17, 3) := by decide +kernel
theorem dX3_free_114 : decode cX3_free 114 = .ok (.aload_n 0, 1) := by decide +kernel
theorem dX3_free_115 : decode cX3_free 115 = .ok (.getfield 20, 3) := by decide +kernel
theorem dX3_free_118 : decode cX3_free 118 = .ok (.iload 4, 2) := by decide +kernel
theorem dX3_free_120 : decode cX3_free 120 = .ok (.baload, 1) := by decide +kernel
theorem dX3_free_121 : decode cX3_free 121 = .ok (.ifCond .ne 7, 3) := by decide +kernel
theorem dX3_free_124 : decode cX3_free 124 = .ok (.iconst 1, 1) := by decide +kernel
theorem dX3_free_125 : decode cX3_free 125 = .ok (.goto 4, 3) := by decide +kernel
theorem dX3_free_128 : decode cX3_free 128 = .ok (.iconst 0, 1) := by decide +kernel
theorem dX3_free_129 : decode cX3_free 129 = .ok (.istore 6, 2) := by decide +kernel
theorem dX3_free_131 : decode cX3_free 131 = .ok (.iload 6, 2) := by decide +kernel
theorem dX3_free_133 : decode cX3_free 133 = .ok (.ifCond .eq 6, 3) := by decide +kernel
theorem dX3_free_136 : decode cX3_free 136 = .ok (.goto 40, 3) := by decide +kernel
theorem dX3_free_139 : decode cX3_free 139 = .ok (.aload_n 0, 1) := by decide +kernel
theorem dX3_free_140 : decode cX3_free 140 = .ok (.getfield 13, 3) := by decide +kernel
theorem dX3_free_143 : decode cX3_free 143 = .ok (.iload_n 2, 1) := by decide +kernel
theorem dX3_free_144 : decode cX3_free 144 = .ok (.iload 5, 2) := by decide +kernel
theorem dX3_free_146 : decode cX3_free 146 = .ok (.iastore, 1) := by decide +kernel
theorem dX3_free_147 : decode cX3_free 147 = .ok (.aload_n 0, 1) := by decide +kernel
theorem dX3_free_148 : decode cX3_free 148 = .ok (.getfield 17, 3) := by decide +kernel
theorem dX3_free_151 : decode cX3_free 151 = .ok (.iload_n 2, 1) := by decide +kernel
theorem dX3_free_152 : decode cX3_free 152 = .ok (.aload_n 0, 1) := by decide +kernel
theorem dX3_free_153 : decode cX3_free 153 = .ok (.getfield 17, 3) := by decide +kernel
theorem dX3_free_156 : decode cX3_free 156 = .ok (.iload 4, 2) := by decide +kernel
theorem dX3_free_158 : decode cX3_free 158 = .ok (.iaload, 1) := by decide +kernel
theorem dX3_free_159 : decode cX3_free 159 = .ok (.iastore, 1) := by decide +kernel
theorem dX3_free_160 : decode cX3_free 160 = .ok (.aload_n 0, 1) := by decide +kernel
theorem dX3_free_161 : decode cX3_free 161 = .ok (.getfield 20, 3) := by decide +kernel
theorem dX3_free_164 : decode cX3_free 164 = .ok (.iload_n 2, 1) := by decide +kernel
theorem dX3_free_165 : decode cX3_free 165 = .ok (.aload_n 0, 1) := by decide +kernel
theorem dX3_free_166 : decode cX3_free 166 = .ok (.getfield 20, 3) := by decide +kernel
theorem dX3_free_169 : decode cX3_free 169 = .ok (.iload 4, 2) := by decide +kernel
theorem dX3_free_171 : decode cX3_free 171 = .ok (.baload, 1) := by decide +kernel
theorem dX3_free_172 : decode cX3_free 172 = .ok (.bastore, 1) := by decide +kernel
theorem dX3_free_173 : decode cX3_free 173 = .ok (.iinc 2 1, 3) := by decide +kernel
theorem dX3_free_176 : decode cX3_free 176 = .ok (.iinc 4 1, 3) := by decide +kernel
theorem dX3_free_179 : decode cX3_free 179 = .ok (.goto (-114), 3) := by decide +kernel
theorem dX3_free_182 : decode cX3_free 182 = .ok (.aload_n 0, 1) := by decide +kernel
theorem dX3_free_183 : decode cX3_free 183 = .ok (.iload_n 2, 1) := by decide +kernel
theorem dX3_free_184 : decode cX3_free 184 = .ok (.putfield 82, 3) := by decide +kernel
theorem dX3_free_187 : decode cX3_free 187 = .ok (.iload_n 3, 1) := by decide +kernel
theorem dX3_free_188 : decode cX3_free 188 = .ok (.iload_n 2, 1) := by decide +kernel
theorem dX3_free_189 : decode cX3_free 189 = .ok (.isub, 1) := by decide +kernel
theorem dX3_free_190 : decode cX3_free 190 = .ok (.ireturn, 1) := by decide +kernel
theorem dX3_start_0 : decode cX3_start 0 = .ok (.aload_n 0, 1) := by decide +kernel
theorem dX3_start_1 : decode cX3_start 1 = .ok (.getfield 27, 3) := by decide +kernel
theorem dX3_start_4 : decode cX3_start 4 = .ok (.aload_n 0, 1) := by decide +kernel
theorem dX3_start_5 : decode cX3_start 5 = .ok (.getfield 72, 3) := by decide +kernel
theorem dX3_start_8 : decode cX3_start 8 = .ok (.iload_n 1, 1) := by decide +kernel
theorem dX3_start_9 : decode cX3_start 9 = .ok (.bastore, 1) := by decide +kernel
theorem dX3_start_10 : decode cX3_start 10 = .ok (.aload_n 0, 1) := by decide +kernel
theorem dX3_start_11 : decode cX3_start 11 = .ok (.getfield 30, 3) := by decide +kernel
theorem dX3_start_14 : decode cX3_start 14 = .ok (.aload_n 0, 1) := by decide +kernel
theorem dX3_start_15 : decode cX3_start 15 = .ok (.getfield 72, 3) := by decide +kernel
theorem dX3_start_18 : decode cX3_start 18 = .ok (.iload_n 2, 1) := by decide +kernel
theorem dX3_start_19 : decode cX3_start 19 = .ok (.iastore, 1) := by decide +kernel
theorem dX3_start_20 : decode cX3_start 20 = .ok (.aload_n 0, 1) := by decide +kernel
theorem dX3_start_21 : decode cX3_start 21 = .ok (.getfield 33, 3) := by decide +kernel
theorem dX3_start_24 : decode cX3_start 24 = .ok (.aload_n 0, 1) := by decide +kernel
theorem dX3_start_25 : decode cX3_start 25 = .ok (.getfield 72, 3) := by decide +kernel
theorem dX3_start_28 : decode cX3_start 28 = .ok (.iconst 0, 1) := by decide +kernel
theorem dX3_start_29 : decode cX3_start 29 = .ok (.iastore, 1) := by decide +kernel
theorem dX3_start_30 : decode cX3_start 30 = .ok (.aload_n 0, 1) := by decide +kernel
theorem dX3_start_31 : decode cX3_start 31 = .ok (.getfield 42, 3) := by decide +kernel
theorem dX3_start_34 : decode cX3_start 34 = .ok (.aload_n 0, 1) := by decide +kernel
theorem dX3_start_35 : decode cX3_start 35 = .ok (.getfield 72, 3) := by decide +kernel
theorem dX3_start_38 : decode cX3_start 38 = .ok (.iconst (-1), 1) := by decide +kernel
theorem dX3_start_39 : decode cX3_start 39 = .ok (.iastore, 1) := by decide +kernel
theorem dX3_start_40 : decode cX3_start 40 = .ok (.aload_n 0, 1) := by decide +kernel
theorem dX3_start_41 : decode cX3_start 41 = .ok (.dup, 1) := by decide +kernel
theorem dX3_start_42 : decode cX3_start 42 = .ok (.getfield 72, 3) := by decide +kernel
theorem dX3_start_45 : decode cX3_start 45 = .ok (.iconst 1, 1) := by decide +kernel
theorem dX3_start_46 : decode cX3_start 46 = .ok (.iadd, 1) := by decide +kernel
theorem dX3_start_47 : decode cX3_start 47 = .ok (.putfield 72, 3) := by decide +kernel
theorem dX3_start_50 : decode cX3_start 50 = .ok (.aload_n 0, 1) := by decide +kernel
theorem dX3_start_51 : decode cX3_start 51 = .ok (.getfield 72, 3) := by decide +kernel
theorem dX3_start_54 : decode cX3_start 54 = .ok (.iconst 1, 1) := by decide +kernel
theorem dX3_start_55 : decode cX3_start 55 = .ok (.isub, 1) := by decide +kernel
theorem dX3_start_56 : decode cX3_start 56 = .ok (.ireturn, 1) := by decide +kernel
set_option maxRecDepth 20000 in
theorem ggX3_begin_X3_start : GoodIn wsX3_begin wsX3_start := goodIn_r _ [8, 9, 1, 10, 11, 12, 13, 14, 15, 16, 17, 18, 19, 20, 21, 22, 23, 24, 25, 26, 27, 28, 29, 30, 31, 32, 33, 34, 35, 36, 37, 38, 39] (by decide +kernel) (by decide +kernel)
set_option maxRecDepth 20000 in
theorem gX3_begin_X3_start : GoodIn wsX3_begin (wsV RX3 107 RX3 yX3_start wsX3_start) := goodIn_app (goodIn_of _ (by decide +kernel)) ggX3_begin_X3_start
theorem dX3_begin_0 : decode cX3_begin 0 = .ok (.aload_n 0, 1) := by decide +kernel
theorem dX3_begin_1 : decode cX3_begin 1 = .ok (.aload_n 0, 1) := by decide +kernel
theorem dX3_begin_2 : decode cX3_begin 2 = .ok (.getfield 72, 3) := by decide +kernel
theorem dX3_begin_5 : decode cX3_begin 5 = .ok (.bipush 60, 2) := by decide +kernel
theorem dX3_begin_7 : decode cX3_begin 7 = .ok (.if_icmp .ge 7, 3) := by decide +kernel
theorem dX3_begin_10 : decode cX3_begin 10 = .ok (.iconst 0, 1) := by decide +kernel
theorem dX3_begin_11 : decode cX3_begin 11 = .ok (.goto 4, 3) := by decide +kernel
theorem dX3_begin_14 : decode cX3_begin 14 = .ok (.iconst 1, 1) := by decide +kernel
theorem dX3_begin_15 : decode cX3_begin 15 = .ok (.putfield 1, 3) := by decide +kernel
theorem dX3_begin_18 : decode cX3_begin 18 = .ok (.aload_n 0, 1) := by decide +kernel
theorem dX3_begin_19 : decode cX3_begin 19 = .ok (.getfield 1, 3) := by decide +kernel
theorem dX3_begin_22 : decode cX3_begin 22 = .ok (.ifCond .ne 15, 3) := by decide +kernel
theorem dX3_begin_25 : decode cX3_begin 25 = .ok (.aload_n 0, 1) := by decide +kernel
theorem dX3_begin_26 : decode cX3_begin 26 = .ok (.iconst 1, 1) := by decide +kernel
theorem dX3_begin_27 : decode cX3_begin 27 = .ok (.aload_n 0, 1) := by decide +kernel
theorem dX3_begin_28 : decode cX3_begin 28 = .ok (.getfield 79, 3) := by decide +kernel
theorem dX3_begin_31 : decode cX3_begin 31 = .ok (.invokevirtual 107, 3) := by decide +kernel
theorem dX3_begin_34 : decode cX3_begin 34 = .ok (.goto 4, 3) := by decide +kernel
theorem dX3_begin_37 : decode cX3_begin 37 = .ok (.iconst 0, 1) := by decide +kernel
theorem dX3_begin_38 : decode cX3_begin 38 = .ok (.ireturn, 1) := by decide +kernel
set_option maxRecDepth 20000 in
theorem ggX3_look_X3_isTellable : GoodIn wsX3_look wsX3_isTellable := goodIn_r _ [6, 7, 8, 9, 10, 5, 11, 1, 12, 13, 14, 15, 16, 17, 18, 30, 31, 32, 33, 34, 35, 36, 37, 38, 39, 40, 41, 42, 43, 44, 45, 46, 47, 48, 49, 50, 51, 52, 53, 54, 55, 56] (by decide +kernel) (by decide +kernel)
set_option maxRecDepth 20000 in
theorem gX3_look_X3_isTellable : GoodIn wsX3_look (wsV RX3 93 RX3 yX3_isTellable wsX3_isTellable) := goodIn_app (goodIn_of _ (by decide +kernel)) ggX3_look_X3_isTellable
set_option maxRecDepth 20000 in
theorem ggX3_look_X3_fails : GoodIn wsX3_look wsX3_fails := goodIn_r _ [22, 23, 30, 31, 32, 33, 34, 35, 36, 37, 38, 39, 40, 41, 42, 43, 44, 45, 46, 47, 48, 49, 50, 51, 52, 53, 54, 55, 56] (by decide +kernel) (by decide +kernel)
set_option maxRecDepth 20000 in
theorem gX3_look_X3_fails : GoodIn wsX3_look (wsV RX3 99 RX3 yX3_fails wsX3_fails) := goodIn_app (goodIn_of _ (by decide +kernel)) ggX3_look_X3_fails
set_option maxRecDepth 20000 in
theorem ggX3_look_X3_start : GoodIn wsX3_look wsX3_start := goodIn_r _ [27, 28, 1, 12, 18, 29, 30, 31, 32, 33, 34, 35, 36, 37, 38, 39, 40, 41, 42, 43, 44, 45, 46, 47, 48, 49, 50, 51, 52, 53, 54, 55, 56] (by decide +kernel) (by decide +kernel)
set_option maxRecDepth 20000 in
theorem gX3_look_X3_start : GoodIn wsX3_look (wsV RX3 107 RX3 yX3_start wsX3_start) := goodIn_app (goodIn_of _ (by decide +kernel)) ggX3_look_X3_start
theorem dX3_look_0 : decode cX3_look 0 = .ok (.aload_n 0, 1) := by decide +kernel
theorem dX3_look_1 : decode cX3_look 1 = .ok (.aload_n 0, 1) := by decide +kernel
theorem dX3_look_2 : decode cX3_look 2 = .ok (.iload_n 1, 1) := by decide +kernel
theorem dX3_look_3 : decode cX3_look 3 = .ok (.invokevirtual 93, 3) := by decide +kernel
theorem dX3_look_6 : decode cX3_look 6 = .ok (.aload_n 0, 1) := by decide +kernel
theorem dX3_look_7 : decode cX3_look 7 = .ok (.getfield 72, 3) := by decide +kernel
theorem dX3_look_10 : decode cX3_look 10 = .ok (.bipush 60, 2) := by decide +kernel
theorem dX3_look_12 : decode cX3_look 12 = .ok (.if_icmp .ge 7, 3) := by decide +kernel
theorem dX3_look_15 : decode cX3_look 15 = .ok (.iconst 1, 1) := by decide +kernel
theorem dX3_look_16 : decode cX3_look 16 = .ok (.goto 4, 3) := by decide +kernel
theorem dX3_look_19 : decode cX3_look 19 = .ok (.iconst 0, 1) := by decide +kernel
theorem dX3_look_20 : decode cX3_look 20 = .ok (.invokevirtual 99, 3) := by decide +kernel
theorem dX3_look_23 : decode cX3_look 23 = .ok (.ifCond .eq 7, 3) := by decide +kernel
theorem dX3_look_26 : decode cX3_look 26 = .ok (.iconst 0, 1) := by decide +kernel
theorem dX3_look_27 : decode cX3_look 27 = .ok (.goto 9, 3) := by decide +kernel
theorem dX3_look_30 : decode cX3_look 30 = .ok (.aload_n 0, 1) := by decide +kernel
theorem dX3_look_31 : decode cX3_look 31 = .ok (.iconst 0, 1) := by decide +kernel
theorem dX3_look_32 : decode cX3_look 32 = .ok (.iload_n 1, 1) := by decide +kernel
theorem dX3_look_33 : decode cX3_look 33 = .ok (.invokevirtual 107, 3) := by decide +kernel
theorem dX3_look_36 : decode cX3_look 36 = .ok (.ireturn, 1) := by decide +kernel
set_option maxRecDepth 20000 in
theorem ggX3_state_X3_isTransaction : GoodIn wsX3_state wsX3_isTransaction := goodIn_r _ [6, 7, 13, 14, 15, 16, 17, 18, 19, 20, 21, 22, 23, 24, 25, 26, 27, 28, 29, 30, 31, 32, 33, 34, 35, 36, 37, 38, 39] (by decide +kernel) (by decide +kernel)
set_option maxRecDepth 20000 in
theorem gX3_state_X3_isTransaction : GoodIn wsX3_state (wsV RX3 111 RX3 yX3_isTransaction wsX3_isTransaction) := goodIn_app (goodIn_of _ (by decide +kernel)) ggX3_state_X3_isTransaction
set_option maxRecDepth 20000 in
theorem ggX3_state_X3_fails : GoodIn wsX3_state wsX3_fails := goodIn_r _ [11, 12, 13, 14, 15, 16, 17, 18, 19, 20, 21, 22, 23, 24, 25, 26, 27, 28, 29, 30, 31, 32, 33, 34, 35, 36, 37, 38, 39] (by decide +kernel) (by decide +kernel)
set_option maxRecDepth 20000 in
theorem gX3_state_X3_fails : GoodIn wsX3_state (wsV RX3 99 RX3 yX3_fails wsX3_fails) := goodIn_app (goodIn_of _ (by decide +kernel)) ggX3_state_X3_fails
theorem dX3_state_0 : decode cX3_state 0 = .ok (.aload_n 0, 1) := by decide +kernel
theorem dX3_state_1 : decode cX3_state 1 = .ok (.aload_n 0, 1) := by decide +kernel
theorem dX3_state_2 : decode cX3_state 2 = .ok (.iload_n 1, 1) := by decide +kernel
theorem dX3_state_3 : decode cX3_state 3 = .ok (.invokevirtual 111, 3) := by decide +kernel
theorem dX3_state_6 : decode cX3_state 6 = .ok (.iconst 1, 1) := by decide +kernel
theorem dX3_state_7 : decode cX3_state 7 = .ok (.invokevirtual 99, 3) := by decide +kernel
theorem dX3_state_10 : decode cX3_state 10 = .ok (.ifCond .eq 7, 3) := by decide +kernel
theorem dX3_state_13 : decode cX3_state 13 = .ok (.iconst 0, 1) := by decide +kernel
theorem dX3_state_14 : decode cX3_state 14 = .ok (.goto 9, 3) := by decide +kernel
theorem dX3_state_17 : decode cX3_state 17 = .ok (.aload_n 0, 1) := by decide +kernel
theorem dX3_state_18 : decode cX3_state 18 = .ok (.getfield 33, 3) := by decide +kernel
theorem dX3_state_21 : decode cX3_state 21 = .ok (.iload_n 1, 1) := by decide +kernel
theorem dX3_state_22 : decode cX3_state 22 = .ok (.iaload, 1) := by decide +kernel
theorem dX3_state_23 : decode cX3_state 23 = .ok (.ireturn, 1) := by decide +kernel
set_option maxRecDepth 20000 in
theorem ggX3_waits_X3_isTransaction : GoodIn wsX3_waits wsX3_isTransaction := goodIn_r _ [7, 8, 14, 15, 16, 17, 18, 19, 20, 21, 22, 23, 24, 25, 26, 27, 28, 29, 30, 31, 32, 33, 34, 35, 36, 37, 38, 39, 40] (by decide +kernel) (by decide +kernel)
set_option maxRecDepth 20000 in
theorem gX3_waits_X3_isTransaction : GoodIn wsX3_waits (wsV RX3 111 RX3 yX3_isTransaction wsX3_isTransaction) := goodIn_app (goodIn_of _ (by decide +kernel)) ggX3_waits_X3_isTransaction
set_option maxRecDepth 20000 in
theorem ggX3_waits_X3_fails : GoodIn wsX3_waits wsX3_fails := goodIn_r _ [12, 13, 14, 15, 16, 17, 18, 19, 20, 21, 22, 23, 24, 25, 26, 27, 28, 29, 30, 31, 32, 33, 34, 35, 36, 37, 38, 39, 40] (by decide +kernel) (by decide +kernel)
set_option maxRecDepth 20000 in
theorem gX3_waits_X3_fails : GoodIn wsX3_waits (wsV RX3 99 RX3 yX3_fails wsX3_fails) := goodIn_app (goodIn_of _ (by decide +kernel)) ggX3_waits_X3_fails
theorem dX3_waits_0 : decode cX3_waits 0 = .ok (.aload_n 0, 1) := by decide +kernel
theorem dX3_waits_1 : decode cX3_waits 1 = .ok (.aload_n 0, 1) := by decide +kernel
theorem dX3_waits_2 : decode cX3_waits 2 = .ok (.iload_n 1, 1) := by decide +kernel
theorem dX3_waits_3 : decode cX3_waits 3 = .ok (.invokevirtual 111, 3) := by decide +kernel
theorem dX3_waits_6 : decode cX3_waits 6 = .ok (.iconst 1, 1) := by decide +kernel
theorem dX3_waits_7 : decode cX3_waits 7 = .ok (.invokevirtual 99, 3) := by decide +kernel
theorem dX3_waits_10 : decode cX3_waits 10 = .ok (.ifCond .eq 5, 3) := by decide +kernel
theorem dX3_waits_13 : decode cX3_waits 13 = .ok (.iconst 0, 1) := by decide +kernel
theorem dX3_waits_14 : decode cX3_waits 14 = .ok (.ireturn, 1) := by decide +kernel
theorem dX3_waits_15 : decode cX3_waits 15 = .ok (.aload_n 0, 1) := by decide +kernel
theorem dX3_waits_16 : decode cX3_waits 16 = .ok (.getfield 33, 3) := by decide +kernel
theorem dX3_waits_19 : decode cX3_waits 19 = .ok (.iload_n 1, 1) := by decide +kernel
theorem dX3_waits_20 : decode cX3_waits 20 = .ok (.iaload, 1) := by decide +kernel
theorem dX3_waits_21 : decode cX3_waits 21 = .ok (.iconst 1, 1) := by decide +kernel
theorem dX3_waits_22 : decode cX3_waits 22 = .ok (.if_icmp .ne 12, 3) := by decide +kernel
theorem dX3_waits_25 : decode cX3_waits 25 = .ok (.aload_n 0, 1) := by decide +kernel
theorem dX3_waits_26 : decode cX3_waits 26 = .ok (.getfield 42, 3) := by decide +kernel
theorem dX3_waits_29 : decode cX3_waits 29 = .ok (.iload_n 1, 1) := by decide +kernel
theorem dX3_waits_30 : decode cX3_waits 30 = .ok (.iaload, 1) := by decide +kernel
theorem dX3_waits_31 : decode cX3_waits 31 = .ok (.goto 4, 3) := by decide +kernel
theorem dX3_waits_34 : decode cX3_waits 34 = .ok (.iconst (-1), 1) := by decide +kernel
theorem dX3_waits_35 : decode cX3_waits 35 = .ok (.ireturn, 1) := by decide +kernel
set_option maxRecDepth 20000 in
theorem ggX3_read_X3_isTransaction : GoodIn wsX3_read wsX3_isTransaction := goodIn_r _ [7, 8, 34, 35, 36, 37, 38, 39, 40, 41, 42, 43, 44, 45, 46, 47, 48, 49, 50, 51, 52, 53, 54, 55, 56, 57, 58, 59, 60] (by decide +kernel) (by decide +kernel)
set_option maxRecDepth 20000 in
theorem gX3_read_X3_isTransaction : GoodIn wsX3_read (wsV RX3 111 RX3 yX3_isTransaction wsX3_isTransaction) := goodIn_app (goodIn_of _ (by decide +kernel)) ggX3_read_X3_isTransaction
set_option maxRecDepth 20000 in
theorem ggX3_read_X3_isTriple : GoodIn wsX3_read wsX3_isTriple := goodIn_r _ [11] (by decide +kernel) (by decide +kernel)
set_option maxRecDepth 20000 in
theorem gX3_read_X3_isTriple : GoodIn wsX3_read (va_wsS RX3 96 yX3_isTriple wsX3_isTriple) := goodIn_app (goodIn_of _ (by decide +kernel)) ggX3_read_X3_isTriple
set_option maxRecDepth 20000 in
theorem ggX3_read_X3_isLive : GoodIn wsX3_read wsX3_isLive := goodIn_r _ [15, 16, 34, 35, 36, 37, 38, 39, 40, 41, 42, 43, 44, 45, 46, 47, 48, 49, 50, 51, 52, 53, 54, 55, 56, 57, 58, 59, 60] (by decide +kernel) (by decide +kernel)
set_option maxRecDepth 20000 in
theorem gX3_read_X3_isLive : GoodIn wsX3_read (wsV RX3 89 RX3 yX3_isLive wsX3_isLive) := goodIn_app (goodIn_of _ (by decide +kernel)) ggX3_read_X3_isLive
set_option maxRecDepth 20000 in
theorem ggX3_read_X3_fails : GoodIn wsX3_read wsX3_fails := goodIn_r _ [20, 21, 34, 35, 36, 37, 38, 39, 40, 41, 42, 43, 44, 45, 46, 47, 48, 49, 50, 51, 52, 53, 54, 55, 56, 57, 58, 59, 60] (by decide +kernel) (by decide +kernel)
set_option maxRecDepth 20000 in
theorem gX3_read_X3_fails : GoodIn wsX3_read (wsV RX3 99 RX3 yX3_fails wsX3_fails) := goodIn_app (goodIn_of _ (by decide +kernel)) ggX3_read_X3_fails
set_option maxRecDepth 20000 in
theorem ggX3_read_X3_isThere : GoodIn wsX3_read wsX3_isThere := goodIn_r _ [25, 26, 27, 28, 29, 6, 30, 31, 32, 33, 34, 35, 36, 37, 38, 39, 40, 41, 42, 43, 44, 45, 46, 47, 48, 49, 50, 51, 52, 53, 54, 55, 56, 57, 58, 59, 60] (by decide +kernel) (by decide +kernel)
set_option maxRecDepth 20000 in
theorem gX3_read_X3_isThere : GoodIn wsX3_read (wsV RX3 103 RX3 yX3_isThere wsX3_isThere) := goodIn_app (goodIn_of _ (by decide +kernel)) ggX3_read_X3_isThere
theorem dX3_read_0 : decode cX3_read 0 = .ok (.aload_n 0, 1) := by decide +kernel
theorem dX3_read_1 : decode cX3_read 1 = .ok (.iload_n 1, 1) := by decide +kernel
theorem dX3_read_2 : decode cX3_read 2 = .ok (.invokevirtual 111, 3) := by decide +kernel
theorem dX3_read_5 : decode cX3_read 5 = .ok (.ifCond .eq 14, 3) := by decide +kernel
theorem dX3_read_8 : decode cX3_read 8 = .ok (.iload_n 2, 1) := by decide +kernel
theorem dX3_read_9 : decode cX3_read 9 = .ok (.invokestatic 96, 3) := by decide +kernel
theorem dX3_read_12 : decode cX3_read 12 = .ok (.ifCond .eq 7, 3) := by decide +kernel
theorem dX3_read_15 : decode cX3_read 15 = .ok (.iconst 1, 1) := by decide +kernel
theorem dX3_read_16 : decode cX3_read 16 = .ok (.goto 4, 3) := by decide +kernel
theorem dX3_read_19 : decode cX3_read 19 = .ok (.iconst 0, 1) := by decide +kernel
theorem dX3_read_20 : decode cX3_read 20 = .ok (.istore_n 3, 1) := by decide +kernel
theorem dX3_read_21 : decode cX3_read 21 = .ok (.aload_n 0, 1) := by decide +kernel
theorem dX3_read_22 : decode cX3_read 22 = .ok (.iload_n 3, 1) := by decide +kernel
theorem dX3_read_23 : decode cX3_read 23 = .ok (.iload_n 3, 1) := by decide +kernel
theorem dX3_read_24 : decode cX3_read 24 = .ok (.ifCond .eq 15, 3) := by decide +kernel
theorem dX3_read_27 : decode cX3_read 27 = .ok (.aload_n 0, 1) := by decide +kernel
theorem dX3_read_28 : decode cX3_read 28 = .ok (.iload_n 1, 1) := by decide +kernel
theorem dX3_read_29 : decode cX3_read 29 = .ok (.invokevirtual 89, 3) := by decide +kernel
theorem dX3_read_32 : decode cX3_read 32 = .ok (.ifCond .eq 7, 3) := by decide +kernel
theorem dX3_read_35 : decode cX3_read 35 = .ok (.iconst 1, 1) := by decide +kernel
theorem dX3_read_36 : decode cX3_read 36 = .ok (.goto 4, 3) := by decide +kernel
theorem dX3_read_39 : decode cX3_read 39 = .ok (.iconst 0, 1) := by decide +kernel
theorem dX3_read_40 : decode cX3_read 40 = .ok (.invokevirtual 99, 3) := by decide +kernel
theorem dX3_read_43 : decode cX3_read 43 = .ok (.ifCond .eq 5, 3) := by decide +kernel
theorem dX3_read_46 : decode cX3_read 46 = .ok (.iconst 0, 1) := by decide +kernel
theorem dX3_read_47 : decode cX3_read 47 = .ok (.ireturn, 1) := by decide +kernel
theorem dX3_read_48 : decode cX3_read 48 = .ok (.aload_n 0, 1) := by decide +kernel
theorem dX3_read_49 : decode cX3_read 49 = .ok (.getfield 39, 3) := by decide +kernel
theorem dX3_read_52 : decode cX3_read 52 = .ok (.sipush 200, 3) := by decide +kernel
theorem dX3_read_55 : decode cX3_read 55 = .ok (.iload_n 1, 1) := by decide +kernel
theorem dX3_read_56 : decode cX3_read 56 = .ok (.imul, 1) := by decide +kernel
theorem dX3_read_57 : decode cX3_read 57 = .ok (.iload_n 2, 1) := by decide +kernel
theorem dX3_read_58 : decode cX3_read 58 = .ok (.iadd, 1) := by decide +kernel
theorem dX3_read_59 : decode cX3_read 59 = .ok (.iaload, 1) := by decide +kernel
theorem dX3_read_60 : decode cX3_read 60 = .ok (.istore 4, 2) := by decide +kernel
theorem dX3_read_62 : decode cX3_read 62 = .ok (.iload 4, 2) := by decide +kernel
theorem dX3_read_64 : decode cX3_read 64 = .ok (.ifCond .le 17, 3) := by decide +kernel
theorem dX3_read_67 : decode cX3_read 67 = .ok (.iload 4, 2) := by decide +kernel
theorem dX3_read_69 : decode cX3_read 69 = .ok (.iconst 2, 1) := by decide +kernel
theorem dX3_read_70 : decode cX3_read 70 = .ok (.if_icmp .ne 7, 3) := by decide +kernel
theorem dX3_read_73 : decode cX3_read 73 = .ok (.iconst 1, 1) := by decide +kernel
theorem dX3_read_74 : decode cX3_read 74 = .ok (.goto 18, 3) := by decide +kernel
theorem dX3_read_77 : decode cX3_read 77 = .ok (.iconst 0, 1) := by decide +kernel
theorem dX3_read_78 : decode cX3_read 78 = .ok (.goto 14, 3) := by decide +kernel
theorem dX3_read_81 : decode cX3_read 81 = .ok (.aload_n 0, 1) := by decide +kernel
theorem dX3_read_82 : decode cX3_read 82 = .ok (.iload_n 2, 1) := by decide +kernel
theorem dX3_read_83 : decode cX3_read 83 = .ok (.aload_n 0, 1) := by decide +kernel
theorem dX3_read_84 : decode cX3_read 84 = .ok (.getfield 30, 3) := by decide +kernel
theorem dX3_read_87 : decode cX3_read 87 = .ok (.iload_n 1, 1) := by decide +kernel
theorem dX3_read_88 : decode cX3_read 88 = .ok (.iaload, 1) := by decide +kernel
theorem dX3_read_89 : decode cX3_read 89 = .ok (.invokevirtual 103, 3) := by decide +kernel
theorem dX3_read_92 : decode cX3_read 92 = .ok (.ireturn, 1) := by decide +kernel
theorem dX3_canWrite_0 : decode cX3_canWrite 0 = .ok (.aload_n 0, 1) := by decide +kernel
theorem dX3_canWrite_1 : decode cX3_canWrite 1 = .ok (.getfield 33, 3) := by decide +kernel
theorem dX3_canWrite_4 : decode cX3_canWrite 4 = .ok (.iload_n 1, 1) := by decide +kernel
theorem dX3_canWrite_5 : decode cX3_canWrite 5 = .ok (.iaload, 1) := by decide +kernel
theorem dX3_canWrite_6 : decode cX3_canWrite 6 = .ok (.ifCond .ne 16, 3) := by decide +kernel
theorem dX3_canWrite_9 : decode cX3_canWrite 9 = .ok (.aload_n 0, 1) := by decide +kernel
theorem dX3_canWrite_10 : decode cX3_canWrite 10 = .ok (.getfield 27, 3) := by decide +kernel
theorem dX3_canWrite_13 : decode cX3_canWrite 13 = .ok (.iload_n 1, 1) := by decide +kernel
theorem dX3_canWrite_14 : decode cX3_canWrite 14 = .ok (.baload, 1) := by decide +kernel
theorem dX3_canWrite_15 : decode cX3_canWrite 15 = .ok (.ifCond .eq 7, 3) := by decide +kernel
theorem dX3_canWrite_18 : decode cX3_canWrite 18 = .ok (.iconst 1, 1) := by decide +kernel
theorem dX3_canWrite_19 : decode cX3_canWrite 19 = .ok (.goto 4, 3) := by decide +kernel
theorem dX3_canWrite_22 : decode cX3_canWrite 22 = .ok (.iconst 0, 1) := by decide +kernel
theorem dX3_canWrite_23 : decode cX3_canWrite 23 = .ok (.ireturn, 1) := by decide +kernel
set_option maxRecDepth 20000 in
theorem ggX3_note_X3_isTransaction : GoodIn wsX3_note wsX3_isTransaction := goodIn_r _ [6, 7, 19, 20, 21, 22, 23, 24, 25, 26, 27, 28, 29, 30, 31, 32, 33, 34, 35, 36, 37, 38, 39, 40, 41, 42, 43, 44, 45] (by decide +kernel) (by decide +kernel)
set_option maxRecDepth 20000 in
theorem gX3_note_X3_isTransaction : GoodIn wsX3_note (wsV RX3 111 RX3 yX3_isTransaction wsX3_isTransaction) := goodIn_app (goodIn_of _ (by decide +kernel)) ggX3_note_X3_isTransaction
set_option maxRecDepth 20000 in
theorem ggX3_note_X3_canWrite : GoodIn wsX3_note wsX3_canWrite := goodIn_r _ [11, 12, 13, 19, 20, 21, 22, 23, 24, 25, 26, 27, 28, 29, 30, 31, 32, 33, 34, 35, 36, 37, 38, 39, 40, 41, 42, 43, 44, 45] (by decide +kernel) (by decide +kernel)
set_option maxRecDepth 20000 in
theorem gX3_note_X3_canWrite : GoodIn wsX3_note (wsV RX3 114 RX3 yX3_canWrite wsX3_canWrite) := goodIn_app (goodIn_of _ (by decide +kernel)) ggX3_note_X3_canWrite
set_option maxRecDepth 20000 in
theorem ggX3_note_X3_fails : GoodIn wsX3_note wsX3_fails := goodIn_r _ [17, 18, 19, 20, 21, 22, 23, 24, 25, 26, 27, 28, 29, 30, 31, 32, 33, 34, 35, 36, 37, 38, 39, 40, 41, 42, 43, 44, 45] (by decide +kernel) (by decide +kernel)
set_option maxRecDepth 20000 in
theorem gX3_note_X3_fails : GoodIn wsX3_note (wsV RX3 99 RX3 yX3_fails wsX3_fails) := goodIn_app (goodIn_of _ (by decide +kernel)) ggX3_note_X3_fails
theorem dX3_note_0 : decode cX3_note 0 = .ok (.aload_n 0, 1) := by decide +kernel
theorem dX3_note_1 : decode cX3_note 1 = .ok (.iload_n 1, 1) := by decide +kernel
theorem dX3_note_2 : decode cX3_note 2 = .ok (.invokevirtual 111, 3) := by decide +kernel
theorem dX3_note_5 : decode cX3_note 5 = .ok (.ifCond .eq 16, 3) := by decide +kernel
theorem dX3_note_8 : decode cX3_note 8 = .ok (.iload_n 2, 1) := by decide +kernel
theorem dX3_note_9 : decode cX3_note 9 = .ok (.ifCond .lt 12, 3) := by decide +kernel
theorem dX3_note_12 : decode cX3_note 12 = .ok (.iload_n 2, 1) := by decide +kernel
theorem dX3_note_13 : decode cX3_note 13 = .ok (.iconst 4, 1) := by decide +kernel
theorem dX3_note_14 : decode cX3_note 14 = .ok (.if_icmp .ge 7, 3) := by decide +kernel
theorem dX3_note_17 : decode cX3_note 17 = .ok (.iconst 1, 1) := by decide +kernel
theorem dX3_note_18 : decode cX3_note 18 = .ok (.goto 4, 3) := by decide +kernel
theorem dX3_note_21 : decode cX3_note 21 = .ok (.iconst 0, 1) := by decide +kernel
theorem dX3_note_22 : decode cX3_note 22 = .ok (.istore_n 3, 1) := by decide +kernel
theorem dX3_note_23 : decode cX3_note 23 = .ok (.aload_n 0, 1) := by decide +kernel
theorem dX3_note_24 : decode cX3_note 24 = .ok (.iload_n 3, 1) := by decide +kernel
theorem dX3_note_25 : decode cX3_note 25 = .ok (.iload_n 3, 1) := by decide +kernel
theorem dX3_note_26 : decode cX3_note 26 = .ok (.ifCond .eq 15, 3) := by decide +kernel
theorem dX3_note_29 : decode cX3_note 29 = .ok (.aload_n 0, 1) := by decide +kernel
theorem dX3_note_30 : decode cX3_note 30 = .ok (.iload_n 1, 1) := by decide +kernel
theorem dX3_note_31 : decode cX3_note 31 = .ok (.invokevirtual 114, 3) := by decide +kernel
theorem dX3_note_34 : decode cX3_note 34 = .ok (.ifCond .eq 7, 3) := by decide +kernel
theorem dX3_note_37 : decode cX3_note 37 = .ok (.iconst 1, 1) := by decide +kernel
theorem dX3_note_38 : decode cX3_note 38 = .ok (.goto 4, 3) := by decide +kernel
theorem dX3_note_41 : decode cX3_note 41 = .ok (.iconst 0, 1) := by decide +kernel
theorem dX3_note_42 : decode cX3_note 42 = .ok (.invokevirtual 99, 3) := by decide +kernel
theorem dX3_note_45 : decode cX3_note 45 = .ok (.ifCond .eq 5, 3) := by decide +kernel
theorem dX3_note_48 : decode cX3_note 48 = .ok (.iconst 0, 1) := by decide +kernel
theorem dX3_note_49 : decode cX3_note 49 = .ok (.ireturn, 1) := by decide +kernel
theorem dX3_note_50 : decode cX3_note 50 = .ok (.aload_n 0, 1) := by decide +kernel
theorem dX3_note_51 : decode cX3_note 51 = .ok (.getfield 36, 3) := by decide +kernel
theorem dX3_note_54 : decode cX3_note 54 = .ok (.iload_n 1, 1) := by decide +kernel
theorem dX3_note_55 : decode cX3_note 55 = .ok (.dup2, 1) := by decide +kernel
theorem dX3_note_56 : decode cX3_note 56 = .ok (.iaload, 1) := by decide +kernel
theorem dX3_note_57 : decode cX3_note 57 = .ok (.iconst 1, 1) := by decide +kernel
theorem dX3_note_58 : decode cX3_note 58 = .ok (.iload_n 2, 1) := by decide +kernel
theorem dX3_note_59 : decode cX3_note 59 = .ok (.ishl, 1) := by decide +kernel
theorem dX3_note_60 : decode cX3_note 60 = .ok (.ior, 1) := by decide +kernel
theorem dX3_note_61 : decode cX3_note 61 = .ok (.iastore, 1) := by decide +kernel
theorem dX3_note_62 : decode cX3_note 62 = .ok (.iconst 0, 1) := by decide +kernel
theorem dX3_note_63 : decode cX3_note 63 = .ok (.istore 4, 2) := by decide +kernel
theorem dX3_note_65 : decode cX3_note 65 = .ok (.iconst 0, 1) := by decide +kernel
theorem dX3_note_66 : decode cX3_note 66 = .ok (.istore 5, 2) := by decide +kernel
theorem dX3_note_68 : decode cX3_note 68 = .ok (.iload 5, 2) := by decide +kernel
theorem dX3_note_70 : decode cX3_note 70 = .ok (.iconst 4, 1) := by decide +kernel
theorem dX3_note_71 : decode cX3_note 71 = .ok (.if_icmp .ge 25, 3) := by decide +kernel
theorem dX3_note_74 : decode cX3_note 74 = .ok (.iload 4, 2) := by decide +kernel
theorem dX3_note_76 : decode cX3_note 76 = .ok (.aload_n 0, 1) := by decide +kernel
theorem dX3_note_77 : decode cX3_note 77 = .ok (.getfield 36, 3) := by decide +kernel
theorem dX3_note_80 : decode cX3_note 80 = .ok (.iload_n 1, 1) := by decide +kernel
theorem dX3_note_81 : decode cX3_note 81 = .ok (.iaload, 1) := by decide +kernel
theorem dX3_note_82 : decode cX3_note 82 = .ok (.iload 5, 2) := by decide +kernel
theorem dX3_note_84 : decode cX3_note 84 = .ok (.ishr, 1) := by decide +kernel
theorem dX3_note_85 : decode cX3_note 85 = .ok (.iconst 1, 1) := by decide +kernel
theorem dX3_note_86 : decode cX3_note 86 = .ok (.iand, 1) := by decide +kernel
theorem dX3_note_87 : decode cX3_note 87 = .ok (.iadd, 1) := by decide +kernel
theorem dX3_note_88 : decode cX3_note 88 = .ok (.istore 4, 2) := by decide +kernel
theorem dX3_note_90 : decode cX3_note 90 = .ok (.iinc 5 1, 3) := by decide +kernel
theorem dX3_note_93 : decode cX3_note 93 = .ok (.goto (-25), 3) := by decide +kernel
theorem dX3_note_96 : decode cX3_note 96 = .ok (.iload 4, 2) := by decide +kernel
theorem dX3_note_98 : decode cX3_note 98 = .ok (.ireturn, 1) := by decide +kernel
set_option maxRecDepth 20000 in
theorem ggX3_put_X3_isTransaction : GoodIn wsX3_put wsX3_isTransaction := goodIn_r _ [6, 7, 62, 63, 64, 65, 66, 67, 68, 69, 70, 71, 72, 73, 74, 75, 76, 77, 78, 79, 80, 81, 82, 83, 84, 85, 86, 87, 88] (by decide +kernel) (by decide +kernel)
set_option maxRecDepth 20000 in
theorem gX3_put_X3_isTransaction : GoodIn wsX3_put (wsV RX3 111 RX3 yX3_isTransaction wsX3_isTransaction) := goodIn_app (goodIn_of _ (by decide +kernel)) ggX3_put_X3_isTransaction
set_option maxRecDepth 20000 in
theorem ggX3_put_X3_isTriple : GoodIn wsX3_put wsX3_isTriple := goodIn_r _ [10] (by decide +kernel) (by decide +kernel)
set_option maxRecDepth 20000 in
theorem gX3_put_X3_isTriple : GoodIn wsX3_put (va_wsS RX3 96 yX3_isTriple wsX3_isTriple) := goodIn_app (goodIn_of _ (by decide +kernel)) ggX3_put_X3_isTriple
set_option maxRecDepth 20000 in
theorem ggX3_put_X3_canWrite : GoodIn wsX3_put wsX3_canWrite := goodIn_r _ [14, 1, 15, 62, 63, 64, 65, 66, 67, 68, 69, 70, 71, 72, 73, 74, 75, 76, 77, 78, 79, 80, 81, 82, 83, 84, 85, 86, 87, 88] (by decide +kernel) (by decide +kernel)
set_option maxRecDepth 20000 in
theorem gX3_put_X3_canWrite : GoodIn wsX3_put (wsV RX3 114 RX3 yX3_canWrite wsX3_canWrite) := goodIn_app (goodIn_of _ (by decide +kernel)) ggX3_put_X3_canWrite
set_option maxRecDepth 20000 in
theorem ggX3_put_X3_fails : GoodIn wsX3_put wsX3_fails := goodIn_r _ [19, 20, 62, 63, 64, 65, 66, 67, 68, 69, 70, 71, 72, 73, 74, 75, 76, 77, 78, 79, 80, 81, 82, 83, 84, 85, 86, 87, 88] (by decide +kernel) (by decide +kernel)
set_option maxRecDepth 20000 in
theorem gX3_put_X3_fails : GoodIn wsX3_put (wsV RX3 99 RX3 yX3_fails wsX3_fails) := goodIn_app (goodIn_of _ (by decide +kernel)) ggX3_put_X3_fails
set_option maxRecDepth 20000 in
theorem ggX3_put_X3_write : GoodIn wsX3_put wsX3_write := goodIn_r _ [24, 25, 1, 26, 27, 28, 29, 30, 31, 32, 33, 34, 35, 36, 5, 37, 38, 39, 40, 41, 42, 43, 44, 45, 46, 47, 48, 49, 50, 51, 52, 53, 54, 7, 55, 56, 62, 63, 64, 65, 66, 67, 68, 69, 70, 71, 72, 73, 74, 75, 76, 77, 78, 79, 80, 81, 82, 83, 84, 85, 86, 87, 88] (by decide +kernel) (by decide +kernel)
set_option maxRecDepth 20000 in
theorem gX3_put_X3_write : GoodIn wsX3_put (wsV RX3 117 RX3 yX3_write wsX3_write) := goodIn_app (goodIn_of _ (by decide +kernel)) ggX3_put_X3_write
set_option maxRecDepth 20000 in
theorem ggX3_put_X3_goOn : GoodIn wsX3_put wsX3_goOn := goodIn_r _ [60, 61, 56, 55, 1, 29, 30, 21, 22, 23, 5, 24, 25, 26, 27, 28, 31, 32, 33, 34, 35, 36, 37, 38, 39, 40, 41, 42, 43, 44, 45, 46, 47, 48, 49, 50, 51, 52, 53, 54, 7, 62, 63, 64, 65, 66, 67, 68, 69, 70, 71, 72, 73, 74, 75, 76, 77, 78, 79, 80, 81, 82, 83, 84, 85, 86, 87, 88] (by decide +kernel) (by decide +kernel)
set_option maxRecDepth 20000 in
theorem gX3_put_X3_goOn : GoodIn wsX3_put (wsV RX3 121 RX3 yX3_goOn wsX3_goOn) := goodIn_app (goodIn_of _ (by decide +kernel)) ggX3_put_X3_goOn
theorem dX3_put_0 : decode cX3_put 0 = .ok (.aload_n 0, 1) := by decide +kernel
theorem dX3_put_1 : decode cX3_put 1 = .ok (.iload_n 1, 1) := by decide +kernel
theorem dX3_put_2 : decode cX3_put 2 = .ok (.invokevirtual 111, 3) := by decide +kernel
theorem dX3_put_5 : decode cX3_put 5 = .ok (.ifCond .eq 14, 3) := by decide +kernel
theorem dX3_put_8 : decode cX3_put 8 = .ok (.iload_n 2, 1) := by decide +kernel
theorem dX3_put_9 : decode cX3_put 9 = .ok (.invokestatic 96, 3) := by decide +kernel
theorem dX3_put_12 : decode cX3_put 12 = .ok (.ifCond .eq 7, 3) := by decide +kernel
theorem dX3_put_15 : decode cX3_put 15 = .ok (.iconst 1, 1) := by decide +kernel
theorem dX3_put_16 : decode cX3_put 16 = .ok (.goto 4, 3) := by decide +kernel
theorem dX3_put_19 : decode cX3_put 19 = .ok (.iconst 0, 1) := by decide +kernel
theorem dX3_put_20 : decode cX3_put 20 = .ok (.istore 4, 2) := by decide +kernel
theorem dX3_put_22 : decode cX3_put 22 = .ok (.aload_n 0, 1) := by decide +kernel
theorem dX3_put_23 : decode cX3_put 23 = .ok (.iload 4, 2) := by decide +kernel
theorem dX3_put_25 : decode cX3_put 25 = .ok (.iload 4, 2) := by decide +kernel
theorem dX3_put_27 : decode cX3_put 27 = .ok (.ifCond .eq 15, 3) := by decide +kernel
theorem dX3_put_30 : decode cX3_put 30 = .ok (.aload_n 0, 1) := by decide +kernel
theorem dX3_put_31 : decode cX3_put 31 = .ok (.iload_n 1, 1) := by decide +kernel
theorem dX3_put_32 : decode cX3_put 32 = .ok (.invokevirtual 114, 3) := by decide +kernel
theorem dX3_put_35 : decode cX3_put 35 = .ok (.ifCond .eq 7, 3) := by decide +kernel
theorem dX3_put_38 : decode cX3_put 38 = .ok (.iconst 1, 1) := by decide +kernel
theorem dX3_put_39 : decode cX3_put 39 = .ok (.goto 4, 3) := by decide +kernel
theorem dX3_put_42 : decode cX3_put 42 = .ok (.iconst 0, 1) := by decide +kernel
theorem dX3_put_43 : decode cX3_put 43 = .ok (.invokevirtual 99, 3) := by decide +kernel
theorem dX3_put_46 : decode cX3_put 46 = .ok (.ifCond .eq 5, 3) := by decide +kernel
theorem dX3_put_49 : decode cX3_put 49 = .ok (.iconst 0, 1) := by decide +kernel
theorem dX3_put_50 : decode cX3_put 50 = .ok (.ireturn, 1) := by decide +kernel
theorem dX3_put_51 : decode cX3_put 51 = .ok (.aload_n 0, 1) := by decide +kernel
theorem dX3_put_52 : decode cX3_put 52 = .ok (.iload_n 1, 1) := by decide +kernel
theorem dX3_put_53 : decode cX3_put 53 = .ok (.iload_n 2, 1) := by decide +kernel
theorem dX3_put_54 : decode cX3_put 54 = .ok (.iload_n 3, 1) := by decide +kernel
theorem dX3_put_55 : decode cX3_put 55 = .ok (.invokevirtual 117, 3) := by decide +kernel
theorem dX3_put_58 : decode cX3_put 58 = .ok (.aload_n 0, 1) := by decide +kernel
theorem dX3_put_59 : decode cX3_put 59 = .ok (.invokevirtual 121, 3) := by decide +kernel
theorem dX3_put_62 : decode cX3_put 62 = .ok (.aload_n 0, 1) := by decide +kernel
theorem dX3_put_63 : decode cX3_put 63 = .ok (.getfield 33, 3) := by decide +kernel
theorem dX3_put_66 : decode cX3_put 66 = .ok (.iload_n 1, 1) := by decide +kernel
theorem dX3_put_67 : decode cX3_put 67 = .ok (.iaload, 1) := by decide +kernel
theorem dX3_put_68 : decode cX3_put 68 = .ok (.istore 5, 2) := by decide +kernel
theorem dX3_put_70 : decode cX3_put 70 = .ok (.iload 5, 2) := by decide +kernel
theorem dX3_put_72 : decode cX3_put 72 = .ok (.ifCond .ne 7, 3) := by decide +kernel
theorem dX3_put_75 : decode cX3_put 75 = .ok (.iconst 1, 1) := by decide +kernel
theorem dX3_put_76 : decode cX3_put 76 = .ok (.goto 25, 3) := by decide +kernel
theorem dX3_put_79 : decode cX3_put 79 = .ok (.iload 5, 2) := by decide +kernel
theorem dX3_put_81 : decode cX3_put 81 = .ok (.iconst 1, 1) := by decide +kernel
theorem dX3_put_82 : decode cX3_put 82 = .ok (.if_icmp .ne 7, 3) := by decide +kernel
theorem dX3_put_85 : decode cX3_put 85 = .ok (.iconst 0, 1) := by decide +kernel
theorem dX3_put_86 : decode cX3_put 86 = .ok (.goto 15, 3) := by decide +kernel
theorem dX3_put_89 : decode cX3_put 89 = .ok (.iload 5, 2) := by decide +kernel
theorem dX3_put_91 : decode cX3_put 91 = .ok (.iconst 2, 1) := by decide +kernel
theorem dX3_put_92 : decode cX3_put 92 = .ok (.if_icmp .ne 7, 3) := by decide +kernel
theorem dX3_put_95 : decode cX3_put 95 = .ok (.iconst (-1), 1) := by decide +kernel
theorem dX3_put_96 : decode cX3_put 96 = .ok (.goto 5, 3) := by decide +kernel
theorem dX3_put_99 : decode cX3_put 99 = .ok (.bipush (-2), 2) := by decide +kernel
theorem dX3_put_101 : decode cX3_put 101 = .ok (.ireturn, 1) := by decide +kernel
set_option maxRecDepth 20000 in
theorem ggX3_write_X3_hasAbove : GoodIn wsX3_write wsX3_hasAbove := goodIn_r _ [15, 16, 17, 18, 36, 37, 38, 39, 40, 41, 42, 43, 44, 45, 46, 47, 48, 49, 50, 51, 52, 53, 54, 55, 56, 57, 58, 59, 60, 61, 62] (by decide +kernel) (by decide +kernel)
set_option maxRecDepth 20000 in
theorem gX3_write_X3_hasAbove : GoodIn wsX3_write (wsV RX3 124 RX3 yX3_hasAbove wsX3_hasAbove) := goodIn_app (goodIn_of _ (by decide +kernel)) ggX3_write_X3_hasAbove
set_option maxRecDepth 20000 in
theorem ggX3_write_X3_lookForRing : GoodIn wsX3_write wsX3_lookForRing := goodIn_r _ [22, 2, 1, 23, 24, 25, 14, 26, 27, 28, 29, 30, 31, 32, 5, 33, 8, 34, 35, 36, 37, 38, 39, 40, 41, 42, 43, 44, 45, 46, 47, 48, 49, 50, 51, 52, 53, 54, 55, 56, 57, 58, 59, 60, 61, 62] (by decide +kernel) (by decide +kernel)
set_option maxRecDepth 20000 in
theorem gX3_write_X3_lookForRing : GoodIn wsX3_write (wsV RX3 130 RX3 yX3_lookForRing wsX3_lookForRing) := goodIn_app (goodIn_of _ (by decide +kernel)) ggX3_write_X3_lookForRing
theorem dX3_write_0 : decode cX3_write 0 = .ok (.aload_n 0, 1) := by decide +kernel
theorem dX3_write_1 : decode cX3_write 1 = .ok (.getfield 42, 3) := by decide +kernel
theorem dX3_write_4 : decode cX3_write 4 = .ok (.iload_n 1, 1) := by decide +kernel
theorem dX3_write_5 : decode cX3_write 5 = .ok (.iconst (-1), 1) := by decide +kernel
theorem dX3_write_6 : decode cX3_write 6 = .ok (.iastore, 1) := by decide +kernel
theorem dX3_write_7 : decode cX3_write 7 = .ok (.aload_n 0, 1) := by decide +kernel
theorem dX3_write_8 : decode cX3_write 8 = .ok (.getfield 33, 3) := by decide +kernel
theorem dX3_write_11 : decode cX3_write 11 = .ok (.iload_n 1, 1) := by decide +kernel
theorem dX3_write_12 : decode cX3_write 12 = .ok (.iconst 0, 1) := by decide +kernel
theorem dX3_write_13 : decode cX3_write 13 = .ok (.iastore, 1) := by decide +kernel
theorem dX3_write_14 : decode cX3_write 14 = .ok (.aload_n 0, 1) := by decide +kernel
theorem dX3_write_15 : decode cX3_write 15 = .ok (.iload_n 2, 1) := by decide +kernel
theorem dX3_write_16 : decode cX3_write 16 = .ok (.aload_n 0, 1) := by decide +kernel
theorem dX3_write_17 : decode cX3_write 17 = .ok (.getfield 30, 3) := by decide +kernel
theorem dX3_write_20 : decode cX3_write 20 = .ok (.iload_n 1, 1) := by decide +kernel
theorem dX3_write_21 : decode cX3_write 21 = .ok (.iaload, 1) := by decide +kernel
theorem dX3_write_22 : decode cX3_write 22 = .ok (.invokevirtual 124, 3) := by decide +kernel
theorem dX3_write_25 : decode cX3_write 25 = .ok (.ifCond .eq 21, 3) := by decide +kernel
theorem dX3_write_28 : decode cX3_write 28 = .ok (.aload_n 0, 1) := by decide +kernel
theorem dX3_write_29 : decode cX3_write 29 = .ok (.getfield 33, 3) := by decide +kernel
theorem dX3_write_32 : decode cX3_write 32 = .ok (.iload_n 1, 1) := by decide +kernel
theorem dX3_write_33 : decode cX3_write 33 = .ok (.iconst 2, 1) := by decide +kernel
theorem dX3_write_34 : decode cX3_write 34 = .ok (.iastore, 1) := by decide +kernel
theorem dX3_write_35 : decode cX3_write 35 = .ok (.aload_n 0, 1) := by decide +kernel
theorem dX3_write_36 : decode cX3_write 36 = .ok (.getfield 63, 3) := by decide +kernel
theorem dX3_write_39 : decode cX3_write 39 = .ok (.iload_n 2, 1) := by decide +kernel
theorem dX3_write_40 : decode cX3_write 40 = .ok (.dup2, 1) := by decide +kernel
theorem dX3_write_41 : decode cX3_write 41 = .ok (.iaload, 1) := by decide +kernel
theorem dX3_write_42 : decode cX3_write 42 = .ok (.iconst 1, 1) := by decide +kernel
theorem dX3_write_43 : decode cX3_write 43 = .ok (.iadd, 1) := by decide +kernel
theorem dX3_write_44 : decode cX3_write 44 = .ok (.iastore, 1) := by decide +kernel
theorem dX3_write_45 : decode cX3_write 45 = .ok (.return_, 1) := by decide +kernel
theorem dX3_write_46 : decode cX3_write 46 = .ok (.aload_n 0, 1) := by decide +kernel
theorem dX3_write_47 : decode cX3_write 47 = .ok (.getfield 54, 3) := by decide +kernel
theorem dX3_write_50 : decode cX3_write 50 = .ok (.iload_n 2, 1) := by decide +kernel
theorem dX3_write_51 : decode cX3_write 51 = .ok (.iaload, 1) := by decide +kernel
theorem dX3_write_52 : decode cX3_write 52 = .ok (.ifCond .lt 72, 3) := by decide +kernel
theorem dX3_write_55 : decode cX3_write 55 = .ok (.aload_n 0, 1) := by decide +kernel
theorem dX3_write_56 : decode cX3_write 56 = .ok (.getfield 54, 3) := by decide +kernel
theorem dX3_write_59 : decode cX3_write 59 = .ok (.iload_n 2, 1) := by decide +kernel
theorem dX3_write_60 : decode cX3_write 60 = .ok (.iaload, 1) := by decide +kernel
theorem dX3_write_61 : decode cX3_write 61 = .ok (.iload_n 1, 1) := by decide +kernel
theorem dX3_write_62 : decode cX3_write 62 = .ok (.if_icmp .eq 62, 3) := by decide +kernel
theorem dX3_write_65 : decode cX3_write 65 = .ok (.aload_n 0, 1) := by decide +kernel
theorem dX3_write_66 : decode cX3_write 66 = .ok (.getfield 33, 3) := by decide +kernel
theorem dX3_write_69 : decode cX3_write 69 = .ok (.iload_n 1, 1) := by decide +kernel
theorem dX3_write_70 : decode cX3_write 70 = .ok (.iconst 1, 1) := by decide +kernel
theorem dX3_write_71 : decode cX3_write 71 = .ok (.iastore, 1) := by decide +kernel
theorem dX3_write_72 : decode cX3_write 72 = .ok (.aload_n 0, 1) := by decide +kernel
theorem dX3_write_73 : decode cX3_write 73 = .ok (.getfield 42, 3) := by decide +kernel
theorem dX3_write_76 : decode cX3_write 76 = .ok (.iload_n 1, 1) := by decide +kernel
theorem dX3_write_77 : decode cX3_write 77 = .ok (.aload_n 0, 1) := by decide +kernel
theorem dX3_write_78 : decode cX3_write 78 = .ok (.getfield 54, 3) := by decide +kernel
theorem dX3_write_81 : decode cX3_write 81 = .ok (.iload_n 2, 1) := by decide +kernel
theorem dX3_write_82 : decode cX3_write 82 = .ok (.iaload, 1) := by decide +kernel
theorem dX3_write_83 : decode cX3_write 83 = .ok (.iastore, 1) := by decide +kernel
theorem dX3_write_84 : decode cX3_write 84 = .ok (.aload_n 0, 1) := by decide +kernel
theorem dX3_write_85 : decode cX3_write 85 = .ok (.getfield 45, 3) := by decide +kernel
theorem dX3_write_88 : decode cX3_write 88 = .ok (.iload_n 1, 1) := by decide +kernel
theorem dX3_write_89 : decode cX3_write 89 = .ok (.iload_n 2, 1) := by decide +kernel
theorem dX3_write_90 : decode cX3_write 90 = .ok (.iastore, 1) := by decide +kernel
theorem dX3_write_91 : decode cX3_write 91 = .ok (.aload_n 0, 1) := by decide +kernel
theorem dX3_write_92 : decode cX3_write 92 = .ok (.getfield 48, 3) := by decide +kernel
theorem dX3_write_95 : decode cX3_write 95 = .ok (.iload_n 1, 1) := by decide +kernel
theorem dX3_write_96 : decode cX3_write 96 = .ok (.iload_n 3, 1) := by decide +kernel
theorem dX3_write_97 : decode cX3_write 97 = .ok (.bastore, 1) := by decide +kernel
theorem dX3_write_98 : decode cX3_write 98 = .ok (.aload_n 0, 1) := by decide +kernel
theorem dX3_write_99 : decode cX3_write 99 = .ok (.getfield 51, 3) := by decide +kernel
theorem dX3_write_102 : decode cX3_write 102 = .ok (.iload_n 1, 1) := by decide +kernel
theorem dX3_write_103 : decode cX3_write 103 = .ok (.aload_n 0, 1) := by decide +kernel
theorem dX3_write_104 : decode cX3_write 104 = .ok (.getfield 127, 3) := by decide +kernel
theorem dX3_write_107 : decode cX3_write 107 = .ok (.iastore, 1) := by decide +kernel
theorem dX3_write_108 : decode cX3_write 108 = .ok (.aload_n 0, 1) := by decide +kernel
theorem dX3_write_109 : decode cX3_write 109 = .ok (.dup, 1) := by decide +kernel
theorem dX3_write_110 : decode cX3_write 110 = .ok (.getfield 127, 3) := by decide +kernel
theorem dX3_write_113 : decode cX3_write 113 = .ok (.iconst 1, 1) := by decide +kernel
theorem dX3_write_114 : decode cX3_write 114 = .ok (.iadd, 1) := by decide +kernel
theorem dX3_write_115 : decode cX3_write 115 = .ok (.putfield 127, 3) := by decide +kernel
theorem dX3_write_118 : decode cX3_write 118 = .ok (.aload_n 0, 1) := by decide +kernel
theorem dX3_write_119 : decode cX3_write 119 = .ok (.iload_n 1, 1) := by decide +kernel
theorem dX3_write_120 : decode cX3_write 120 = .ok (.invokevirtual 130, 3) := by decide +kernel
theorem dX3_write_123 : decode cX3_write 123 = .ok (.return_, 1) := by decide +kernel
theorem dX3_write_124 : decode cX3_write 124 = .ok (.aload_n 0, 1) := by decide +kernel
theorem dX3_write_125 : decode cX3_write 125 = .ok (.getfield 54, 3) := by decide +kernel
theorem dX3_write_128 : decode cX3_write 128 = .ok (.iload_n 2, 1) := by decide +kernel
theorem dX3_write_129 : decode cX3_write 129 = .ok (.iload_n 1, 1) := by decide +kernel
theorem dX3_write_130 : decode cX3_write 130 = .ok (.iastore, 1) := by decide +kernel
theorem dX3_write_131 : decode cX3_write 131 = .ok (.aload_n 0, 1) := by decide +kernel
theorem dX3_write_132 : decode cX3_write 132 = .ok (.getfield 39, 3) := by decide +kernel
theorem dX3_write_135 : decode cX3_write 135 = .ok (.sipush 200, 3) := by decide +kernel
theorem dX3_write_138 : decode cX3_write 138 = .ok (.iload_n 1, 1) := by decide +kernel
theorem dX3_write_139 : decode cX3_write 139 = .ok (.imul, 1) := by decide +kernel
theorem dX3_write_140 : decode cX3_write 140 = .ok (.iload_n 2, 1) := by decide +kernel
theorem dX3_write_141 : decode cX3_write 141 = .ok (.iadd, 1) := by decide +kernel
theorem dX3_write_142 : decode cX3_write 142 = .ok (.iload_n 3, 1) := by decide +kernel
theorem dX3_write_143 : decode cX3_write 143 = .ok (.ifCond .eq 7, 3) := by decide +kernel
theorem dX3_write_146 : decode cX3_write 146 = .ok (.iconst 2, 1) := by decide +kernel
theorem dX3_write_147 : decode cX3_write 147 = .ok (.goto 4, 3) := by decide +kernel
theorem dX3_write_150 : decode cX3_write 150 = .ok (.iconst 1, 1) := by decide +kernel
theorem dX3_write_151 : decode cX3_write 151 = .ok (.iastore, 1) := by decide +kernel
theorem dX3_write_152 : decode cX3_write 152 = .ok (.return_, 1) := by decide +kernel
set_option maxRecDepth 20000 in
theorem ggX3_lookForRing_X3_takeRing : GoodIn wsX3_lookForRing wsX3_takeRing := goodIn_r _ [7, 8, 9, 2, 10, 11, 12, 6, 13, 1, 14, 15, 16, 17, 18, 19, 20, 21, 22, 23, 24, 25, 26, 27, 28, 29, 30, 31, 32, 33, 34, 35, 36, 37, 38, 39, 40, 41, 42, 43, 44, 45] (by decide +kernel) (by decide +kernel)
set_option maxRecDepth 20000 in
theorem gX3_lookForRing_X3_takeRing : GoodIn wsX3_lookForRing (wsV RX3 134 RX3 yX3_takeRing wsX3_takeRing) := goodIn_app (goodIn_of _ (by decide +kernel)) ggX3_lookForRing_X3_takeRing
theorem dX3_lookForRing_0 : decode cX3_lookForRing 0 = .ok (.iconst 0, 1) := by decide +kernel
theorem dX3_lookForRing_1 : decode cX3_lookForRing 1 = .ok (.istore_n 2, 1) := by decide +kernel
theorem dX3_lookForRing_2 : decode cX3_lookForRing 2 = .ok (.iload_n 1, 1) := by decide +kernel
theorem dX3_lookForRing_3 : decode cX3_lookForRing 3 = .ok (.istore_n 3, 1) := by decide +kernel
theorem dX3_lookForRing_4 : decode cX3_lookForRing 4 = .ok (.aload_n 0, 1) := by decide +kernel
theorem dX3_lookForRing_5 : decode cX3_lookForRing 5 = .ok (.getfield 33, 3) := by decide +kernel
theorem dX3_lookForRing_8 : decode cX3_lookForRing 8 = .ok (.iload_n 3, 1) := by decide +kernel
theorem dX3_lookForRing_9 : decode cX3_lookForRing 9 = .ok (.iaload, 1) := by decide +kernel
theorem dX3_lookForRing_10 : decode cX3_lookForRing 10 = .ok (.iconst 1, 1) := by decide +kernel
theorem dX3_lookForRing_11 : decode cX3_lookForRing 11 = .ok (.if_icmp .ne 31, 3) := by decide +kernel
theorem dX3_lookForRing_14 : decode cX3_lookForRing 14 = .ok (.iload_n 2, 1) := by decide +kernel
theorem dX3_lookForRing_15 : decode cX3_lookForRing 15 = .ok (.bipush 60, 2) := by decide +kernel
theorem dX3_lookForRing_17 : decode cX3_lookForRing 17 = .ok (.if_icmp .ge 25, 3) := by decide +kernel
theorem dX3_lookForRing_20 : decode cX3_lookForRing 20 = .ok (.aload_n 0, 1) := by decide +kernel
theorem dX3_lookForRing_21 : decode cX3_lookForRing 21 = .ok (.getfield 42, 3) := by decide +kernel
theorem dX3_lookForRing_24 : decode cX3_lookForRing 24 = .ok (.iload_n 3, 1) := by decide +kernel
theorem dX3_lookForRing_25 : decode cX3_lookForRing 25 = .ok (.iaload, 1) := by decide +kernel
theorem dX3_lookForRing_26 : decode cX3_lookForRing 26 = .ok (.istore_n 3, 1) := by decide +kernel
theorem dX3_lookForRing_27 : decode cX3_lookForRing 27 = .ok (.iinc 2 1, 3) := by decide +kernel
theorem dX3_lookForRing_30 : decode cX3_lookForRing 30 = .ok (.iload_n 3, 1) := by decide +kernel
theorem dX3_lookForRing_31 : decode cX3_lookForRing 31 = .ok (.iload_n 1, 1) := by decide +kernel
theorem dX3_lookForRing_32 : decode cX3_lookForRing 32 = .ok (.if_icmp .ne (-28), 3) := by decide +kernel
theorem dX3_lookForRing_35 : decode cX3_lookForRing 35 = .ok (.aload_n 0, 1) := by decide +kernel
theorem dX3_lookForRing_36 : decode cX3_lookForRing 36 = .ok (.iload_n 1, 1) := by decide +kernel
theorem dX3_lookForRing_37 : decode cX3_lookForRing 37 = .ok (.iload_n 2, 1) := by decide +kernel
theorem dX3_lookForRing_38 : decode cX3_lookForRing 38 = .ok (.invokevirtual 134, 3) := by decide +kernel
theorem dX3_lookForRing_41 : decode cX3_lookForRing 41 = .ok (.return_, 1) := by decide +kernel
theorem dX3_lookForRing_42 : decode cX3_lookForRing 42 = .ok (.return_, 1) := by decide +kernel
set_option maxRecDepth 20000 in
theorem ggX3_takeRing_X3_end : GoodIn wsX3_takeRing wsX3_end := goodIn_r _ [8, 9, 10, 11, 3, 12, 13, 14, 15, 16, 17, 18, 19, 20, 21, 22, 23, 24, 25, 26, 27, 28, 29, 30, 31, 32, 33, 34, 35, 36, 37, 38, 39, 40, 41] (by decide +kernel) (by decide +kernel)
set_option maxRecDepth 20000 in
theorem gX3_takeRing_X3_end : GoodIn wsX3_takeRing (wsV RX3 141 RX3 yX3_end wsX3_end) := goodIn_app (goodIn_of _ (by decide +kernel)) ggX3_takeRing_X3_end
theorem dX3_takeRing_0 : decode cX3_takeRing 0 = .ok (.aload_n 0, 1) := by decide +kernel
theorem dX3_takeRing_1 : decode cX3_takeRing 1 = .ok (.iconst 0, 1) := by decide +kernel
theorem dX3_takeRing_2 : decode cX3_takeRing 2 = .ok (.putfield 138, 3) := by decide +kernel
theorem dX3_takeRing_5 : decode cX3_takeRing 5 = .ok (.iload_n 1, 1) := by decide +kernel
theorem dX3_takeRing_6 : decode cX3_takeRing 6 = .ok (.istore_n 3, 1) := by decide +kernel
theorem dX3_takeRing_7 : decode cX3_takeRing 7 = .ok (.iconst 0, 1) := by decide +kernel
theorem dX3_takeRing_8 : decode cX3_takeRing 8 = .ok (.istore 4, 2) := by decide +kernel
theorem dX3_takeRing_10 : decode cX3_takeRing 10 = .ok (.iload 4, 2) := by decide +kernel
theorem dX3_takeRing_12 : decode cX3_takeRing 12 = .ok (.iload_n 2, 1) := by decide +kernel
theorem dX3_takeRing_13 : decode cX3_takeRing 13 = .ok (.if_icmp .ge 80, 3) := by decide +kernel
theorem dX3_takeRing_16 : decode cX3_takeRing 16 = .ok (.aload_n 0, 1) := by decide +kernel
theorem dX3_takeRing_17 : decode cX3_takeRing 17 = .ok (.getfield 138, 3) := by decide +kernel
theorem dX3_takeRing_20 : decode cX3_takeRing 20 = .ok (.istore 5, 2) := by decide +kernel
theorem dX3_takeRing_22 : decode cX3_takeRing 22 = .ok (.iload 5, 2) := by decide +kernel
theorem dX3_takeRing_24 : decode cX3_takeRing 24 = .ok (.ifCond .le 38, 3) := by decide +kernel
theorem dX3_takeRing_27 : decode cX3_takeRing 27 = .ok (.aload_n 0, 1) := by decide +kernel
theorem dX3_takeRing_28 : decode cX3_takeRing 28 = .ok (.getfield 60, 3) := by decide +kernel
theorem dX3_takeRing_31 : decode cX3_takeRing 31 = .ok (.iload 5, 2) := by decide +kernel
theorem dX3_takeRing_33 : decode cX3_takeRing 33 = .ok (.iconst 1, 1) := by decide +kernel
theorem dX3_takeRing_34 : decode cX3_takeRing 34 = .ok (.isub, 1) := by decide +kernel
theorem dX3_takeRing_35 : decode cX3_takeRing 35 = .ok (.iaload, 1) := by decide +kernel
theorem dX3_takeRing_36 : decode cX3_takeRing 36 = .ok (.iload_n 3, 1) := by decide +kernel
theorem dX3_takeRing_37 : decode cX3_takeRing 37 = .ok (.if_icmp .le 25, 3) := by decide +kernel
theorem dX3_takeRing_40 : decode cX3_takeRing 40 = .ok (.aload_n 0, 1) := by decide +kernel
theorem dX3_takeRing_41 : decode cX3_takeRing 41 = .ok (.getfield 60, 3) := by decide +kernel
theorem dX3_takeRing_44 : decode cX3_takeRing 44 = .ok (.iload 5, 2) := by decide +kernel
theorem dX3_takeRing_46 : decode cX3_takeRing 46 = .ok (.aload_n 0, 1) := by decide +kernel
theorem dX3_takeRing_47 : decode cX3_takeRing 47 = .ok (.getfield 60, 3) := by decide +kernel
theorem dX3_takeRing_50 : decode cX3_takeRing 50 = .ok (.iload 5, 2) := by decide +kernel
theorem dX3_takeRing_52 : decode cX3_takeRing 52 = .ok (.iconst 1, 1) := by decide +kernel
theorem dX3_takeRing_53 : decode cX3_takeRing 53 = .ok (.isub, 1) := by decide +kernel
theorem dX3_takeRing_54 : decode cX3_takeRing 54 = .ok (.iaload, 1) := by decide +kernel
theorem dX3_takeRing_55 : decode cX3_takeRing 55 = .ok (.iastore, 1) := by decide +kernel
theorem dX3_takeRing_56 : decode cX3_takeRing 56 = .ok (.iinc 5 (-1), 3) := by decide +kernel
theorem dX3_takeRing_59 : decode cX3_takeRing 59 = .ok (.goto (-37), 3) := by decide +kernel
theorem dX3_takeRing_62 : decode cX3_takeRing 62 = .ok (.aload_n 0, 1) := by decide +kernel
theorem dX3_takeRing_63 : decode cX3_takeRing 63 = .ok (.getfield 60, 3) := by decide +kernel
theorem dX3_takeRing_66 : decode cX3_takeRing 66 = .ok (.iload 5, 2) := by decide +kernel
theorem dX3_takeRing_68 : decode cX3_takeRing 68 = .ok (.iload_n 3, 1) := by decide +kernel
theorem dX3_takeRing_69 : decode cX3_takeRing 69 = .ok (.iastore, 1) := by decide +kernel
theorem dX3_takeRing_70 : decode cX3_takeRing 70 = .ok (.aload_n 0, 1) := by decide +kernel
theorem dX3_takeRing_71 : decode cX3_takeRing 71 = .ok (.dup, 1) := by decide +kernel
theorem dX3_takeRing_72 : decode cX3_takeRing 72 = .ok (.getfield 138, 3) := by decide +kernel
theorem dX3_takeRing_75 : decode cX3_takeRing 75 = .ok (.iconst 1, 1) := by decide +kernel
theorem dX3_takeRing_76 : decode cX3_takeRing 76 = .ok (.iadd, 1) := by decide +kernel
theorem dX3_takeRing_77 : decode cX3_takeRing 77 = .ok (.putfield 138, 3) := by decide +kernel
theorem dX3_takeRing_80 : decode cX3_takeRing 80 = .ok (.aload_n 0, 1) := by decide +kernel
theorem dX3_takeRing_81 : decode cX3_takeRing 81 = .ok (.getfield 42, 3) := by decide +kernel
theorem dX3_takeRing_84 : decode cX3_takeRing 84 = .ok (.iload_n 3, 1) := by decide +kernel
theorem dX3_takeRing_85 : decode cX3_takeRing 85 = .ok (.iaload, 1) := by decide +kernel
theorem dX3_takeRing_86 : decode cX3_takeRing 86 = .ok (.istore_n 3, 1) := by decide +kernel
theorem dX3_takeRing_87 : decode cX3_takeRing 87 = .ok (.iinc 4 1, 3) := by decide +kernel
theorem dX3_takeRing_90 : decode cX3_takeRing 90 = .ok (.goto (-80), 3) := by decide +kernel
theorem dX3_takeRing_93 : decode cX3_takeRing 93 = .ok (.aload_n 0, 1) := by decide +kernel
theorem dX3_takeRing_94 : decode cX3_takeRing 94 = .ok (.aload_n 0, 1) := by decide +kernel
theorem dX3_takeRing_95 : decode cX3_takeRing 95 = .ok (.getfield 60, 3) := by decide +kernel
theorem dX3_takeRing_98 : decode cX3_takeRing 98 = .ok (.iload_n 2, 1) := by decide +kernel
theorem dX3_takeRing_99 : decode cX3_takeRing 99 = .ok (.iconst 1, 1) := by decide +kernel
theorem dX3_takeRing_100 : decode cX3_takeRing 100 = .ok (.isub, 1) := by decide +kernel
theorem dX3_takeRing_101 : decode cX3_takeRing 101 = .ok (.iaload, 1) := by decide +kernel
theorem dX3_takeRing_102 : decode cX3_takeRing 102 = .ok (.iconst 4, 1) := by decide +kernel
theorem dX3_takeRing_103 : decode cX3_takeRing 103 = .ok (.invokevirtual 141, 3) := by decide +kernel
theorem dX3_takeRing_106 : decode cX3_takeRing 106 = .ok (.return_, 1) := by decide +kernel
theorem dX3_end_0 : decode cX3_end 0 = .ok (.aload_n 0, 1) := by decide +kernel
theorem dX3_end_1 : decode cX3_end 1 = .ok (.getfield 33, 3) := by decide +kernel
theorem dX3_end_4 : decode cX3_end 4 = .ok (.iload_n 1, 1) := by decide +kernel
theorem dX3_end_5 : decode cX3_end 5 = .ok (.iload_n 2, 1) := by decide +kernel
theorem dX3_end_6 : decode cX3_end 6 = .ok (.iastore, 1) := by decide +kernel
theorem dX3_end_7 : decode cX3_end 7 = .ok (.iconst 0, 1) := by decide +kernel
theorem dX3_end_8 : decode cX3_end 8 = .ok (.istore_n 3, 1) := by decide +kernel
theorem dX3_end_9 : decode cX3_end 9 = .ok (.iload_n 3, 1) := by decide +kernel
theorem dX3_end_10 : decode cX3_end 10 = .ok (.sipush 200, 3) := by decide +kernel
theorem dX3_end_13 : decode cX3_end 13 = .ok (.if_icmp .ge 26, 3) := by decide +kernel
theorem dX3_end_16 : decode cX3_end 16 = .ok (.aload_n 0, 1) := by decide +kernel
theorem dX3_end_17 : decode cX3_end 17 = .ok (.getfield 54, 3) := by decide +kernel
theorem dX3_end_20 : decode cX3_end 20 = .ok (.iload_n 3, 1) := by decide +kernel
theorem dX3_end_21 : decode cX3_end 21 = .ok (.iaload, 1) := by decide +kernel
theorem dX3_end_22 : decode cX3_end 22 = .ok (.iload_n 1, 1) := by decide +kernel
theorem dX3_end_23 : decode cX3_end 23 = .ok (.if_icmp .ne 10, 3) := by decide +kernel
theorem dX3_end_26 : decode cX3_end 26 = .ok (.aload_n 0, 1) := by decide +kernel
theorem dX3_end_27 : decode cX3_end 27 = .ok (.getfield 54, 3) := by decide +kernel
theorem dX3_end_30 : decode cX3_end 30 = .ok (.iload_n 3, 1) := by decide +kernel
theorem dX3_end_31 : decode cX3_end 31 = .ok (.iconst (-1), 1) := by decide +kernel
theorem dX3_end_32 : decode cX3_end 32 = .ok (.iastore, 1) := by decide +kernel
theorem dX3_end_33 : decode cX3_end 33 = .ok (.iinc 3 1, 3) := by decide +kernel
theorem dX3_end_36 : decode cX3_end 36 = .ok (.goto (-27), 3) := by decide +kernel
theorem dX3_end_39 : decode cX3_end 39 = .ok (.iconst (-1), 1) := by decide +kernel
theorem dX3_end_40 : decode cX3_end 40 = .ok (.istore_n 3, 1) := by decide +kernel
theorem dX3_end_41 : decode cX3_end 41 = .ok (.iconst 1, 1) := by decide +kernel
theorem dX3_end_42 : decode cX3_end 42 = .ok (.istore 4, 2) := by decide +kernel
theorem dX3_end_44 : decode cX3_end 44 = .ok (.iload 4, 2) := by decide +kernel
theorem dX3_end_46 : decode cX3_end 46 = .ok (.ifCond .eq 135, 3) := by decide +kernel
theorem dX3_end_49 : decode cX3_end 49 = .ok (.iconst (-1), 1) := by decide +kernel
theorem dX3_end_50 : decode cX3_end 50 = .ok (.istore 5, 2) := by decide +kernel
theorem dX3_end_52 : decode cX3_end 52 = .ok (.iconst 0, 1) := by decide +kernel
theorem dX3_end_53 : decode cX3_end 53 = .ok (.istore 6, 2) := by decide +kernel
theorem dX3_end_55 : decode cX3_end 55 = .ok (.iload 6, 2) := by decide +kernel
theorem dX3_end_57 : decode cX3_end 57 = .ok (.aload_n 0, 1) := by decide +kernel
theorem dX3_end_58 : decode cX3_end 58 = .ok (.getfield 72, 3) := by decide +kernel
theorem dX3_end_61 : decode cX3_end 61 = .ok (.if_icmp .ge 68, 3) := by decide +kernel
theorem dX3_end_64 : decode cX3_end 64 = .ok (.aload_n 0, 1) := by decide +kernel
theorem dX3_end_65 : decode cX3_end 65 = .ok (.getfield 33, 3) := by decide +kernel
theorem dX3_end_68 : decode cX3_end 68 = .ok (.iload 6, 2) := by decide +kernel
theorem dX3_end_70 : decode cX3_end 70 = .ok (.iaload, 1) := by decide +kernel
theorem dX3_end_71 : decode cX3_end 71 = .ok (.iconst 1, 1) := by decide +kernel
theorem dX3_end_72 : decode cX3_end 72 = .ok (.if_icmp .ne 51, 3) := by decide +kernel
theorem dX3_end_75 : decode cX3_end 75 = .ok (.aload_n 0, 1) := by decide +kernel
theorem dX3_end_76 : decode cX3_end 76 = .ok (.getfield 42, 3) := by decide +kernel
theorem dX3_end_79 : decode cX3_end 79 = .ok (.iload 6, 2) := by decide +kernel
theorem dX3_end_81 : decode cX3_end 81 = .ok (.iaload, 1) := by decide +kernel
theorem dX3_end_82 : decode cX3_end 82 = .ok (.iload_n 1, 1) := by decide +kernel
theorem dX3_end_83 : decode cX3_end 83 = .ok (.if_icmp .ne 40, 3) := by decide +kernel
theorem dX3_end_86 : decode cX3_end 86 = .ok (.aload_n 0, 1) := by decide +kernel
theorem dX3_end_87 : decode cX3_end 87 = .ok (.getfield 51, 3) := by decide +kernel
theorem dX3_end_90 : decode cX3_end 90 = .ok (.iload 6, 2) := by decide +kernel
theorem dX3_end_92 : decode cX3_end 92 = .ok (.iaload, 1) := by decide +kernel
theorem dX3_end_93 : decode cX3_end 93 = .ok (.iload_n 3, 1) := by decide +kernel
theorem dX3_end_94 : decode cX3_end 94 = .ok (.if_icmp .le 29, 3) := by decide +kernel
theorem dX3_end_97 : decode cX3_end 97 = .ok (.iload 5, 2) := by decide +kernel
theorem dX3_end_99 : decode cX3_end 99 = .ok (.ifCond .lt 20, 3) := by decide +kernel
theorem dX3_end_102 : decode cX3_end 102 = .ok (.aload_n 0, 1) := by decide +kernel
theorem dX3_end_103 : decode cX3_end 103 = .ok (.getfield 51, 3) := by decide +kernel
theorem dX3_end_106 : decode cX3_end 106 = .ok (.iload 6, 2) := by decide +kernel
theorem dX3_end_108 : decode cX3_end 108 = .ok (.iaload, 1) := by decide +kernel
theorem dX3_end_109 : decode cX3_end 109 = .ok (.aload_n 0, 1) := by decide +kernel
theorem dX3_end_110 : decode cX3_end 110 = .ok (.getfield 51, 3) := by decide +kernel
theorem dX3_end_113 : decode cX3_end 113 = .ok (.iload 5, 2) := by decide +kernel
theorem dX3_end_115 : decode cX3_end 115 = .ok (.iaload, 1) := by decide +kernel
theorem dX3_end_116 : decode cX3_end 116 = .ok (.if_icmp .ge 7, 3) := by decide +kernel
theorem dX3_end_119 : decode cX3_end 119 = .ok (.iload 6, 2) := by decide +kernel
theorem dX3_end_121 : decode cX3_end 121 = .ok (.istore 5, 2) := by decide +kernel
theorem dX3_end_123 : decode cX3_end 123 = .ok (.iinc 6 1, 3) := by decide +kernel
theorem dX3_end_126 : decode cX3_end 126 = .ok (.goto (-71), 3) := by decide +kernel
theorem dX3_end_129 : decode cX3_end 129 = .ok (.iload 5, 2) := by decide +kernel
theorem dX3_end_131 : decode cX3_end 131 = .ok (.ifCond .lt 7, 3) := by decide +kernel
theorem dX3_end_134 : decode cX3_end 134 = .ok (.iconst 1, 1) := by decide +kernel
theorem dX3_end_135 : decode cX3_end 135 = .ok (.goto 4, 3) := by decide +kernel
theorem dX3_end_138 : decode cX3_end 138 = .ok (.iconst 0, 1) := by decide +kernel
theorem dX3_end_139 : decode cX3_end 139 = .ok (.istore 4, 2) := by decide +kernel
theorem dX3_end_141 : decode cX3_end 141 = .ok (.iload 4, 2) := by decide +kernel
theorem dX3_end_143 : decode cX3_end 143 = .ok (.ifCond .ne 6, 3) := by decide +kernel
theorem dX3_end_146 : decode cX3_end 146 = .ok (.goto (-102), 3) := by decide +kernel
theorem dX3_end_149 : decode cX3_end 149 = .ok (.aload_n 0, 1) := by decide +kernel
theorem dX3_end_150 : decode cX3_end 150 = .ok (.getfield 51, 3) := by decide +kernel
theorem dX3_end_153 : decode cX3_end 153 = .ok (.iload 5, 2) := by decide +kernel
theorem dX3_end_155 : decode cX3_end 155 = .ok (.iaload, 1) := by decide +kernel
theorem dX3_end_156 : decode cX3_end 156 = .ok (.istore_n 3, 1) := by decide +kernel
theorem dX3_end_157 : decode cX3_end 157 = .ok (.aload_n 0, 1) := by decide +kernel
theorem dX3_end_158 : decode cX3_end 158 = .ok (.getfield 57, 3) := by decide +kernel
theorem dX3_end_161 : decode cX3_end 161 = .ok (.aload_n 0, 1) := by decide +kernel
theorem dX3_end_162 : decode cX3_end 162 = .ok (.getfield 144, 3) := by decide +kernel
theorem dX3_end_165 : decode cX3_end 165 = .ok (.iload 5, 2) := by decide +kernel
theorem dX3_end_167 : decode cX3_end 167 = .ok (.iastore, 1) := by decide +kernel
theorem dX3_end_168 : decode cX3_end 168 = .ok (.aload_n 0, 1) := by decide +kernel
theorem dX3_end_169 : decode cX3_end 169 = .ok (.dup, 1) := by decide +kernel
theorem dX3_end_170 : decode cX3_end 170 = .ok (.getfield 144, 3) := by decide +kernel
theorem dX3_end_173 : decode cX3_end 173 = .ok (.iconst 1, 1) := by decide +kernel
theorem dX3_end_174 : decode cX3_end 174 = .ok (.iadd, 1) := by decide +kernel
theorem dX3_end_175 : decode cX3_end 175 = .ok (.putfield 144, 3) := by decide +kernel
theorem dX3_end_178 : decode cX3_end 178 = .ok (.goto (-134), 3) := by decide +kernel
theorem dX3_end_181 : decode cX3_end 181 = .ok (.return_, 1) := by decide +kernel
set_option maxRecDepth 20000 in
theorem ggX3_goOn_X3_write : GoodIn wsX3_goOn wsX3_write := goodIn_r _ [11, 12, 4, 13, 14, 15, 5, 6, 16, 17, 18, 19, 20, 21, 10, 22, 23, 24, 25, 26, 27, 28, 29, 30, 31, 32, 33, 34, 35, 36, 37, 38, 39, 40, 3, 2, 41, 42, 43, 44, 45, 46, 47, 48, 49, 50, 51, 52, 53, 54, 55, 56, 57, 58, 59, 60, 61, 62, 63, 64, 65, 66, 67] (by decide +kernel) (by decide +kernel)
set_option maxRecDepth 20000 in
theorem gX3_goOn_X3_write : GoodIn wsX3_goOn (wsV RX3 117 RX3 yX3_write wsX3_write) := goodIn_app (goodIn_of _ (by decide +kernel)) ggX3_goOn_X3_write
theorem dX3_goOn_0 : decode cX3_goOn 0 = .ok (.aload_n 0, 1) := by decide +kernel
theorem dX3_goOn_1 : decode cX3_goOn 1 = .ok (.getfield 147, 3) := by decide +kernel
theorem dX3_goOn_4 : decode cX3_goOn 4 = .ok (.aload_n 0, 1) := by decide +kernel
theorem dX3_goOn_5 : decode cX3_goOn 5 = .ok (.getfield 144, 3) := by decide +kernel
theorem dX3_goOn_8 : decode cX3_goOn 8 = .ok (.if_icmp .ge 53, 3) := by decide +kernel
theorem dX3_goOn_11 : decode cX3_goOn 11 = .ok (.aload_n 0, 1) := by decide +kernel
theorem dX3_goOn_12 : decode cX3_goOn 12 = .ok (.getfield 57, 3) := by decide +kernel
theorem dX3_goOn_15 : decode cX3_goOn 15 = .ok (.aload_n 0, 1) := by decide +kernel
theorem dX3_goOn_16 : decode cX3_goOn 16 = .ok (.getfield 147, 3) := by decide +kernel
theorem dX3_goOn_19 : decode cX3_goOn 19 = .ok (.iaload, 1) := by decide +kernel
theorem dX3_goOn_20 : decode cX3_goOn 20 = .ok (.istore_n 1, 1) := by decide +kernel
theorem dX3_goOn_21 : decode cX3_goOn 21 = .ok (.aload_n 0, 1) := by decide +kernel
theorem dX3_goOn_22 : decode cX3_goOn 22 = .ok (.dup, 1) := by decide +kernel
theorem dX3_goOn_23 : decode cX3_goOn 23 = .ok (.getfield 147, 3) := by decide +kernel
theorem dX3_goOn_26 : decode cX3_goOn 26 = .ok (.iconst 1, 1) := by decide +kernel
theorem dX3_goOn_27 : decode cX3_goOn 27 = .ok (.iadd, 1) := by decide +kernel
theorem dX3_goOn_28 : decode cX3_goOn 28 = .ok (.putfield 147, 3) := by decide +kernel
theorem dX3_goOn_31 : decode cX3_goOn 31 = .ok (.aload_n 0, 1) := by decide +kernel
theorem dX3_goOn_32 : decode cX3_goOn 32 = .ok (.getfield 33, 3) := by decide +kernel
theorem dX3_goOn_35 : decode cX3_goOn 35 = .ok (.iload_n 1, 1) := by decide +kernel
theorem dX3_goOn_36 : decode cX3_goOn 36 = .ok (.iaload, 1) := by decide +kernel
theorem dX3_goOn_37 : decode cX3_goOn 37 = .ok (.iconst 1, 1) := by decide +kernel
theorem dX3_goOn_38 : decode cX3_goOn 38 = .ok (.if_icmp .ne 20, 3) := by decide +kernel
theorem dX3_goOn_41 : decode cX3_goOn 41 = .ok (.aload_n 0, 1) := by decide +kernel
theorem dX3_goOn_42 : decode cX3_goOn 42 = .ok (.iload_n 1, 1) := by decide +kernel
theorem dX3_goOn_43 : decode cX3_goOn 43 = .ok (.aload_n 0, 1) := by decide +kernel
theorem dX3_goOn_44 : decode cX3_goOn 44 = .ok (.getfield 45, 3) := by decide +kernel
theorem dX3_goOn_47 : decode cX3_goOn 47 = .ok (.iload_n 1, 1) := by decide +kernel
theorem dX3_goOn_48 : decode cX3_goOn 48 = .ok (.iaload, 1) := by decide +kernel
theorem dX3_goOn_49 : decode cX3_goOn 49 = .ok (.aload_n 0, 1) := by decide +kernel
theorem dX3_goOn_50 : decode cX3_goOn 50 = .ok (.getfield 48, 3) := by decide +kernel
theorem dX3_goOn_53 : decode cX3_goOn 53 = .ok (.iload_n 1, 1) := by decide +kernel
theorem dX3_goOn_54 : decode cX3_goOn 54 = .ok (.baload, 1) := by decide +kernel
theorem dX3_goOn_55 : decode cX3_goOn 55 = .ok (.invokevirtual 117, 3) := by decide +kernel
theorem dX3_goOn_58 : decode cX3_goOn 58 = .ok (.goto (-58), 3) := by decide +kernel
theorem dX3_goOn_61 : decode cX3_goOn 61 = .ok (.aload_n 0, 1) := by decide +kernel
theorem dX3_goOn_62 : decode cX3_goOn 62 = .ok (.iconst 0, 1) := by decide +kernel
theorem dX3_goOn_63 : decode cX3_goOn 63 = .ok (.putfield 147, 3) := by decide +kernel
theorem dX3_goOn_66 : decode cX3_goOn 66 = .ok (.aload_n 0, 1) := by decide +kernel
theorem dX3_goOn_67 : decode cX3_goOn 67 = .ok (.iconst 0, 1) := by decide +kernel
theorem dX3_goOn_68 : decode cX3_goOn 68 = .ok (.putfield 144, 3) := by decide +kernel
theorem dX3_goOn_71 : decode cX3_goOn 71 = .ok (.return_, 1) := by decide +kernel
theorem dX3_writes_0 : decode cX3_writes 0 = .ok (.iconst 0, 1) := by decide +kernel
theorem dX3_writes_1 : decode cX3_writes 1 = .ok (.istore_n 2, 1) := by decide +kernel
theorem dX3_writes_2 : decode cX3_writes 2 = .ok (.iconst 0, 1) := by decide +kernel
theorem dX3_writes_3 : decode cX3_writes 3 = .ok (.istore_n 3, 1) := by decide +kernel
theorem dX3_writes_4 : decode cX3_writes 4 = .ok (.iload_n 3, 1) := by decide +kernel
theorem dX3_writes_5 : decode cX3_writes 5 = .ok (.sipush 200, 3) := by decide +kernel
theorem dX3_writes_8 : decode cX3_writes 8 = .ok (.if_icmp .ge 32, 3) := by decide +kernel
theorem dX3_writes_11 : decode cX3_writes 11 = .ok (.iload_n 2, 1) := by decide +kernel
theorem dX3_writes_12 : decode cX3_writes 12 = .ok (.aload_n 0, 1) := by decide +kernel
theorem dX3_writes_13 : decode cX3_writes 13 = .ok (.getfield 39, 3) := by decide +kernel
theorem dX3_writes_16 : decode cX3_writes 16 = .ok (.sipush 200, 3) := by decide +kernel
theorem dX3_writes_19 : decode cX3_writes 19 = .ok (.iload_n 1, 1) := by decide +kernel
theorem dX3_writes_20 : decode cX3_writes 20 = .ok (.imul, 1) := by decide +kernel
theorem dX3_writes_21 : decode cX3_writes 21 = .ok (.iload_n 3, 1) := by decide +kernel
theorem dX3_writes_22 : decode cX3_writes 22 = .ok (.iadd, 1) := by decide +kernel
theorem dX3_writes_23 : decode cX3_writes 23 = .ok (.iaload, 1) := by decide +kernel
theorem dX3_writes_24 : decode cX3_writes 24 = .ok (.ifCond .le 7, 3) := by decide +kernel
theorem dX3_writes_27 : decode cX3_writes 27 = .ok (.iconst 1, 1) := by decide +kernel
theorem dX3_writes_28 : decode cX3_writes 28 = .ok (.goto 4, 3) := by decide +kernel
theorem dX3_writes_31 : decode cX3_writes 31 = .ok (.iconst 0, 1) := by decide +kernel
theorem dX3_writes_32 : decode cX3_writes 32 = .ok (.iadd, 1) := by decide +kernel
theorem dX3_writes_33 : decode cX3_writes 33 = .ok (.istore_n 2, 1) := by decide +kernel
theorem dX3_writes_34 : decode cX3_writes 34 = .ok (.iinc 3 1, 3) := by decide +kernel
theorem dX3_writes_37 : decode cX3_writes 37 = .ok (.goto (-33), 3) := by decide +kernel
theorem dX3_writes_40 : decode cX3_writes 40 = .ok (.iload_n 2, 1) := by decide +kernel
theorem dX3_writes_41 : decode cX3_writes 41 = .ok (.ireturn, 1) := by decide +kernel
set_option maxRecDepth 20000 in
theorem ggX3_abort_X3_isTransaction : GoodIn wsX3_abort wsX3_isTransaction := goodIn_r _ [5, 6, 62, 63, 64, 65, 66, 67, 68, 69, 70, 71, 72, 73, 74, 75, 76, 77, 78, 79, 80, 81, 82, 83, 84, 85, 86, 87, 88] (by decide +kernel) (by decide +kernel)
set_option maxRecDepth 20000 in
theorem gX3_abort_X3_isTransaction : GoodIn wsX3_abort (wsV RX3 111 RX3 yX3_isTransaction wsX3_isTransaction) := goodIn_app (goodIn_of _ (by decide +kernel)) ggX3_abort_X3_isTransaction
set_option maxRecDepth 20000 in
theorem ggX3_abort_X3_isLive : GoodIn wsX3_abort wsX3_isLive := goodIn_r _ [10, 11, 62, 63, 64, 65, 66, 67, 68, 69, 70, 71, 72, 73, 74, 75, 76, 77, 78, 79, 80, 81, 82, 83, 84, 85, 86, 87, 88] (by decide +kernel) (by decide +kernel)
set_option maxRecDepth 20000 in
theorem gX3_abort_X3_isLive : GoodIn wsX3_abort (wsV RX3 89 RX3 yX3_isLive wsX3_isLive) := goodIn_app (goodIn_of _ (by decide +kernel)) ggX3_abort_X3_isLive
set_option maxRecDepth 20000 in
theorem ggX3_abort_X3_fails : GoodIn wsX3_abort wsX3_fails := goodIn_r _ [15, 16, 62, 63, 64, 65, 66, 67, 68, 69, 70, 71, 72, 73, 74, 75, 76, 77, 78, 79, 80, 81, 82, 83, 84, 85, 86, 87, 88] (by decide +kernel) (by decide +kernel)
set_option maxRecDepth 20000 in
theorem gX3_abort_X3_fails : GoodIn wsX3_abort (wsV RX3 99 RX3 yX3_fails wsX3_fails) := goodIn_app (goodIn_of _ (by decide +kernel)) ggX3_abort_X3_fails
set_option maxRecDepth 20000 in
theorem ggX3_abort_X3_end : GoodIn wsX3_abort wsX3_end := goodIn_r _ [20, 11, 21, 6, 22, 23, 24, 25, 62, 63, 64, 65, 66, 67, 68, 69, 70, 71, 72, 73, 74, 75, 76, 77, 78, 79, 80, 81, 82, 83, 84, 85, 86, 87, 88] (by decide +kernel) (by decide +kernel)
set_option maxRecDepth 20000 in
theorem gX3_abort_X3_end : GoodIn wsX3_abort (wsV RX3 141 RX3 yX3_end wsX3_end) := goodIn_app (goodIn_of _ (by decide +kernel)) ggX3_abort_X3_end
set_option maxRecDepth 20000 in
theorem ggX3_abort_X3_goOn : GoodIn wsX3_abort wsX3_goOn := goodIn_r _ [29, 30, 25, 24, 11, 31, 32, 33, 34, 35, 4, 36, 22, 37, 38, 21, 23, 39, 40, 41, 42, 43, 44, 45, 46, 47, 48, 49, 50, 51, 52, 53, 54, 55, 56, 57, 17, 18, 19, 20, 6, 62, 63, 64, 65, 66, 67, 68, 69, 70, 71, 72, 73, 74, 75, 76, 77, 78, 79, 80, 81, 82, 83, 84, 85, 86, 87, 88] (by decide +kernel) (by decide +kernel)
set_option maxRecDepth 20000 in
theorem gX3_abort_X3_goOn : GoodIn wsX3_abort (wsV RX3 121 RX3 yX3_goOn wsX3_goOn) := goodIn_app (goodIn_of _ (by decide +kernel)) ggX3_abort_X3_goOn
set_option maxRecDepth 20000 in
theorem ggX3_abort_X3_writes : GoodIn wsX3_abort wsX3_writes := goodIn_r _ [61, 40, 62, 63, 64, 65, 66, 67, 68, 69, 70, 71, 72, 73, 74, 75, 76, 77, 78, 79, 80, 81, 82, 83, 84, 85, 86, 87, 88] (by decide +kernel) (by decide +kernel)
set_option maxRecDepth 20000 in
theorem gX3_abort_X3_writes : GoodIn wsX3_abort (wsV RX3 150 RX3 yX3_writes wsX3_writes) := goodIn_app (goodIn_of _ (by decide +kernel)) ggX3_abort_X3_writes
theorem dX3_abort_0 : decode cX3_abort 0 = .ok (.aload_n 0, 1) := by decide +kernel
theorem dX3_abort_1 : decode cX3_abort 1 = .ok (.iload_n 1, 1) := by decide +kernel
theorem dX3_abort_2 : decode cX3_abort 2 = .ok (.invokevirtual 111, 3) := by decide +kernel
theorem dX3_abort_5 : decode cX3_abort 5 = .ok (.istore_n 2, 1) := by decide +kernel
theorem dX3_abort_6 : decode cX3_abort 6 = .ok (.aload_n 0, 1) := by decide +kernel
theorem dX3_abort_7 : decode cX3_abort 7 = .ok (.iload_n 2, 1) := by decide +kernel
theorem dX3_abort_8 : decode cX3_abort 8 = .ok (.iload_n 2, 1) := by decide +kernel
theorem dX3_abort_9 : decode cX3_abort 9 = .ok (.ifCond .eq 15, 3) := by decide +kernel
theorem dX3_abort_12 : decode cX3_abort 12 = .ok (.aload_n 0, 1) := by decide +kernel
theorem dX3_abort_13 : decode cX3_abort 13 = .ok (.iload_n 1, 1) := by decide +kernel
theorem dX3_abort_14 : decode cX3_abort 14 = .ok (.invokevirtual 89, 3) := by decide +kernel
theorem dX3_abort_17 : decode cX3_abort 17 = .ok (.ifCond .eq 7, 3) := by decide +kernel
theorem dX3_abort_20 : decode cX3_abort 20 = .ok (.iconst 1, 1) := by decide +kernel
theorem dX3_abort_21 : decode cX3_abort 21 = .ok (.goto 4, 3) := by decide +kernel
theorem dX3_abort_24 : decode cX3_abort 24 = .ok (.iconst 0, 1) := by decide +kernel
theorem dX3_abort_25 : decode cX3_abort 25 = .ok (.invokevirtual 99, 3) := by decide +kernel
theorem dX3_abort_28 : decode cX3_abort 28 = .ok (.ifCond .eq 5, 3) := by decide +kernel
theorem dX3_abort_31 : decode cX3_abort 31 = .ok (.iconst 0, 1) := by decide +kernel
theorem dX3_abort_32 : decode cX3_abort 32 = .ok (.ireturn, 1) := by decide +kernel
theorem dX3_abort_33 : decode cX3_abort 33 = .ok (.aload_n 0, 1) := by decide +kernel
theorem dX3_abort_34 : decode cX3_abort 34 = .ok (.iload_n 1, 1) := by decide +kernel
theorem dX3_abort_35 : decode cX3_abort 35 = .ok (.iconst 4, 1) := by decide +kernel
theorem dX3_abort_36 : decode cX3_abort 36 = .ok (.invokevirtual 141, 3) := by decide +kernel
theorem dX3_abort_39 : decode cX3_abort 39 = .ok (.aload_n 0, 1) := by decide +kernel
theorem dX3_abort_40 : decode cX3_abort 40 = .ok (.invokevirtual 121, 3) := by decide +kernel
theorem dX3_abort_43 : decode cX3_abort 43 = .ok (.aload_n 0, 1) := by decide +kernel
theorem dX3_abort_44 : decode cX3_abort 44 = .ok (.iload_n 1, 1) := by decide +kernel
theorem dX3_abort_45 : decode cX3_abort 45 = .ok (.invokevirtual 150, 3) := by decide +kernel
theorem dX3_abort_48 : decode cX3_abort 48 = .ok (.ireturn, 1) := by decide +kernel
set_option maxRecDepth 20000 in
theorem ggX3_changed_X3_hasAbove : GoodIn wsX3_changed wsX3_hasAbove := goodIn_r _ [7, 8, 9, 10, 11, 12, 13, 14, 15, 16, 17, 18, 19, 20, 21, 22, 23, 24, 25, 26, 27, 28, 29, 30, 31, 32, 33, 34, 35, 36, 37] (by decide +kernel) (by decide +kernel)
set_option maxRecDepth 20000 in
theorem gX3_changed_X3_hasAbove : GoodIn wsX3_changed (wsV RX3 124 RX3 yX3_hasAbove wsX3_hasAbove) := goodIn_app (goodIn_of _ (by decide +kernel)) ggX3_changed_X3_hasAbove
theorem dX3_changed_0 : decode cX3_changed 0 = .ok (.iconst 0, 1) := by decide +kernel
theorem dX3_changed_1 : decode cX3_changed 1 = .ok (.istore_n 2, 1) := by decide +kernel
theorem dX3_changed_2 : decode cX3_changed 2 = .ok (.iload_n 2, 1) := by decide +kernel
theorem dX3_changed_3 : decode cX3_changed 3 = .ok (.iconst 4, 1) := by decide +kernel
theorem dX3_changed_4 : decode cX3_changed 4 = .ok (.if_icmp .ge 63, 3) := by decide +kernel
theorem dX3_changed_7 : decode cX3_changed 7 = .ok (.aload_n 0, 1) := by decide +kernel
theorem dX3_changed_8 : decode cX3_changed 8 = .ok (.getfield 36, 3) := by decide +kernel
theorem dX3_changed_11 : decode cX3_changed 11 = .ok (.iload_n 1, 1) := by decide +kernel
theorem dX3_changed_12 : decode cX3_changed 12 = .ok (.iaload, 1) := by decide +kernel
theorem dX3_changed_13 : decode cX3_changed 13 = .ok (.iload_n 2, 1) := by decide +kernel
theorem dX3_changed_14 : decode cX3_changed 14 = .ok (.ishr, 1) := by decide +kernel
theorem dX3_changed_15 : decode cX3_changed 15 = .ok (.iconst 1, 1) := by decide +kernel
theorem dX3_changed_16 : decode cX3_changed 16 = .ok (.iand, 1) := by decide +kernel
theorem dX3_changed_17 : decode cX3_changed 17 = .ok (.ifCond .ne 6, 3) := by decide +kernel
theorem dX3_changed_20 : decode cX3_changed 20 = .ok (.goto 41, 3) := by decide +kernel
theorem dX3_changed_23 : decode cX3_changed 23 = .ok (.bipush 50, 2) := by decide +kernel
theorem dX3_changed_25 : decode cX3_changed 25 = .ok (.iload_n 2, 1) := by decide +kernel
theorem dX3_changed_26 : decode cX3_changed 26 = .ok (.imul, 1) := by decide +kernel
theorem dX3_changed_27 : decode cX3_changed 27 = .ok (.istore_n 3, 1) := by decide +kernel
theorem dX3_changed_28 : decode cX3_changed 28 = .ok (.iload_n 3, 1) := by decide +kernel
theorem dX3_changed_29 : decode cX3_changed 29 = .ok (.bipush 50, 2) := by decide +kernel
theorem dX3_changed_31 : decode cX3_changed 31 = .ok (.iload_n 2, 1) := by decide +kernel
theorem dX3_changed_32 : decode cX3_changed 32 = .ok (.imul, 1) := by decide +kernel
theorem dX3_changed_33 : decode cX3_changed 33 = .ok (.bipush 50, 2) := by decide +kernel
theorem dX3_changed_35 : decode cX3_changed 35 = .ok (.iadd, 1) := by decide +kernel
theorem dX3_changed_36 : decode cX3_changed 36 = .ok (.if_icmp .ge 25, 3) := by decide +kernel
theorem dX3_changed_39 : decode cX3_changed 39 = .ok (.aload_n 0, 1) := by decide +kernel
theorem dX3_changed_40 : decode cX3_changed 40 = .ok (.iload_n 3, 1) := by decide +kernel
theorem dX3_changed_41 : decode cX3_changed 41 = .ok (.aload_n 0, 1) := by decide +kernel
theorem dX3_changed_42 : decode cX3_changed 42 = .ok (.getfield 30, 3) := by decide +kernel
theorem dX3_changed_45 : decode cX3_changed 45 = .ok (.iload_n 1, 1) := by decide +kernel
theorem dX3_changed_46 : decode cX3_changed 46 = .ok (.iaload, 1) := by decide +kernel
theorem dX3_changed_47 : decode cX3_changed 47 = .ok (.invokevirtual 124, 3) := by decide +kernel
theorem dX3_changed_50 : decode cX3_changed 50 = .ok (.ifCond .eq 5, 3) := by decide +kernel
theorem dX3_changed_53 : decode cX3_changed 53 = .ok (.iload_n 2, 1) := by decide +kernel
theorem dX3_changed_54 : decode cX3_changed 54 = .ok (.ireturn, 1) := by decide +kernel
theorem dX3_changed_55 : decode cX3_changed 55 = .ok (.iinc 3 1, 3) := by decide +kernel
theorem dX3_changed_58 : decode cX3_changed 58 = .ok (.goto (-30), 3) := by decide +kernel
theorem dX3_changed_61 : decode cX3_changed 61 = .ok (.iinc 2 1, 3) := by decide +kernel
theorem dX3_changed_64 : decode cX3_changed 64 = .ok (.goto (-62), 3) := by decide +kernel
theorem dX3_changed_67 : decode cX3_changed 67 = .ok (.iconst (-1), 1) := by decide +kernel
theorem dX3_changed_68 : decode cX3_changed 68 = .ok (.ireturn, 1) := by decide +kernel
set_option maxRecDepth 20000 in
theorem ggX3_commit_X3_isTransaction : GoodIn wsX3_commit wsX3_isTransaction := goodIn_r _ [14, 15, 74, 75, 76, 77, 78, 79, 80, 81, 82, 83, 84, 85, 86, 87, 88, 89, 90, 91, 92, 93, 94, 95, 96, 97, 98, 99, 100] (by decide +kernel) (by decide +kernel)
set_option maxRecDepth 20000 in
theorem gX3_commit_X3_isTransaction : GoodIn wsX3_commit (wsV RX3 111 RX3 yX3_isTransaction wsX3_isTransaction) := goodIn_app (goodIn_of _ (by decide +kernel)) ggX3_commit_X3_isTransaction
set_option maxRecDepth 20000 in
theorem ggX3_commit_X3_isLive : GoodIn wsX3_commit wsX3_isLive := goodIn_r _ [19, 1, 74, 75, 76, 77, 78, 79, 80, 81, 82, 83, 84, 85, 86, 87, 88, 89, 90, 91, 92, 93, 94, 95, 96, 97, 98, 99, 100] (by decide +kernel) (by decide +kernel)
set_option maxRecDepth 20000 in
theorem gX3_commit_X3_isLive : GoodIn wsX3_commit (wsV RX3 89 RX3 yX3_isLive wsX3_isLive) := goodIn_app (goodIn_of _ (by decide +kernel)) ggX3_commit_X3_isLive
set_option maxRecDepth 20000 in
theorem ggX3_commit_X3_fails : GoodIn wsX3_commit wsX3_fails := goodIn_r _ [23, 24, 74, 75, 76, 77, 78, 79, 80, 81, 82, 83, 84, 85, 86, 87, 88, 89, 90, 91, 92, 93, 94, 95, 96, 97, 98, 99, 100] (by decide +kernel) (by decide +kernel)
set_option maxRecDepth 20000 in
theorem gX3_commit_X3_fails : GoodIn wsX3_commit (wsV RX3 99 RX3 yX3_fails wsX3_fails) := goodIn_app (goodIn_of _ (by decide +kernel)) ggX3_commit_X3_fails
set_option maxRecDepth 20000 in
theorem ggX3_commit_X3_changed : GoodIn wsX3_commit wsX3_changed := goodIn_r _ [28, 29, 3, 30, 31, 32, 13, 33, 7, 6, 8, 74, 75, 76, 77, 78, 79, 80, 81, 82, 83, 84, 85, 86, 87, 88, 89, 90, 91, 92, 93, 94, 95, 96, 97, 98, 99, 100] (by decide +kernel) (by decide +kernel)
set_option maxRecDepth 20000 in
theorem gX3_commit_X3_changed : GoodIn wsX3_commit (wsV RX3 154 RX3 yX3_changed wsX3_changed) := goodIn_app (goodIn_of _ (by decide +kernel)) ggX3_commit_X3_changed
set_option maxRecDepth 20000 in
theorem ggX3_commit_X3_end : GoodIn wsX3_commit wsX3_end := goodIn_r _ [37, 1, 38, 15, 39, 40, 41, 42, 74, 75, 76, 77, 78, 79, 80, 81, 82, 83, 84, 85, 86, 87, 88, 89, 90, 91, 92, 93, 94, 95, 96, 97, 98, 99, 100] (by decide +kernel) (by decide +kernel)
set_option maxRecDepth 20000 in
theorem gX3_commit_X3_end : GoodIn wsX3_commit (wsV RX3 141 RX3 yX3_end wsX3_end) := goodIn_app (goodIn_of _ (by decide +kernel)) ggX3_commit_X3_end
set_option maxRecDepth 20000 in
theorem ggX3_commit_X3_goOn : GoodIn wsX3_commit wsX3_goOn := goodIn_r _ [46, 47, 42, 41, 1, 48, 49, 50, 51, 52, 13, 53, 39, 3, 54, 38, 40, 55, 5, 30, 31, 32, 33, 7, 6, 8, 56, 57, 58, 59, 60, 61, 62, 63, 64, 65, 34, 35, 36, 37, 15, 74, 75, 76, 77, 78, 79, 80, 81, 82, 83, 84, 85, 86, 87, 88, 89, 90, 91, 92, 93, 94, 95, 96, 97, 98, 99, 100] (by decide +kernel) (by decide +kernel)
set_option maxRecDepth 20000 in
theorem gX3_commit_X3_goOn : GoodIn wsX3_commit (wsV RX3 121 RX3 yX3_goOn wsX3_goOn) := goodIn_app (goodIn_of _ (by decide +kernel)) ggX3_commit_X3_goOn
set_option maxRecDepth 20000 in
theorem ggX3_commit_X3_isThere : GoodIn wsX3_commit wsX3_isThere := goodIn_r _ [69, 9, 70, 71, 72, 13, 73, 7, 6, 8, 74, 75, 76, 77, 78, 79, 80, 81, 82, 83, 84, 85, 86, 87, 88, 89, 90, 91, 92, 93, 94, 95, 96, 97, 98, 99, 100] (by decide +kernel) (by decide +kernel)
set_option maxRecDepth 20000 in
theorem gX3_commit_X3_isThere : GoodIn wsX3_commit (wsV RX3 103 RX3 yX3_isThere wsX3_isThere) := goodIn_app (goodIn_of _ (by decide +kernel)) ggX3_commit_X3_isThere
theorem dX3_commit_0 : decode cX3_commit 0 = .ok (.aload_n 0, 1) := by decide +kernel
theorem dX3_commit_1 : decode cX3_commit 1 = .ok (.iload_n 1, 1) := by decide +kernel
theorem dX3_commit_2 : decode cX3_commit 2 = .ok (.invokevirtual 111, 3) := by decide +kernel
theorem dX3_commit_5 : decode cX3_commit 5 = .ok (.istore_n 2, 1) := by decide +kernel
theorem dX3_commit_6 : decode cX3_commit 6 = .ok (.aload_n 0, 1) := by decide +kernel
theorem dX3_commit_7 : decode cX3_commit 7 = .ok (.iload_n 2, 1) := by decide +kernel
theorem dX3_commit_8 : decode cX3_commit 8 = .ok (.iload_n 2, 1) := by decide +kernel
theorem dX3_commit_9 : decode cX3_commit 9 = .ok (.ifCond .eq 25, 3) := by decide +kernel
theorem dX3_commit_12 : decode cX3_commit 12 = .ok (.aload_n 0, 1) := by decide +kernel
theorem dX3_commit_13 : decode cX3_commit 13 = .ok (.iload_n 1, 1) := by decide +kernel
theorem dX3_commit_14 : decode cX3_commit 14 = .ok (.invokevirtual 89, 3) := by decide +kernel
theorem dX3_commit_17 : decode cX3_commit 17 = .ok (.ifCond .eq 17, 3) := by decide +kernel
theorem dX3_commit_20 : decode cX3_commit 20 = .ok (.aload_n 0, 1) := by decide +kernel
theorem dX3_commit_21 : decode cX3_commit 21 = .ok (.getfield 33, 3) := by decide +kernel
theorem dX3_commit_24 : decode cX3_commit 24 = .ok (.iload_n 1, 1) := by decide +kernel
theorem dX3_commit_25 : decode cX3_commit 25 = .ok (.iaload, 1) := by decide +kernel
theorem dX3_commit_26 : decode cX3_commit 26 = .ok (.iconst 1, 1) := by decide +kernel
theorem dX3_commit_27 : decode cX3_commit 27 = .ok (.if_icmp .eq 7, 3) := by decide +kernel
theorem dX3_commit_30 : decode cX3_commit 30 = .ok (.iconst 1, 1) := by decide +kernel
theorem dX3_commit_31 : decode cX3_commit 31 = .ok (.goto 4, 3) := by decide +kernel
theorem dX3_commit_34 : decode cX3_commit 34 = .ok (.iconst 0, 1) := by decide +kernel
theorem dX3_commit_35 : decode cX3_commit 35 = .ok (.invokevirtual 99, 3) := by decide +kernel
theorem dX3_commit_38 : decode cX3_commit 38 = .ok (.ifCond .eq 5, 3) := by decide +kernel
theorem dX3_commit_41 : decode cX3_commit 41 = .ok (.iconst 0, 1) := by decide +kernel
theorem dX3_commit_42 : decode cX3_commit 42 = .ok (.ireturn, 1) := by decide +kernel
theorem dX3_commit_43 : decode cX3_commit 43 = .ok (.aload_n 0, 1) := by decide +kernel
theorem dX3_commit_44 : decode cX3_commit 44 = .ok (.iload_n 1, 1) := by decide +kernel
theorem dX3_commit_45 : decode cX3_commit 45 = .ok (.invokevirtual 154, 3) := by decide +kernel
theorem dX3_commit_48 : decode cX3_commit 48 = .ok (.istore_n 3, 1) := by decide +kernel
theorem dX3_commit_49 : decode cX3_commit 49 = .ok (.aload_n 0, 1) := by decide +kernel
theorem dX3_commit_50 : decode cX3_commit 50 = .ok (.getfield 33, 3) := by decide +kernel
theorem dX3_commit_53 : decode cX3_commit 53 = .ok (.iload_n 1, 1) := by decide +kernel
theorem dX3_commit_54 : decode cX3_commit 54 = .ok (.iaload, 1) := by decide +kernel
theorem dX3_commit_55 : decode cX3_commit 55 = .ok (.iconst 2, 1) := by decide +kernel
theorem dX3_commit_56 : decode cX3_commit 56 = .ok (.if_icmp .eq 7, 3) := by decide +kernel
theorem dX3_commit_59 : decode cX3_commit 59 = .ok (.iload_n 3, 1) := by decide +kernel
theorem dX3_commit_60 : decode cX3_commit 60 = .ok (.ifCond .lt 35, 3) := by decide +kernel
theorem dX3_commit_63 : decode cX3_commit 63 = .ok (.aload_n 0, 1) := by decide +kernel
theorem dX3_commit_64 : decode cX3_commit 64 = .ok (.getfield 33, 3) := by decide +kernel
theorem dX3_commit_67 : decode cX3_commit 67 = .ok (.iload_n 1, 1) := by decide +kernel
theorem dX3_commit_68 : decode cX3_commit 68 = .ok (.iaload, 1) := by decide +kernel
theorem dX3_commit_69 : decode cX3_commit 69 = .ok (.iconst 2, 1) := by decide +kernel
theorem dX3_commit_70 : decode cX3_commit 70 = .ok (.if_icmp .eq 13, 3) := by decide +kernel
theorem dX3_commit_73 : decode cX3_commit 73 = .ok (.aload_n 0, 1) := by decide +kernel
theorem dX3_commit_74 : decode cX3_commit 74 = .ok (.getfield 66, 3) := by decide +kernel
theorem dX3_commit_77 : decode cX3_commit 77 = .ok (.iload_n 3, 1) := by decide +kernel
theorem dX3_commit_78 : decode cX3_commit 78 = .ok (.dup2, 1) := by decide +kernel
theorem dX3_commit_79 : decode cX3_commit 79 = .ok (.iaload, 1) := by decide +kernel
theorem dX3_commit_80 : decode cX3_commit 80 = .ok (.iconst 1, 1) := by decide +kernel
theorem dX3_commit_81 : decode cX3_commit 81 = .ok (.iadd, 1) := by decide +kernel
theorem dX3_commit_82 : decode cX3_commit 82 = .ok (.iastore, 1) := by decide +kernel
theorem dX3_commit_83 : decode cX3_commit 83 = .ok (.aload_n 0, 1) := by decide +kernel
theorem dX3_commit_84 : decode cX3_commit 84 = .ok (.iload_n 1, 1) := by decide +kernel
theorem dX3_commit_85 : decode cX3_commit 85 = .ok (.iconst 4, 1) := by decide +kernel
theorem dX3_commit_86 : decode cX3_commit 86 = .ok (.invokevirtual 141, 3) := by decide +kernel
theorem dX3_commit_89 : decode cX3_commit 89 = .ok (.aload_n 0, 1) := by decide +kernel
theorem dX3_commit_90 : decode cX3_commit 90 = .ok (.invokevirtual 121, 3) := by decide +kernel
theorem dX3_commit_93 : decode cX3_commit 93 = .ok (.iconst 0, 1) := by decide +kernel
theorem dX3_commit_94 : decode cX3_commit 94 = .ok (.ireturn, 1) := by decide +kernel
theorem dX3_commit_95 : decode cX3_commit 95 = .ok (.aload_n 0, 1) := by decide +kernel
theorem dX3_commit_96 : decode cX3_commit 96 = .ok (.getfield 30, 3) := by decide +kernel
theorem dX3_commit_99 : decode cX3_commit 99 = .ok (.iload_n 1, 1) := by decide +kernel
theorem dX3_commit_100 : decode cX3_commit 100 = .ok (.iaload, 1) := by decide +kernel
theorem dX3_commit_101 : decode cX3_commit 101 = .ok (.istore 4, 2) := by decide +kernel
theorem dX3_commit_103 : decode cX3_commit 103 = .ok (.aload_n 0, 1) := by decide +kernel
theorem dX3_commit_104 : decode cX3_commit 104 = .ok (.getfield 79, 3) := by decide +kernel
theorem dX3_commit_107 : decode cX3_commit 107 = .ok (.iconst 1, 1) := by decide +kernel
theorem dX3_commit_108 : decode cX3_commit 108 = .ok (.iadd, 1) := by decide +kernel
theorem dX3_commit_109 : decode cX3_commit 109 = .ok (.istore 5, 2) := by decide +kernel
theorem dX3_commit_111 : decode cX3_commit 111 = .ok (.iconst 0, 1) := by decide +kernel
theorem dX3_commit_112 : decode cX3_commit 112 = .ok (.istore 6, 2) := by decide +kernel
theorem dX3_commit_114 : decode cX3_commit 114 = .ok (.iload 6, 2) := by decide +kernel
theorem dX3_commit_116 : decode cX3_commit 116 = .ok (.sipush 200, 3) := by decide +kernel
theorem dX3_commit_119 : decode cX3_commit 119 = .ok (.if_icmp .ge 114, 3) := by decide +kernel
theorem dX3_commit_122 : decode cX3_commit 122 = .ok (.aload_n 0, 1) := by decide +kernel
theorem dX3_commit_123 : decode cX3_commit 123 = .ok (.getfield 39, 3) := by decide +kernel
theorem dX3_commit_126 : decode cX3_commit 126 = .ok (.sipush 200, 3) := by decide +kernel
theorem dX3_commit_129 : decode cX3_commit 129 = .ok (.iload_n 1, 1) := by decide +kernel
theorem dX3_commit_130 : decode cX3_commit 130 = .ok (.imul, 1) := by decide +kernel
theorem dX3_commit_131 : decode cX3_commit 131 = .ok (.iload 6, 2) := by decide +kernel
theorem dX3_commit_133 : decode cX3_commit 133 = .ok (.iadd, 1) := by decide +kernel
theorem dX3_commit_134 : decode cX3_commit 134 = .ok (.iaload, 1) := by decide +kernel
theorem dX3_commit_135 : decode cX3_commit 135 = .ok (.istore 7, 2) := by decide +kernel
theorem dX3_commit_137 : decode cX3_commit 137 = .ok (.iload 7, 2) := by decide +kernel
theorem dX3_commit_139 : decode cX3_commit 139 = .ok (.ifCond .eq 88, 3) := by decide +kernel
theorem dX3_commit_142 : decode cX3_commit 142 = .ok (.iload 7, 2) := by decide +kernel
theorem dX3_commit_144 : decode cX3_commit 144 = .ok (.iconst 2, 1) := by decide +kernel
theorem dX3_commit_145 : decode cX3_commit 145 = .ok (.if_icmp .ne 7, 3) := by decide +kernel
theorem dX3_commit_148 : decode cX3_commit 148 = .ok (.iconst 1, 1) := by decide +kernel
theorem dX3_commit_149 : decode cX3_commit 149 = .ok (.goto 4, 3) := by decide +kernel
theorem dX3_commit_152 : decode cX3_commit 152 = .ok (.iconst 0, 1) := by decide +kernel
theorem dX3_commit_153 : decode cX3_commit 153 = .ok (.aload_n 0, 1) := by decide +kernel
theorem dX3_commit_154 : decode cX3_commit 154 = .ok (.iload 6, 2) := by decide +kernel
theorem dX3_commit_156 : decode cX3_commit 156 = .ok (.aload_n 0, 1) := by decide +kernel
theorem dX3_commit_157 : decode cX3_commit 157 = .ok (.getfield 30, 3) := by decide +kernel
theorem dX3_commit_160 : decode cX3_commit 160 = .ok (.iload_n 1, 1) := by decide +kernel
theorem dX3_commit_161 : decode cX3_commit 161 = .ok (.iaload, 1) := by decide +kernel
theorem dX3_commit_162 : decode cX3_commit 162 = .ok (.invokevirtual 103, 3) := by decide +kernel
theorem dX3_commit_165 : decode cX3_commit 165 = .ok (.if_icmp .ne 6, 3) := by decide +kernel
theorem dX3_commit_168 : decode cX3_commit 168 = .ok (.goto 59, 3) := by decide +kernel
theorem dX3_commit_171 : decode cX3_commit 171 = .ok (.aload_n 0, 1) := by decide +kernel
theorem dX3_commit_172 : decode cX3_commit 172 = .ok (.getfield 13, 3) := by decide +kernel
theorem dX3_commit_175 : decode cX3_commit 175 = .ok (.aload_n 0, 1) := by decide +kernel
theorem dX3_commit_176 : decode cX3_commit 176 = .ok (.getfield 82, 3) := by decide +kernel
theorem dX3_commit_179 : decode cX3_commit 179 = .ok (.iload 6, 2) := by decide +kernel
theorem dX3_commit_181 : decode cX3_commit 181 = .ok (.iastore, 1) := by decide +kernel
theorem dX3_commit_182 : decode cX3_commit 182 = .ok (.aload_n 0, 1) := by decide +kernel
theorem dX3_commit_183 : decode cX3_commit 183 = .ok (.getfield 17, 3) := by decide +kernel
theorem dX3_commit_186 : decode cX3_commit 186 = .ok (.aload_n 0, 1) := by decide +kernel
theorem dX3_commit_187 : decode cX3_commit 187 = .ok (.getfield 82, 3) := by decide +kernel
theorem dX3_commit_190 : decode cX3_commit 190 = .ok (.iload 5, 2) := by decide +kernel
theorem dX3_commit_192 : decode cX3_commit 192 = .ok (.iastore, 1) := by decide +kernel
theorem dX3_commit_193 : decode cX3_commit 193 = .ok (.aload_n 0, 1) := by decide +kernel
theorem dX3_commit_194 : decode cX3_commit 194 = .ok (.getfield 20, 3) := by decide +kernel
theorem dX3_commit_197 : decode cX3_commit 197 = .ok (.aload_n 0, 1) := by decide +kernel
theorem dX3_commit_198 : decode cX3_commit 198 = .ok (.getfield 82, 3) := by decide +kernel
theorem dX3_commit_201 : decode cX3_commit 201 = .ok (.iload 7, 2) := by decide +kernel
theorem dX3_commit_203 : decode cX3_commit 203 = .ok (.iconst 2, 1) := by decide +kernel
theorem dX3_commit_204 : decode cX3_commit 204 = .ok (.if_icmp .ne 7, 3) := by decide +kernel
theorem dX3_commit_207 : decode cX3_commit 207 = .ok (.iconst 1, 1) := by decide +kernel
theorem dX3_commit_208 : decode cX3_commit 208 = .ok (.goto 4, 3) := by decide +kernel
theorem dX3_commit_211 : decode cX3_commit 211 = .ok (.iconst 0, 1) := by decide +kernel
theorem dX3_commit_212 : decode cX3_commit 212 = .ok (.bastore, 1) := by decide +kernel
theorem dX3_commit_213 : decode cX3_commit 213 = .ok (.aload_n 0, 1) := by decide +kernel
theorem dX3_commit_214 : decode cX3_commit 214 = .ok (.dup, 1) := by decide +kernel
theorem dX3_commit_215 : decode cX3_commit 215 = .ok (.getfield 82, 3) := by decide +kernel
theorem dX3_commit_218 : decode cX3_commit 218 = .ok (.iconst 1, 1) := by decide +kernel
theorem dX3_commit_219 : decode cX3_commit 219 = .ok (.iadd, 1) := by decide +kernel
theorem dX3_commit_220 : decode cX3_commit 220 = .ok (.putfield 82, 3) := by decide +kernel
theorem dX3_commit_223 : decode cX3_commit 223 = .ok (.iload 5, 2) := by decide +kernel
theorem dX3_commit_225 : decode cX3_commit 225 = .ok (.istore 4, 2) := by decide +kernel
theorem dX3_commit_227 : decode cX3_commit 227 = .ok (.iinc 6 1, 3) := by decide +kernel
theorem dX3_commit_230 : decode cX3_commit 230 = .ok (.goto (-116), 3) := by decide +kernel
theorem dX3_commit_233 : decode cX3_commit 233 = .ok (.iload 4, 2) := by decide +kernel
theorem dX3_commit_235 : decode cX3_commit 235 = .ok (.iload 5, 2) := by decide +kernel
theorem dX3_commit_237 : decode cX3_commit 237 = .ok (.if_icmp .ne 9, 3) := by decide +kernel
theorem dX3_commit_240 : decode cX3_commit 240 = .ok (.aload_n 0, 1) := by decide +kernel
theorem dX3_commit_241 : decode cX3_commit 241 = .ok (.iload 5, 2) := by decide +kernel
theorem dX3_commit_243 : decode cX3_commit 243 = .ok (.putfield 79, 3) := by decide +kernel
theorem dX3_commit_246 : decode cX3_commit 246 = .ok (.aload_n 0, 1) := by decide +kernel
theorem dX3_commit_247 : decode cX3_commit 247 = .ok (.iload_n 1, 1) := by decide +kernel
theorem dX3_commit_248 : decode cX3_commit 248 = .ok (.iconst 3, 1) := by decide +kernel
theorem dX3_commit_249 : decode cX3_commit 249 = .ok (.invokevirtual 141, 3) := by decide +kernel
theorem dX3_commit_252 : decode cX3_commit 252 = .ok (.aload_n 0, 1) := by decide +kernel
theorem dX3_commit_253 : decode cX3_commit 253 = .ok (.invokevirtual 121, 3) := by decide +kernel
theorem dX3_commit_256 : decode cX3_commit 256 = .ok (.iload 4, 2) := by decide +kernel
theorem dX3_commit_258 : decode cX3_commit 258 = .ok (.ireturn, 1) := by decide +kernel
theorem dX3_ring_0 : decode cX3_ring 0 = .ok (.aload_n 0, 1) := by decide +kernel
theorem dX3_ring_1 : decode cX3_ring 1 = .ok (.iconst 0, 1) := by decide +kernel
theorem dX3_ring_2 : decode cX3_ring 2 = .ok (.putfield 1, 3) := by decide +kernel
theorem dX3_ring_5 : decode cX3_ring 5 = .ok (.iload_n 1, 1) := by decide +kernel
theorem dX3_ring_6 : decode cX3_ring 6 = .ok (.ifCond .lt 20, 3) := by decide +kernel
theorem dX3_ring_9 : decode cX3_ring 9 = .ok (.iload_n 1, 1) := by decide +kernel
theorem dX3_ring_10 : decode cX3_ring 10 = .ok (.aload_n 0, 1) := by decide +kernel
theorem dX3_ring_11 : decode cX3_ring 11 = .ok (.getfield 138, 3) := by decide +kernel
theorem dX3_ring_14 : decode cX3_ring 14 = .ok (.if_icmp .ge 12, 3) := by decide +kernel
theorem dX3_ring_17 : decode cX3_ring 17 = .ok (.aload_n 0, 1) := by decide +kernel
theorem dX3_ring_18 : decode cX3_ring 18 = .ok (.getfield 60, 3) := by decide +kernel
theorem dX3_ring_21 : decode cX3_ring 21 = .ok (.iload_n 1, 1) := by decide +kernel
theorem dX3_ring_22 : decode cX3_ring 22 = .ok (.iaload, 1) := by decide +kernel
theorem dX3_ring_23 : decode cX3_ring 23 = .ok (.goto 4, 3) := by decide +kernel
theorem dX3_ring_26 : decode cX3_ring 26 = .ok (.iconst (-1), 1) := by decide +kernel
theorem dX3_ring_27 : decode cX3_ring 27 = .ok (.ireturn, 1) := by decide +kernel
set_option maxRecDepth 20000 in
theorem ggX3_conflicts_X3_fails : GoodIn wsX3_conflicts wsX3_fails := goodIn_r _ [7, 8, 9, 10, 11, 12, 13, 14, 15, 16, 17, 18, 19, 20, 21, 22, 23, 24, 25, 26, 27, 28, 29, 30, 31, 32, 33, 34, 35] (by decide +kernel) (by decide +kernel)
set_option maxRecDepth 20000 in
theorem gX3_conflicts_X3_fails : GoodIn wsX3_conflicts (wsV RX3 99 RX3 yX3_fails wsX3_fails) := goodIn_app (goodIn_of _ (by decide +kernel)) ggX3_conflicts_X3_fails
theorem dX3_conflicts_0 : decode cX3_conflicts 0 = .ok (.aload_n 0, 1) := by decide +kernel
theorem dX3_conflicts_1 : decode cX3_conflicts 1 = .ok (.iload_n 1, 1) := by decide +kernel
theorem dX3_conflicts_2 : decode cX3_conflicts 2 = .ok (.ifCond .eq 8, 3) := by decide +kernel
theorem dX3_conflicts_5 : decode cX3_conflicts 5 = .ok (.iload_n 1, 1) := by decide +kernel
theorem dX3_conflicts_6 : decode cX3_conflicts 6 = .ok (.iconst 1, 1) := by decide +kernel
theorem dX3_conflicts_7 : decode cX3_conflicts 7 = .ok (.if_icmp .ne 26, 3) := by decide +kernel
theorem dX3_conflicts_10 : decode cX3_conflicts 10 = .ok (.iload_n 2, 1) := by decide +kernel
theorem dX3_conflicts_11 : decode cX3_conflicts 11 = .ok (.ifCond .lt 22, 3) := by decide +kernel
theorem dX3_conflicts_14 : decode cX3_conflicts 14 = .ok (.iload_n 2, 1) := by decide +kernel
theorem dX3_conflicts_15 : decode cX3_conflicts 15 = .ok (.iload_n 1, 1) := by decide +kernel
theorem dX3_conflicts_16 : decode cX3_conflicts 16 = .ok (.ifCond .ne 9, 3) := by decide +kernel
theorem dX3_conflicts_19 : decode cX3_conflicts 19 = .ok (.sipush 200, 3) := by decide +kernel
theorem dX3_conflicts_22 : decode cX3_conflicts 22 = .ok (.goto 4, 3) := by decide +kernel
theorem dX3_conflicts_25 : decode cX3_conflicts 25 = .ok (.iconst 4, 1) := by decide +kernel
theorem dX3_conflicts_26 : decode cX3_conflicts 26 = .ok (.if_icmp .ge 7, 3) := by decide +kernel
theorem dX3_conflicts_29 : decode cX3_conflicts 29 = .ok (.iconst 1, 1) := by decide +kernel
theorem dX3_conflicts_30 : decode cX3_conflicts 30 = .ok (.goto 4, 3) := by decide +kernel
theorem dX3_conflicts_33 : decode cX3_conflicts 33 = .ok (.iconst 0, 1) := by decide +kernel
theorem dX3_conflicts_34 : decode cX3_conflicts 34 = .ok (.iconst 1, 1) := by decide +kernel
theorem dX3_conflicts_35 : decode cX3_conflicts 35 = .ok (.invokevirtual 99, 3) := by decide +kernel
theorem dX3_conflicts_38 : decode cX3_conflicts 38 = .ok (.ifCond .eq 5, 3) := by decide +kernel
theorem dX3_conflicts_41 : decode cX3_conflicts 41 = .ok (.iconst 0, 1) := by decide +kernel
theorem dX3_conflicts_42 : decode cX3_conflicts 42 = .ok (.ireturn, 1) := by decide +kernel
theorem dX3_conflicts_43 : decode cX3_conflicts 43 = .ok (.iload_n 1, 1) := by decide +kernel
theorem dX3_conflicts_44 : decode cX3_conflicts 44 = .ok (.ifCond .ne 12, 3) := by decide +kernel
theorem dX3_conflicts_47 : decode cX3_conflicts 47 = .ok (.aload_n 0, 1) := by decide +kernel
theorem dX3_conflicts_48 : decode cX3_conflicts 48 = .ok (.getfield 63, 3) := by decide +kernel
theorem dX3_conflicts_51 : decode cX3_conflicts 51 = .ok (.iload_n 2, 1) := by decide +kernel
theorem dX3_conflicts_52 : decode cX3_conflicts 52 = .ok (.iaload, 1) := by decide +kernel
theorem dX3_conflicts_53 : decode cX3_conflicts 53 = .ok (.goto 9, 3) := by decide +kernel
theorem dX3_conflicts_56 : decode cX3_conflicts 56 = .ok (.aload_n 0, 1) := by decide +kernel
theorem dX3_conflicts_57 : decode cX3_conflicts 57 = .ok (.getfield 66, 3) := by decide +kernel
theorem dX3_conflicts_60 : decode cX3_conflicts 60 = .ok (.iload_n 2, 1) := by decide +kernel
theorem dX3_conflicts_61 : decode cX3_conflicts 61 = .ok (.iaload, 1) := by decide +kernel
theorem dX3_conflicts_62 : decode cX3_conflicts 62 = .ok (.ireturn, 1) := by decide +kernel
theorem dJ9_min_7cf53_0 : decode cJ9_min_7cf53 0 = .ok (.iload_n 0, 1) := by decide +kernel
theorem dJ9_min_7cf53_1 : decode cJ9_min_7cf53 1 = .ok (.iload_n 1, 1) := by decide +kernel
theorem dJ9_min_7cf53_2 : decode cJ9_min_7cf53 2 = .ok (.if_icmp .gt 7, 3) := by decide +kernel
theorem dJ9_min_7cf53_5 : decode cJ9_min_7cf53 5 = .ok (.iload_n 0, 1) := by decide +kernel
theorem dJ9_min_7cf53_6 : decode cJ9_min_7cf53 6 = .ok (.goto 4, 3) := by decide +kernel
theorem dJ9_min_7cf53_9 : decode cJ9_min_7cf53 9 = .ok (.iload_n 1, 1) := by decide +kernel
theorem dJ9_min_7cf53_10 : decode cJ9_min_7cf53 10 = .ok (.ireturn, 1) := by decide +kernel
end
section
set_option maxRecDepth 20000 in
theorem ggL_begin_X2_begin : GoodIn wsL_begin wsX2_begin := goodIn_ca (goodIn_r _ [6, 7, 8, 9, 10, 5, 11, 12, 13, 14, 15, 16, 17, 18, 19, 20, 21, 22, 23, 24, 25, 26, 27, 28, 29, 30, 31, 32, 33, 34, 35, 36, 37, 38, 39, 40, 41, 42, 43, 44, 45, 46, 47, 48, 49, 50, 51, 52, 53, 54, 55, 56] (by decide +kernel) (by decide +kernel)) (goodIn_sub (fun _ h => List.mem_cons_of_mem _ (List.mem_append_right _ h)) (by decide +kernel))
set_option maxRecDepth 20000 in
theorem gL_begin_X2_begin : GoodIn wsL_begin (wsV RL 7 RX2 yX2_begin wsX2_begin) := goodIn_app (goodIn_of _ (by decide +kernel)) ggL_begin_X2_begin
theorem dL_begin_0 : decode cL_begin 0 = .ok (.aload_n 1, 1) := by decide +kernel
theorem dL_begin_1 : decode cL_begin 1 = .ok (.iconst 0, 1) := by decide +kernel
theorem dL_begin_2 : decode cL_begin 2 = .ok (.aload_n 0, 1) := by decide +kernel
theorem dL_begin_3 : decode cL_begin 3 = .ok (.invokevirtual 7, 3) := by decide +kernel
theorem dL_begin_6 : decode cL_begin 6 = .ok (.i2l, 1) := by decide +kernel
theorem dL_begin_7 : decode cL_begin 7 = .ok (.lastore, 1) := by decide +kernel
theorem dL_begin_8 : decode cL_begin 8 = .ok (.goto 6, 3) := by decide +kernel
theorem dL_begin_11 : decode cL_begin 11 = .ok (.astore_n 2, 1) := by decide +kernel
theorem dL_begin_12 : decode cL_begin 12 = .ok (.iconst 1, 1) := by decide +kernel
theorem dL_begin_13 : decode cL_begin 13 = .ok (.ireturn, 1) := by decide +kernel
theorem dL_begin_14 : decode cL_begin 14 = .ok (.iconst 0, 1) := by decide +kernel
theorem dL_begin_15 : decode cL_begin 15 = .ok (.ireturn, 1) := by decide +kernel
set_option maxRecDepth 20000 in
theorem ggL_look_X2_look : GoodIn wsL_look wsX2_look := goodIn_ca (goodIn_ca (goodIn_r _ [7, 8, 9, 10, 6, 11, 12, 13, 14, 15, 16, 17, 18, 19, 20, 21, 22, 23, 24, 25, 26, 27, 28, 29, 30, 31, 32, 33, 34, 35, 36, 37, 38, 39, 40, 41, 42, 43, 44, 45, 46, 47, 48, 49, 50, 51, 52, 53, 54, 55, 56, 57, 58, 59, 60, 61, 62, 63, 64, 65, 66, 67, 68, 69, 70, 71, 72, 73, 74, 75, 76, 77] (by decide +kernel) (by decide +kernel)) (goodIn_sub (fun _ h => List.mem_cons_of_mem _ (List.mem_append_left _ (List.mem_append_right _ h))) (by decide +kernel))) (goodIn_sub (fun _ h => List.mem_cons_of_mem _ (List.mem_append_right _ h)) (by decide +kernel))
set_option maxRecDepth 20000 in
theorem gL_look_X2_look : GoodIn wsL_look (wsV RL 15 RX2 yX2_look wsX2_look) := goodIn_app (goodIn_of _ (by decide +kernel)) ggL_look_X2_look
theorem dL_look_0 : decode cL_look 0 = .ok (.aload_n 2, 1) := by decide +kernel
theorem dL_look_1 : decode cL_look 1 = .ok (.iconst 0, 1) := by decide +kernel
theorem dL_look_2 : decode cL_look 2 = .ok (.aload_n 0, 1) := by decide +kernel
theorem dL_look_3 : decode cL_look 3 = .ok (.iload_n 1, 1) := by decide +kernel
theorem dL_look_4 : decode cL_look 4 = .ok (.invokevirtual 15, 3) := by decide +kernel
theorem dL_look_7 : decode cL_look 7 = .ok (.i2l, 1) := by decide +kernel
theorem dL_look_8 : decode cL_look 8 = .ok (.lastore, 1) := by decide +kernel
theorem dL_look_9 : decode cL_look 9 = .ok (.goto 9, 3) := by decide +kernel
theorem dL_look_12 : decode cL_look 12 = .ok (.astore_n 3, 1) := by decide +kernel
theorem dL_look_13 : decode cL_look 13 = .ok (.iconst 1, 1) := by decide +kernel
theorem dL_look_14 : decode cL_look 14 = .ok (.ireturn, 1) := by decide +kernel
theorem dL_look_15 : decode cL_look 15 = .ok (.astore_n 3, 1) := by decide +kernel
theorem dL_look_16 : decode cL_look 16 = .ok (.iconst 2, 1) := by decide +kernel
theorem dL_look_17 : decode cL_look 17 = .ok (.ireturn, 1) := by decide +kernel
theorem dL_look_18 : decode cL_look 18 = .ok (.iconst 0, 1) := by decide +kernel
theorem dL_look_19 : decode cL_look 19 = .ok (.ireturn, 1) := by decide +kernel
set_option maxRecDepth 20000 in
theorem ggL_put_X2_put : GoodIn wsL_put wsX2_put := goodIn_ca (goodIn_ca (goodIn_r _ [7, 8, 9, 10, 6, 11, 12, 13, 14, 15, 16, 17, 18, 19, 20, 21, 22, 23, 24, 25, 26, 27, 28, 29, 30, 31, 32, 33, 34, 35, 36, 37, 38, 39, 40, 41, 42, 43, 44, 45, 46, 47, 48, 49, 50, 51, 52, 53, 54, 55, 56, 57, 58, 59, 60, 61, 62, 63, 64, 65, 66, 67, 68, 69, 70, 71, 72, 73, 74, 75, 76, 77, 78, 79, 80, 81, 82, 83, 84, 85, 86, 87, 88, 89, 90, 91, 92, 93, 94, 95, 96, 97, 98, 99, 100, 101, 102, 103, 104, 105, 106, 107, 108, 109, 110, 111, 112, 113, 114, 115, 116, 117, 118] (by decide +kernel) (by decide +kernel)) (goodIn_sub (fun _ h => List.mem_cons_of_mem _ (List.mem_append_left _ (List.mem_append_right _ h))) (by decide +kernel))) (goodIn_sub (fun _ h => List.mem_cons_of_mem _ (List.mem_append_right _ h)) (by decide +kernel))
set_option maxRecDepth 20000 in
theorem gL_put_X2_put : GoodIn wsL_put (wsV RL 21 RX2 yX2_put wsX2_put) := goodIn_app (goodIn_of _ (by decide +kernel)) ggL_put_X2_put
theorem dL_put_0 : decode cL_put 0 = .ok (.aload 4, 2) := by decide +kernel
theorem dL_put_2 : decode cL_put 2 = .ok (.iconst 0, 1) := by decide +kernel
theorem dL_put_3 : decode cL_put 3 = .ok (.aload_n 0, 1) := by decide +kernel
theorem dL_put_4 : decode cL_put 4 = .ok (.iload_n 1, 1) := by decide +kernel
theorem dL_put_5 : decode cL_put 5 = .ok (.iload_n 2, 1) := by decide +kernel
theorem dL_put_6 : decode cL_put 6 = .ok (.iload_n 3, 1) := by decide +kernel
theorem dL_put_7 : decode cL_put 7 = .ok (.invokevirtual 21, 3) := by decide +kernel
theorem dL_put_10 : decode cL_put 10 = .ok (.i2l, 1) := by decide +kernel
theorem dL_put_11 : decode cL_put 11 = .ok (.lastore, 1) := by decide +kernel
theorem dL_put_12 : decode cL_put 12 = .ok (.goto 11, 3) := by decide +kernel
theorem dL_put_15 : decode cL_put 15 = .ok (.astore 5, 2) := by decide +kernel
theorem dL_put_17 : decode cL_put 17 = .ok (.iconst 1, 1) := by decide +kernel
theorem dL_put_18 : decode cL_put 18 = .ok (.ireturn, 1) := by decide +kernel
theorem dL_put_19 : decode cL_put 19 = .ok (.astore 5, 2) := by decide +kernel
theorem dL_put_21 : decode cL_put 21 = .ok (.iconst 2, 1) := by decide +kernel
theorem dL_put_22 : decode cL_put 22 = .ok (.ireturn, 1) := by decide +kernel
theorem dL_put_23 : decode cL_put 23 = .ok (.iconst 0, 1) := by decide +kernel
theorem dL_put_24 : decode cL_put 24 = .ok (.ireturn, 1) := by decide +kernel
set_option maxRecDepth 20000 in
theorem ggL_note_X2_note : GoodIn wsL_note wsX2_note := goodIn_ca (goodIn_ca (goodIn_r _ [7, 8, 9, 10, 11, 12, 6, 13, 14, 15, 16, 17, 18, 19, 20, 21, 22, 23, 24, 25, 26, 27, 28, 29, 30, 31, 32, 33, 34, 35, 36, 37, 38, 39, 40, 41, 42, 43, 44, 45, 46, 47, 48, 49, 50, 51, 52, 53] (by decide +kernel) (by decide +kernel)) (goodIn_sub (fun _ h => List.mem_cons_of_mem _ (List.mem_append_left _ (List.mem_append_right _ h))) (by decide +kernel))) (goodIn_sub (fun _ h => List.mem_cons_of_mem _ (List.mem_append_right _ h)) (by decide +kernel))
set_option maxRecDepth 20000 in
theorem gL_note_X2_note : GoodIn wsL_note (wsV RL 25 RX2 yX2_note wsX2_note) := goodIn_app (goodIn_of _ (by decide +kernel)) ggL_note_X2_note
theorem dL_note_0 : decode cL_note 0 = .ok (.aload_n 3, 1) := by decide +kernel
theorem dL_note_1 : decode cL_note 1 = .ok (.iconst 0, 1) := by decide +kernel
theorem dL_note_2 : decode cL_note 2 = .ok (.aload_n 0, 1) := by decide +kernel
theorem dL_note_3 : decode cL_note 3 = .ok (.iload_n 1, 1) := by decide +kernel
theorem dL_note_4 : decode cL_note 4 = .ok (.iload_n 2, 1) := by decide +kernel
theorem dL_note_5 : decode cL_note 5 = .ok (.invokevirtual 25, 3) := by decide +kernel
theorem dL_note_8 : decode cL_note 8 = .ok (.i2l, 1) := by decide +kernel
theorem dL_note_9 : decode cL_note 9 = .ok (.lastore, 1) := by decide +kernel
theorem dL_note_10 : decode cL_note 10 = .ok (.goto 11, 3) := by decide +kernel
theorem dL_note_13 : decode cL_note 13 = .ok (.astore 4, 2) := by decide +kernel
theorem dL_note_15 : decode cL_note 15 = .ok (.iconst 1, 1) := by decide +kernel
theorem dL_note_16 : decode cL_note 16 = .ok (.ireturn, 1) := by decide +kernel
theorem dL_note_17 : decode cL_note 17 = .ok (.astore 4, 2) := by decide +kernel
theorem dL_note_19 : decode cL_note 19 = .ok (.iconst 2, 1) := by decide +kernel
theorem dL_note_20 : decode cL_note 20 = .ok (.ireturn, 1) := by decide +kernel
theorem dL_note_21 : decode cL_note 21 = .ok (.iconst 0, 1) := by decide +kernel
theorem dL_note_22 : decode cL_note 22 = .ok (.ireturn, 1) := by decide +kernel
set_option maxRecDepth 20000 in
theorem ggL_read_X2_read : GoodIn wsL_read wsX2_read := goodIn_ca (goodIn_ca (goodIn_r _ [7, 8, 9, 10, 11, 12, 13, 6, 14, 15, 16, 17, 18, 19, 20, 21, 22, 23, 24, 25, 26, 27, 28, 29, 30, 31, 32, 33, 34, 35, 36, 37, 38, 39, 40, 41, 42, 43, 44, 45, 46, 47, 48, 49, 50, 51, 52, 53, 54, 55, 56, 57, 58, 59, 60, 61, 62, 63, 64, 65, 66, 67, 68, 69] (by decide +kernel) (by decide +kernel)) (goodIn_sub (fun _ h => List.mem_cons_of_mem _ (List.mem_append_left _ (List.mem_append_right _ h))) (by decide +kernel))) (goodIn_sub (fun _ h => List.mem_cons_of_mem _ (List.mem_append_right _ h)) (by decide +kernel))
set_option maxRecDepth 20000 in
theorem gL_read_X2_read : GoodIn wsL_read (wsV RL 29 RX2 yX2_read wsX2_read) := goodIn_app (goodIn_of _ (by decide +kernel)) ggL_read_X2_read
theorem dL_read_0 : decode cL_read 0 = .ok (.aload_n 3, 1) := by decide +kernel
theorem dL_read_1 : decode cL_read 1 = .ok (.iconst 0, 1) := by decide +kernel
theorem dL_read_2 : decode cL_read 2 = .ok (.aload_n 0, 1) := by decide +kernel
theorem dL_read_3 : decode cL_read 3 = .ok (.iload_n 1, 1) := by decide +kernel
theorem dL_read_4 : decode cL_read 4 = .ok (.iload_n 2, 1) := by decide +kernel
theorem dL_read_5 : decode cL_read 5 = .ok (.invokevirtual 29, 3) := by decide +kernel
theorem dL_read_8 : decode cL_read 8 = .ok (.ifCond .eq 7, 3) := by decide +kernel
theorem dL_read_11 : decode cL_read 11 = .ok (.lconst 1, 1) := by decide +kernel
theorem dL_read_12 : decode cL_read 12 = .ok (.goto 4, 3) := by decide +kernel
theorem dL_read_15 : decode cL_read 15 = .ok (.lconst 0, 1) := by decide +kernel
theorem dL_read_16 : decode cL_read 16 = .ok (.lastore, 1) := by decide +kernel
theorem dL_read_17 : decode cL_read 17 = .ok (.goto 11, 3) := by decide +kernel
theorem dL_read_20 : decode cL_read 20 = .ok (.astore 4, 2) := by decide +kernel
theorem dL_read_22 : decode cL_read 22 = .ok (.iconst 1, 1) := by decide +kernel
theorem dL_read_23 : decode cL_read 23 = .ok (.ireturn, 1) := by decide +kernel
theorem dL_read_24 : decode cL_read 24 = .ok (.astore 4, 2) := by decide +kernel
theorem dL_read_26 : decode cL_read 26 = .ok (.iconst 2, 1) := by decide +kernel
theorem dL_read_27 : decode cL_read 27 = .ok (.ireturn, 1) := by decide +kernel
theorem dL_read_28 : decode cL_read 28 = .ok (.iconst 0, 1) := by decide +kernel
theorem dL_read_29 : decode cL_read 29 = .ok (.ireturn, 1) := by decide +kernel
set_option maxRecDepth 20000 in
theorem ggL_told_X2_told : GoodIn wsL_told wsX2_told := goodIn_ca (goodIn_r _ [6, 7, 8, 9, 5, 10, 11, 12, 13, 14, 15, 16, 17, 18, 19, 20, 21, 22, 23, 24, 25, 26, 27, 28, 29, 30, 31, 32, 33, 34, 35, 36, 37, 38, 39, 40, 41, 42, 43, 44, 45, 46, 47, 48, 49, 50, 51, 52, 53, 54, 55, 56, 57, 58, 59, 60, 61, 62, 63, 64, 65, 66, 67, 68, 69, 70, 71] (by decide +kernel) (by decide +kernel)) (goodIn_sub (fun _ h => List.mem_cons_of_mem _ (List.mem_append_right _ h)) (by decide +kernel))
set_option maxRecDepth 20000 in
theorem gL_told_X2_told : GoodIn wsL_told (wsV RL 33 RX2 yX2_told wsX2_told) := goodIn_app (goodIn_of _ (by decide +kernel)) ggL_told_X2_told
theorem dL_told_0 : decode cL_told 0 = .ok (.aload_n 3, 1) := by decide +kernel
theorem dL_told_1 : decode cL_told 1 = .ok (.iconst 0, 1) := by decide +kernel
theorem dL_told_2 : decode cL_told 2 = .ok (.aload_n 0, 1) := by decide +kernel
theorem dL_told_3 : decode cL_told 3 = .ok (.iload_n 1, 1) := by decide +kernel
theorem dL_told_4 : decode cL_told 4 = .ok (.iload_n 2, 1) := by decide +kernel
theorem dL_told_5 : decode cL_told 5 = .ok (.invokevirtual 33, 3) := by decide +kernel
theorem dL_told_8 : decode cL_told 8 = .ok (.ifCond .eq 7, 3) := by decide +kernel
theorem dL_told_11 : decode cL_told 11 = .ok (.lconst 1, 1) := by decide +kernel
theorem dL_told_12 : decode cL_told 12 = .ok (.goto 4, 3) := by decide +kernel
theorem dL_told_15 : decode cL_told 15 = .ok (.lconst 0, 1) := by decide +kernel
theorem dL_told_16 : decode cL_told 16 = .ok (.lastore, 1) := by decide +kernel
theorem dL_told_17 : decode cL_told 17 = .ok (.goto 7, 3) := by decide +kernel
theorem dL_told_20 : decode cL_told 20 = .ok (.astore 4, 2) := by decide +kernel
theorem dL_told_22 : decode cL_told 22 = .ok (.iconst 1, 1) := by decide +kernel
theorem dL_told_23 : decode cL_told 23 = .ok (.ireturn, 1) := by decide +kernel
theorem dL_told_24 : decode cL_told 24 = .ok (.iconst 0, 1) := by decide +kernel
theorem dL_told_25 : decode cL_told 25 = .ok (.ireturn, 1) := by decide +kernel
set_option maxRecDepth 20000 in
theorem ggL_commit_X2_commit : GoodIn wsL_commit wsX2_commit := goodIn_ca (goodIn_ca (goodIn_r _ [7, 8, 9, 10, 6, 11, 12, 13, 14, 15, 16, 17, 18, 19, 20, 21, 22, 23, 24, 25, 26, 27, 28, 29, 30, 31, 32, 33, 34, 35, 36, 37, 38, 39, 40, 41, 42, 43, 44, 45, 46, 47, 48, 49, 50, 51, 52, 53, 54, 55, 56, 57, 58, 59, 60, 61, 62, 63, 64, 65, 66, 67, 68, 69, 70, 71, 72, 73, 74, 75, 76, 77, 78, 79, 80, 81, 82, 83, 84, 85, 86, 87, 88, 89, 90, 91, 92, 93, 94, 95, 96, 97, 98, 99, 100, 101, 102, 103, 104, 105, 106, 107, 108, 109, 110, 111, 112, 113, 114, 115, 116, 117, 118, 119, 120, 121, 122, 123, 124, 125, 126, 127, 128, 129, 130, 131, 132, 133, 134, 135, 136, 137, 138, 139, 140, 141, 142, 143, 144, 145, 146, 147, 148, 149, 150, 151, 152, 153, 154, 155, 156, 157, 158, 159, 160, 161, 162, 163, 164, 165, 166] (by decide +kernel) (by decide +kernel)) (goodIn_sub (fun _ h => List.mem_cons_of_mem _ (List.mem_append_left _ (List.mem_append_right _ h))) (by decide +kernel))) (goodIn_sub (fun _ h => List.mem_cons_of_mem _ (List.mem_append_right _ h)) (by decide +kernel))
set_option maxRecDepth 20000 in
theorem gL_commit_X2_commit : GoodIn wsL_commit (wsV RL 36 RX2 yX2_commit wsX2_commit) := goodIn_app (goodIn_of _ (by decide +kernel)) ggL_commit_X2_commit
theorem dL_commit_0 : decode cL_commit 0 = .ok (.aload_n 2, 1) := by decide +kernel
theorem dL_commit_1 : decode cL_commit 1 = .ok (.iconst 0, 1) := by decide +kernel
theorem dL_commit_2 : decode cL_commit 2 = .ok (.aload_n 0, 1) := by decide +kernel
theorem dL_commit_3 : decode cL_commit 3 = .ok (.iload_n 1, 1) := by decide +kernel
theorem dL_commit_4 : decode cL_commit 4 = .ok (.invokevirtual 36, 3) := by decide +kernel
theorem dL_commit_7 : decode cL_commit 7 = .ok (.i2l, 1) := by decide +kernel
theorem dL_commit_8 : decode cL_commit 8 = .ok (.lastore, 1) := by decide +kernel
theorem dL_commit_9 : decode cL_commit 9 = .ok (.goto 9, 3) := by decide +kernel
theorem dL_commit_12 : decode cL_commit 12 = .ok (.astore_n 3, 1) := by decide +kernel
theorem dL_commit_13 : decode cL_commit 13 = .ok (.iconst 1, 1) := by decide +kernel
theorem dL_commit_14 : decode cL_commit 14 = .ok (.ireturn, 1) := by decide +kernel
theorem dL_commit_15 : decode cL_commit 15 = .ok (.astore_n 3, 1) := by decide +kernel
theorem dL_commit_16 : decode cL_commit 16 = .ok (.iconst 2, 1) := by decide +kernel
theorem dL_commit_17 : decode cL_commit 17 = .ok (.ireturn, 1) := by decide +kernel
theorem dL_commit_18 : decode cL_commit 18 = .ok (.iconst 0, 1) := by decide +kernel
theorem dL_commit_19 : decode cL_commit 19 = .ok (.ireturn, 1) := by decide +kernel
set_option maxRecDepth 20000 in
theorem ggL_abort_X2_abort : GoodIn wsL_abort wsX2_abort := goodIn_ca (goodIn_ca (goodIn_r _ [7, 8, 9, 10, 6, 11, 12, 13, 14, 15, 16, 17, 18, 19, 20, 21, 22, 23, 24, 25, 26, 27, 28, 29, 30, 31, 32, 33, 34, 35, 36, 37, 38, 39, 40, 41, 42, 43, 44, 45, 46, 47, 48, 49, 50, 51, 52, 53, 54, 55, 56, 57, 58, 59, 60, 61, 62, 63, 64, 65, 66, 67, 68, 69, 70, 71, 72, 73, 74, 75, 76, 77, 78, 79, 80, 81, 82, 83, 84, 85, 86, 87, 88, 89, 90, 91, 92, 93, 94, 95, 96, 97, 98, 99, 100, 101, 102, 103, 104, 105, 106, 107, 108, 109, 110, 111, 112, 113, 114, 115, 116, 117, 118, 119, 120, 121] (by decide +kernel) (by decide +kernel)) (goodIn_sub (fun _ h => List.mem_cons_of_mem _ (List.mem_append_left _ (List.mem_append_right _ h))) (by decide +kernel))) (goodIn_sub (fun _ h => List.mem_cons_of_mem _ (List.mem_append_right _ h)) (by decide +kernel))
set_option maxRecDepth 20000 in
theorem gL_abort_X2_abort : GoodIn wsL_abort (wsV RL 39 RX2 yX2_abort wsX2_abort) := goodIn_app (goodIn_of _ (by decide +kernel)) ggL_abort_X2_abort
theorem dL_abort_0 : decode cL_abort 0 = .ok (.aload_n 2, 1) := by decide +kernel
theorem dL_abort_1 : decode cL_abort 1 = .ok (.iconst 0, 1) := by decide +kernel
theorem dL_abort_2 : decode cL_abort 2 = .ok (.aload_n 0, 1) := by decide +kernel
theorem dL_abort_3 : decode cL_abort 3 = .ok (.iload_n 1, 1) := by decide +kernel
theorem dL_abort_4 : decode cL_abort 4 = .ok (.invokevirtual 39, 3) := by decide +kernel
theorem dL_abort_7 : decode cL_abort 7 = .ok (.i2l, 1) := by decide +kernel
theorem dL_abort_8 : decode cL_abort 8 = .ok (.lastore, 1) := by decide +kernel
theorem dL_abort_9 : decode cL_abort 9 = .ok (.goto 9, 3) := by decide +kernel
theorem dL_abort_12 : decode cL_abort 12 = .ok (.astore_n 3, 1) := by decide +kernel
theorem dL_abort_13 : decode cL_abort 13 = .ok (.iconst 1, 1) := by decide +kernel
theorem dL_abort_14 : decode cL_abort 14 = .ok (.ireturn, 1) := by decide +kernel
theorem dL_abort_15 : decode cL_abort 15 = .ok (.astore_n 3, 1) := by decide +kernel
theorem dL_abort_16 : decode cL_abort 16 = .ok (.iconst 2, 1) := by decide +kernel
theorem dL_abort_17 : decode cL_abort 17 = .ok (.ireturn, 1) := by decide +kernel
theorem dL_abort_18 : decode cL_abort 18 = .ok (.iconst 0, 1) := by decide +kernel
theorem dL_abort_19 : decode cL_abort 19 = .ok (.ireturn, 1) := by decide +kernel
set_option maxRecDepth 20000 in
theorem ggL_pin_X2_pin : GoodIn wsL_pin wsX2_pin := goodIn_ca (goodIn_r _ [6, 7, 8, 9, 10, 5, 11, 12, 13, 14, 15, 16, 17, 18, 19, 20, 21, 22, 23, 24, 25, 26, 27, 28, 29, 30, 31, 32, 33, 34, 35, 36, 37, 38, 39, 40, 41, 42, 43, 44, 45, 46, 47, 48, 49, 50, 51, 52, 53, 54, 55, 56, 57] (by decide +kernel) (by decide +kernel)) (goodIn_sub (fun _ h => List.mem_cons_of_mem _ (List.mem_append_right _ h)) (by decide +kernel))
set_option maxRecDepth 20000 in
theorem gL_pin_X2_pin : GoodIn wsL_pin (wsV RL 42 RX2 yX2_pin wsX2_pin) := goodIn_app (goodIn_of _ (by decide +kernel)) ggL_pin_X2_pin
theorem dL_pin_0 : decode cL_pin 0 = .ok (.aload_n 2, 1) := by decide +kernel
theorem dL_pin_1 : decode cL_pin 1 = .ok (.iconst 0, 1) := by decide +kernel
theorem dL_pin_2 : decode cL_pin 2 = .ok (.aload_n 0, 1) := by decide +kernel
theorem dL_pin_3 : decode cL_pin 3 = .ok (.iload_n 1, 1) := by decide +kernel
theorem dL_pin_4 : decode cL_pin 4 = .ok (.invokevirtual 42, 3) := by decide +kernel
theorem dL_pin_7 : decode cL_pin 7 = .ok (.i2l, 1) := by decide +kernel
theorem dL_pin_8 : decode cL_pin 8 = .ok (.lastore, 1) := by decide +kernel
theorem dL_pin_9 : decode cL_pin 9 = .ok (.goto 6, 3) := by decide +kernel
theorem dL_pin_12 : decode cL_pin 12 = .ok (.astore_n 3, 1) := by decide +kernel
theorem dL_pin_13 : decode cL_pin 13 = .ok (.iconst 1, 1) := by decide +kernel
theorem dL_pin_14 : decode cL_pin 14 = .ok (.ireturn, 1) := by decide +kernel
theorem dL_pin_15 : decode cL_pin 15 = .ok (.iconst 0, 1) := by decide +kernel
theorem dL_pin_16 : decode cL_pin 16 = .ok (.ireturn, 1) := by decide +kernel
set_option maxRecDepth 20000 in
theorem ggL_unpin_X2_unpin : GoodIn wsL_unpin wsX2_unpin := goodIn_ca (goodIn_r _ [6, 7, 8, 9, 10, 5, 11, 12, 13, 14, 15, 16, 17, 18, 19, 20, 21, 22, 23, 24, 25, 26, 27, 28, 29] (by decide +kernel) (by decide +kernel)) (goodIn_sub (fun _ h => List.mem_cons_of_mem _ (List.mem_append_right _ h)) (by decide +kernel))
set_option maxRecDepth 20000 in
theorem gL_unpin_X2_unpin : GoodIn wsL_unpin (wsV RL 45 RX2 yX2_unpin wsX2_unpin) := goodIn_app (goodIn_of _ (by decide +kernel)) ggL_unpin_X2_unpin
theorem dL_unpin_0 : decode cL_unpin 0 = .ok (.aload_n 2, 1) := by decide +kernel
theorem dL_unpin_1 : decode cL_unpin 1 = .ok (.iconst 0, 1) := by decide +kernel
theorem dL_unpin_2 : decode cL_unpin 2 = .ok (.aload_n 0, 1) := by decide +kernel
theorem dL_unpin_3 : decode cL_unpin 3 = .ok (.iload_n 1, 1) := by decide +kernel
theorem dL_unpin_4 : decode cL_unpin 4 = .ok (.invokevirtual 45, 3) := by decide +kernel
theorem dL_unpin_7 : decode cL_unpin 7 = .ok (.i2l, 1) := by decide +kernel
theorem dL_unpin_8 : decode cL_unpin 8 = .ok (.lastore, 1) := by decide +kernel
theorem dL_unpin_9 : decode cL_unpin 9 = .ok (.goto 6, 3) := by decide +kernel
theorem dL_unpin_12 : decode cL_unpin 12 = .ok (.astore_n 3, 1) := by decide +kernel
theorem dL_unpin_13 : decode cL_unpin 13 = .ok (.iconst 1, 1) := by decide +kernel
theorem dL_unpin_14 : decode cL_unpin 14 = .ok (.ireturn, 1) := by decide +kernel
theorem dL_unpin_15 : decode cL_unpin 15 = .ok (.iconst 0, 1) := by decide +kernel
theorem dL_unpin_16 : decode cL_unpin 16 = .ok (.ireturn, 1) := by decide +kernel
set_option maxRecDepth 20000 in
theorem ggL_state_X2_state : GoodIn wsL_state wsX2_state := goodIn_ca (goodIn_r _ [6, 7, 8, 9, 10, 5, 11, 12, 13, 14, 15, 16, 17, 18, 19, 20, 21, 22, 23, 24, 25, 26, 27, 28, 29, 30, 31, 32, 33, 34, 35, 36, 37, 38, 39, 40, 41] (by decide +kernel) (by decide +kernel)) (goodIn_sub (fun _ h => List.mem_cons_of_mem _ (List.mem_append_right _ h)) (by decide +kernel))
set_option maxRecDepth 20000 in
theorem gL_state_X2_state : GoodIn wsL_state (wsV RL 48 RX2 yX2_state wsX2_state) := goodIn_app (goodIn_of _ (by decide +kernel)) ggL_state_X2_state
theorem dL_state_0 : decode cL_state 0 = .ok (.aload_n 2, 1) := by decide +kernel
theorem dL_state_1 : decode cL_state 1 = .ok (.iconst 0, 1) := by decide +kernel
theorem dL_state_2 : decode cL_state 2 = .ok (.aload_n 0, 1) := by decide +kernel
theorem dL_state_3 : decode cL_state 3 = .ok (.iload_n 1, 1) := by decide +kernel
theorem dL_state_4 : decode cL_state 4 = .ok (.invokevirtual 48, 3) := by decide +kernel
theorem dL_state_7 : decode cL_state 7 = .ok (.i2l, 1) := by decide +kernel
theorem dL_state_8 : decode cL_state 8 = .ok (.lastore, 1) := by decide +kernel
theorem dL_state_9 : decode cL_state 9 = .ok (.goto 6, 3) := by decide +kernel
theorem dL_state_12 : decode cL_state 12 = .ok (.astore_n 3, 1) := by decide +kernel
theorem dL_state_13 : decode cL_state 13 = .ok (.iconst 1, 1) := by decide +kernel
theorem dL_state_14 : decode cL_state 14 = .ok (.ireturn, 1) := by decide +kernel
theorem dL_state_15 : decode cL_state 15 = .ok (.iconst 0, 1) := by decide +kernel
theorem dL_state_16 : decode cL_state 16 = .ok (.ireturn, 1) := by decide +kernel
set_option maxRecDepth 20000 in
theorem ggL_waits_X2_waits : GoodIn wsL_waits wsX2_waits := goodIn_ca (goodIn_r _ [6, 7, 8, 9, 10, 11, 5, 12, 13, 14, 15, 16, 17, 18, 19, 20, 21, 22, 23, 24, 25, 26, 27, 28, 29, 30, 31, 32, 33, 34, 35, 36, 37, 38, 39, 40, 41, 42] (by decide +kernel) (by decide +kernel)) (goodIn_sub (fun _ h => List.mem_cons_of_mem _ (List.mem_append_right _ h)) (by decide +kernel))
set_option maxRecDepth 20000 in
theorem gL_waits_X2_waits : GoodIn wsL_waits (wsV RL 51 RX2 yX2_waits wsX2_waits) := goodIn_app (goodIn_of _ (by decide +kernel)) ggL_waits_X2_waits
theorem dL_waits_0 : decode cL_waits 0 = .ok (.aload_n 2, 1) := by decide +kernel
theorem dL_waits_1 : decode cL_waits 1 = .ok (.iconst 0, 1) := by decide +kernel
theorem dL_waits_2 : decode cL_waits 2 = .ok (.aload_n 0, 1) := by decide +kernel
theorem dL_waits_3 : decode cL_waits 3 = .ok (.iload_n 1, 1) := by decide +kernel
theorem dL_waits_4 : decode cL_waits 4 = .ok (.invokevirtual 51, 3) := by decide +kernel
theorem dL_waits_7 : decode cL_waits 7 = .ok (.i2l, 1) := by decide +kernel
theorem dL_waits_8 : decode cL_waits 8 = .ok (.lastore, 1) := by decide +kernel
theorem dL_waits_9 : decode cL_waits 9 = .ok (.goto 6, 3) := by decide +kernel
theorem dL_waits_12 : decode cL_waits 12 = .ok (.astore_n 3, 1) := by decide +kernel
theorem dL_waits_13 : decode cL_waits 13 = .ok (.iconst 1, 1) := by decide +kernel
theorem dL_waits_14 : decode cL_waits 14 = .ok (.ireturn, 1) := by decide +kernel
theorem dL_waits_15 : decode cL_waits 15 = .ok (.iconst 0, 1) := by decide +kernel
theorem dL_waits_16 : decode cL_waits 16 = .ok (.ireturn, 1) := by decide +kernel
set_option maxRecDepth 20000 in
theorem ggL_conflicts_X2_conflicts : GoodIn wsL_conflicts wsX2_conflicts := goodIn_ca (goodIn_r _ [6, 7, 8, 9, 10, 5, 11, 12, 13, 14, 15, 16, 17, 18, 19, 20, 21, 22, 23, 24, 25, 26, 27, 28, 29, 30, 31, 32, 33, 34] (by decide +kernel) (by decide +kernel)) (goodIn_sub (fun _ h => List.mem_cons_of_mem _ (List.mem_append_right _ h)) (by decide +kernel))
set_option maxRecDepth 20000 in
theorem gL_conflicts_X2_conflicts : GoodIn wsL_conflicts (wsV RL 54 RX2 yX2_conflicts wsX2_conflicts) := goodIn_app (goodIn_of _ (by decide +kernel)) ggL_conflicts_X2_conflicts
theorem dL_conflicts_0 : decode cL_conflicts 0 = .ok (.aload_n 3, 1) := by decide +kernel
theorem dL_conflicts_1 : decode cL_conflicts 1 = .ok (.iconst 0, 1) := by decide +kernel
theorem dL_conflicts_2 : decode cL_conflicts 2 = .ok (.aload_n 0, 1) := by decide +kernel
theorem dL_conflicts_3 : decode cL_conflicts 3 = .ok (.iload_n 1, 1) := by decide +kernel
theorem dL_conflicts_4 : decode cL_conflicts 4 = .ok (.iload_n 2, 1) := by decide +kernel
theorem dL_conflicts_5 : decode cL_conflicts 5 = .ok (.invokevirtual 54, 3) := by decide +kernel
theorem dL_conflicts_8 : decode cL_conflicts 8 = .ok (.i2l, 1) := by decide +kernel
theorem dL_conflicts_9 : decode cL_conflicts 9 = .ok (.lastore, 1) := by decide +kernel
theorem dL_conflicts_10 : decode cL_conflicts 10 = .ok (.goto 7, 3) := by decide +kernel
theorem dL_conflicts_13 : decode cL_conflicts 13 = .ok (.astore 4, 2) := by decide +kernel
theorem dL_conflicts_15 : decode cL_conflicts 15 = .ok (.iconst 1, 1) := by decide +kernel
theorem dL_conflicts_16 : decode cL_conflicts 16 = .ok (.ireturn, 1) := by decide +kernel
theorem dL_conflicts_17 : decode cL_conflicts 17 = .ok (.iconst 0, 1) := by decide +kernel
theorem dL_conflicts_18 : decode cL_conflicts 18 = .ok (.ireturn, 1) := by decide +kernel
set_option maxRecDepth 20000 in
theorem ggL_law_X2_init : GoodIn wsL_law wsX2_init := goodIn_r _ [9, 10, 11, 12, 13, 14, 15, 16, 17, 18, 19, 20, 21, 22, 23, 24, 498, 499, 500, 501, 502, 503, 504, 505, 506, 507, 508, 509, 510, 511, 512] (by decide +kernel) (by decide +kernel)
set_option maxRecDepth 20000 in
theorem gL_law_X2_init : GoodIn wsL_law (wsX2_init) := ggL_law_X2_init
set_option maxRecDepth 20000 in
theorem ggL_law_X3_init : GoodIn wsL_law wsX3_init := goodIn_r _ [27, 28, 11, 12, 17, 29, 30, 20, 31, 32, 33, 34, 35, 36, 37, 38, 39, 40, 41, 42, 43, 44, 45, 46, 47, 513, 514, 515, 516, 517, 518, 519, 520, 521, 522, 523, 524, 525, 526, 527, 528, 529, 530, 531, 532, 533, 534, 535, 536, 537, 538, 539] (by decide +kernel) (by decide +kernel)
set_option maxRecDepth 20000 in
theorem gL_law_X3_init : GoodIn wsL_law (wsX3_init) := ggL_law_X3_init
set_option maxRecDepth 20000 in
theorem ggL_law_L_begin : GoodIn wsL_law wsL_begin := goodIn_ca (goodIn_r _ [51, 52, 53, 54, 55, 2, 56, 57, 58, 59, 60, 61, 62, 63, 64, 14, 13, 65, 66, 67, 68, 69, 70, 11, 12, 71, 72, 73, 20, 74, 75, 498, 499, 500, 501, 502, 503, 504, 505, 506, 507, 508, 509, 510, 511, 512, 540, 541, 542, 543, 544, 545, 546, 547, 548, 549, 550] (by decide +kernel) (by decide +kernel)) (goodIn_sub (fun _ h => List.mem_append_left _ (List.mem_append_right _ h)) (by decide +kernel))
set_option maxRecDepth 20000 in
theorem gL_law_L_begin : GoodIn wsL_law (va_wsS RL 61 yL_begin wsL_begin) := goodIn_app (goodIn_of _ (by decide +kernel)) ggL_law_L_begin
set_option maxRecDepth 20000 in
theorem ggL_law_X3_begin : GoodIn wsL_law wsX3_begin := goodIn_r _ [79, 80, 81, 82, 83, 84, 85, 5, 86, 33, 34, 35, 38, 513, 514, 515, 516, 517, 518, 519, 520, 521, 522, 523, 524, 525, 526, 527, 528, 529, 530, 531, 532, 533, 534, 535, 536, 537, 538, 539] (by decide +kernel) (by decide +kernel)
set_option maxRecDepth 20000 in
theorem gL_law_X3_begin : GoodIn wsL_law (wsV RL 66 RX3 yX3_begin wsX3_begin) := goodIn_app (goodIn_of _ (by decide +kernel)) ggL_law_X3_begin
set_option maxRecDepth 20000 in
theorem ggL_law_X3_thrown : GoodIn wsL_law wsX3_thrown := goodIn_r _ [90, 81, 513, 514, 515, 516, 517, 518, 519, 520, 521, 522, 523, 524, 525, 526, 527, 528, 529, 530, 531, 532, 533, 534, 535, 536, 537, 538, 539] (by decide +kernel) (by decide +kernel)
set_option maxRecDepth 20000 in
theorem gL_law_X3_thrown : GoodIn wsL_law (wsV RL 67 RX3 yX3_thrown wsX3_thrown) := goodIn_app (goodIn_of _ (by decide +kernel)) ggL_law_X3_thrown
set_option maxRecDepth 20000 in
theorem ggL_law_L_look : GoodIn wsL_law wsL_look := goodIn_ca (goodIn_ca (goodIn_r _ [93, 94, 52, 95, 96, 97, 2, 98, 99, 100, 101, 102, 103, 104, 57, 105, 106, 107, 108, 64, 14, 109, 110, 111, 112, 113, 18, 114, 115, 116, 66, 117, 75, 58, 59, 60, 61, 62, 63, 13, 65, 67, 68, 69, 70, 11, 12, 71, 72, 73, 20, 74, 498, 499, 500, 501, 502, 503, 504, 505, 506, 507, 508, 509, 510, 511, 512, 540, 541, 542, 543, 544, 545, 546, 547, 548, 549, 550] (by decide +kernel) (by decide +kernel)) (goodIn_sub (fun _ h => List.mem_append_right _ h) (by decide +kernel))) (goodIn_sub (fun _ h => List.mem_append_left _ (List.mem_append_right _ h)) (by decide +kernel))
set_option maxRecDepth 20000 in
theorem gL_law_L_look : GoodIn wsL_law (va_wsS RL 70 yL_look wsL_look) := goodIn_app (goodIn_of _ (by decide +kernel)) ggL_law_L_look
set_option maxRecDepth 20000 in
theorem ggL_law_X3_look : GoodIn wsL_law wsX3_look := goodIn_r _ [121, 80, 122, 123, 124, 5, 125, 82, 126, 127, 128, 129, 34, 32, 130, 131, 132, 133, 35, 134, 135, 136, 137, 81, 83, 84, 85, 86, 33, 38, 513, 514, 515, 516, 517, 518, 519, 520, 521, 522, 523, 524, 525, 526, 527, 528, 529, 530, 531, 532, 533, 534, 535, 536, 537, 538, 539] (by decide +kernel) (by decide +kernel)
set_option maxRecDepth 20000 in
theorem gL_law_X3_look : GoodIn wsL_law (wsV RL 73 RX3 yX3_look wsX3_look) := goodIn_app (goodIn_of _ (by decide +kernel)) ggL_law_X3_look
set_option maxRecDepth 20000 in
theorem ggL_law_L_put : GoodIn wsL_law wsL_put := goodIn_ca (goodIn_ca (goodIn_r _ [140, 94, 52, 141, 142, 143, 2, 144, 145, 146, 147, 148, 103, 104, 64, 14, 149, 150, 151, 152, 153, 154, 62, 63, 155, 156, 157, 158, 159, 160, 161, 109, 22, 19, 21, 162, 163, 164, 165, 16, 166, 167, 168, 169, 170, 171, 172, 173, 174, 24, 175, 176, 177, 178, 179, 180, 181, 182, 183, 184, 185, 186, 187, 188, 189, 190, 191, 192, 193, 194, 195, 196, 197, 198, 199, 200, 201, 202, 203, 204, 205, 206, 207, 208, 209, 210, 211, 212, 213, 214, 498, 499, 500, 501, 502, 503, 504, 505, 506, 507, 508, 509, 510, 511, 512, 540, 541, 542, 543, 544, 545, 546, 547, 548, 549, 550, 551, 552, 553] (by decide +kernel) (by decide +kernel)) (goodIn_sub (fun _ h => List.mem_append_right _ h) (by decide +kernel))) (goodIn_sub (fun _ h => List.mem_append_left _ (List.mem_append_right _ h)) (by decide +kernel))
set_option maxRecDepth 20000 in
theorem gL_law_L_put : GoodIn wsL_law (va_wsS RL 74 yL_put wsL_put) := goodIn_app (goodIn_of _ (by decide +kernel)) ggL_law_L_put
set_option maxRecDepth 20000 in
theorem ggL_law_X3_put : GoodIn wsL_law wsX3_put := goodIn_r _ [218, 35, 219, 220, 221, 5, 222, 80, 223, 224, 225, 226, 227, 228, 229, 33, 134, 135, 136, 137, 81, 230, 231, 232, 233, 38, 34, 45, 42, 39, 40, 41, 234, 37, 235, 236, 237, 238, 239, 29, 30, 240, 241, 242, 243, 244, 245, 246, 247, 248, 44, 249, 250, 251, 252, 43, 253, 254, 255, 256, 257, 258, 513, 514, 515, 516, 517, 518, 519, 520, 521, 522, 523, 524, 525, 526, 527, 528, 529, 530, 531, 532, 533, 534, 535, 536, 537, 538, 539] (by decide +kernel) (by decide +kernel)
set_option maxRecDepth 20000 in
theorem gL_law_X3_put : GoodIn wsL_law (wsV RL 77 RX3 yX3_put wsX3_put) := goodIn_app (goodIn_of _ (by decide +kernel)) ggL_law_X3_put
set_option maxRecDepth 20000 in
theorem ggL_law_L_note : GoodIn wsL_law wsL_note := goodIn_ca (goodIn_ca (goodIn_r _ [261, 94, 52, 262, 263, 264, 2, 265, 266, 267, 145, 146, 147, 148, 103, 104, 64, 14, 268, 269, 270, 152, 153, 154, 62, 63, 155, 156, 540, 541, 542, 543, 544, 545, 546, 547, 548, 549, 550, 498, 499, 500, 501, 502, 503, 504, 505, 506, 507, 508, 509, 510, 511, 512] (by decide +kernel) (by decide +kernel)) (goodIn_sub (fun _ h => List.mem_append_right _ h) (by decide +kernel))) (goodIn_sub (fun _ h => List.mem_append_left _ (List.mem_append_right _ h)) (by decide +kernel))
set_option maxRecDepth 20000 in
theorem gL_law_L_note : GoodIn wsL_law (va_wsS RL 78 yL_note wsL_note) := goodIn_app (goodIn_of _ (by decide +kernel)) ggL_law_L_note
set_option maxRecDepth 20000 in
theorem ggL_law_X3_note : GoodIn wsL_law wsX3_note := goodIn_r _ [274, 36, 219, 220, 221, 5, 222, 80, 226, 227, 228, 229, 35, 33, 134, 135, 136, 137, 81, 513, 514, 515, 516, 517, 518, 519, 520, 521, 522, 523, 524, 525, 526, 527, 528, 529, 530, 531, 532, 533, 534, 535, 536, 537, 538, 539] (by decide +kernel) (by decide +kernel)
set_option maxRecDepth 20000 in
theorem gL_law_X3_note : GoodIn wsL_law (wsV RL 81 RX3 yX3_note wsX3_note) := goodIn_app (goodIn_of _ (by decide +kernel)) ggL_law_X3_note
set_option maxRecDepth 20000 in
theorem ggL_law_L_read : GoodIn wsL_law wsL_read := goodIn_ca (goodIn_ca (goodIn_r _ [277, 94, 52, 278, 279, 280, 2, 281, 19, 21, 109, 145, 146, 147, 148, 103, 104, 64, 14, 149, 150, 151, 282, 283, 284, 62, 63, 114, 115, 116, 66, 117, 75, 285, 286, 287, 288, 16, 166, 289, 290, 498, 499, 500, 501, 502, 503, 504, 505, 506, 507, 508, 509, 510, 511, 512, 540, 541, 542, 543, 544, 545, 546, 547, 548, 549, 550, 551, 552, 553] (by decide +kernel) (by decide +kernel)) (goodIn_sub (fun _ h => List.mem_append_right _ h) (by decide +kernel))) (goodIn_sub (fun _ h => List.mem_append_left _ (List.mem_append_right _ h)) (by decide +kernel))
set_option maxRecDepth 20000 in
theorem gL_law_L_read : GoodIn wsL_law (va_wsS RL 82 yL_read wsL_read) := goodIn_app (goodIn_of _ (by decide +kernel)) ggL_law_L_read
set_option maxRecDepth 20000 in
theorem ggL_law_X3_read : GoodIn wsL_law wsX3_read := goodIn_r _ [294, 37, 34, 219, 220, 221, 5, 222, 80, 223, 224, 225, 130, 131, 132, 133, 35, 134, 135, 136, 137, 81, 295, 296, 297, 298, 31, 299, 300, 301, 302, 239, 29, 30, 513, 514, 515, 516, 517, 518, 519, 520, 521, 522, 523, 524, 525, 526, 527, 528, 529, 530, 531, 532, 533, 534, 535, 536, 537, 538, 539] (by decide +kernel) (by decide +kernel)
set_option maxRecDepth 20000 in
theorem gL_law_X3_read : GoodIn wsL_law (wsV RL 84 RX3 yX3_read wsX3_read) := goodIn_app (goodIn_of _ (by decide +kernel)) ggL_law_X3_read
set_option maxRecDepth 20000 in
theorem ggL_law_L_told : GoodIn wsL_law wsL_told := goodIn_ca (goodIn_r _ [305, 94, 306, 307, 308, 2, 309, 99, 100, 101, 102, 103, 104, 57, 105, 106, 107, 108, 64, 14, 109, 110, 111, 112, 113, 18, 114, 115, 116, 66, 117, 75, 149, 150, 151, 285, 286, 287, 288, 16, 166, 289, 290, 498, 499, 500, 501, 502, 503, 504, 505, 506, 507, 508, 509, 510, 511, 512, 540, 541, 542, 543, 544, 545, 546, 547, 548, 549, 550, 551, 552, 553] (by decide +kernel) (by decide +kernel)) (goodIn_sub (fun _ h => List.mem_append_right _ h) (by decide +kernel))
set_option maxRecDepth 20000 in
theorem gL_law_L_told : GoodIn wsL_law (va_wsS RL 85 yL_told wsL_told) := goodIn_app (goodIn_of _ (by decide +kernel)) ggL_law_L_told
set_option maxRecDepth 20000 in
theorem ggL_law_X3_told : GoodIn wsL_law wsX3_told := goodIn_r _ [313, 122, 123, 124, 5, 125, 82, 126, 127, 128, 129, 80, 34, 32, 130, 131, 132, 133, 35, 223, 224, 225, 134, 135, 136, 137, 81, 295, 296, 297, 298, 31, 299, 300, 301, 302, 239, 29, 30, 513, 514, 515, 516, 517, 518, 519, 520, 521, 522, 523, 524, 525, 526, 527, 528, 529, 530, 531, 532, 533, 534, 535, 536, 537, 538, 539] (by decide +kernel) (by decide +kernel)
set_option maxRecDepth 20000 in
theorem gL_law_X3_told : GoodIn wsL_law (wsV RL 87 RX3 yX3_told wsX3_told) := goodIn_app (goodIn_of _ (by decide +kernel)) ggL_law_X3_told
set_option maxRecDepth 20000 in
theorem ggL_law_L_commit : GoodIn wsL_law wsL_commit := goodIn_ca (goodIn_ca (goodIn_r _ [316, 94, 52, 317, 318, 319, 2, 320, 145, 146, 147, 148, 103, 104, 64, 14, 282, 283, 284, 62, 63, 114, 115, 116, 66, 117, 75, 321, 322, 323, 156, 324, 325, 326, 327, 328, 329, 330, 331, 266, 109, 332, 333, 334, 335, 162, 163, 164, 165, 16, 166, 336, 337, 338, 339, 23, 189, 190, 191, 192, 161, 19, 193, 194, 195, 196, 174, 197, 198, 199, 200, 201, 202, 203, 204, 205, 206, 207, 340, 341, 342, 343, 57, 344, 345, 346, 347, 21, 15, 348, 349, 350, 285, 286, 287, 288, 289, 290, 351, 352, 353, 354, 11, 12, 355, 356, 357, 208, 209, 210, 211, 172, 173, 157, 158, 159, 160, 22, 167, 168, 169, 170, 171, 24, 175, 176, 177, 178, 179, 180, 181, 182, 183, 184, 185, 186, 187, 188, 498, 499, 500, 501, 502, 503, 504, 505, 506, 507, 508, 509, 510, 511, 512, 540, 541, 542, 543, 544, 545, 546, 547, 548, 549, 550, 551, 552, 553] (by decide +kernel) (by decide +kernel)) (goodIn_sub (fun _ h => List.mem_append_right _ h) (by decide +kernel))) (goodIn_sub (fun _ h => List.mem_append_left _ (List.mem_append_right _ h)) (by decide +kernel))
set_option maxRecDepth 20000 in
theorem gL_law_L_commit : GoodIn wsL_law (va_wsS RL 88 yL_commit wsL_commit) := goodIn_app (goodIn_of _ (by decide +kernel)) ggL_law_L_commit
set_option maxRecDepth 20000 in
theorem ggL_law_X3_commit : GoodIn wsL_law wsX3_commit := goodIn_r _ [361, 35, 46, 34, 82, 37, 29, 239, 30, 31, 219, 220, 221, 5, 222, 80, 130, 131, 132, 133, 134, 135, 136, 137, 81, 362, 363, 364, 365, 36, 235, 236, 237, 238, 249, 250, 251, 252, 42, 38, 41, 43, 253, 254, 255, 256, 257, 258, 39, 40, 230, 231, 232, 233, 45, 234, 240, 241, 242, 243, 244, 245, 246, 247, 248, 44, 295, 296, 297, 298, 299, 300, 301, 302, 513, 514, 515, 516, 517, 518, 519, 520, 521, 522, 523, 524, 525, 526, 527, 528, 529, 530, 531, 532, 533, 534, 535, 536, 537, 538, 539] (by decide +kernel) (by decide +kernel)
set_option maxRecDepth 20000 in
theorem gL_law_X3_commit : GoodIn wsL_law (wsV RL 90 RX3 yX3_commit wsX3_commit) := goodIn_app (goodIn_of _ (by decide +kernel)) ggL_law_X3_commit
set_option maxRecDepth 20000 in
theorem ggL_law_L_abort : GoodIn wsL_law wsL_abort := goodIn_ca (goodIn_ca (goodIn_r _ [368, 94, 52, 369, 370, 371, 2, 372, 145, 146, 147, 148, 103, 104, 64, 14, 282, 283, 284, 62, 63, 114, 115, 116, 66, 117, 75, 373, 374, 375, 376, 19, 189, 190, 191, 192, 156, 161, 193, 194, 195, 196, 174, 197, 198, 199, 200, 201, 202, 203, 204, 205, 206, 207, 208, 209, 210, 211, 172, 173, 157, 158, 159, 160, 109, 22, 21, 162, 163, 164, 165, 16, 166, 167, 168, 169, 170, 171, 24, 175, 176, 177, 178, 179, 180, 181, 182, 183, 184, 185, 186, 187, 188, 498, 499, 500, 501, 502, 503, 504, 505, 506, 507, 508, 509, 510, 511, 512, 540, 541, 542, 543, 544, 545, 546, 547, 548, 549, 550, 551, 552, 553] (by decide +kernel) (by decide +kernel)) (goodIn_sub (fun _ h => List.mem_append_right _ h) (by decide +kernel))) (goodIn_sub (fun _ h => List.mem_append_left _ (List.mem_append_right _ h)) (by decide +kernel))
set_option maxRecDepth 20000 in
theorem gL_law_L_abort : GoodIn wsL_law (va_wsS RL 91 yL_abort wsL_abort) := goodIn_app (goodIn_of _ (by decide +kernel)) ggL_law_L_abort
set_option maxRecDepth 20000 in
theorem ggL_law_X3_abort : GoodIn wsL_law wsX3_abort := goodIn_r _ [380, 219, 220, 221, 5, 222, 80, 130, 131, 132, 133, 35, 134, 135, 136, 137, 81, 249, 250, 251, 252, 42, 38, 41, 43, 253, 254, 255, 256, 257, 258, 39, 40, 230, 231, 232, 233, 34, 45, 234, 37, 235, 236, 237, 238, 239, 29, 30, 240, 241, 242, 243, 244, 245, 246, 247, 248, 44, 381, 382, 383, 384, 513, 514, 515, 516, 517, 518, 519, 520, 521, 522, 523, 524, 525, 526, 527, 528, 529, 530, 531, 532, 533, 534, 535, 536, 537, 538, 539] (by decide +kernel) (by decide +kernel)
set_option maxRecDepth 20000 in
theorem gL_law_X3_abort : GoodIn wsL_law (wsV RL 93 RX3 yX3_abort wsX3_abort) := goodIn_app (goodIn_of _ (by decide +kernel)) ggL_law_X3_abort
set_option maxRecDepth 20000 in
theorem ggL_law_L_pin : GoodIn wsL_law wsL_pin := goodIn_ca (goodIn_r _ [387, 94, 388, 389, 390, 2, 391, 18, 99, 100, 101, 102, 103, 104, 57, 105, 106, 107, 108, 64, 14, 109, 110, 111, 112, 113, 114, 115, 116, 66, 117, 75, 498, 499, 500, 501, 502, 503, 504, 505, 506, 507, 508, 509, 510, 511, 512, 540, 541, 542, 543, 544, 545, 546, 547, 548, 549, 550] (by decide +kernel) (by decide +kernel)) (goodIn_sub (fun _ h => List.mem_append_right _ h) (by decide +kernel))
set_option maxRecDepth 20000 in
theorem gL_law_L_pin : GoodIn wsL_law (va_wsS RL 94 yL_pin wsL_pin) := goodIn_app (goodIn_of _ (by decide +kernel)) ggL_law_L_pin
set_option maxRecDepth 20000 in
theorem ggL_law_X3_pin : GoodIn wsL_law wsX3_pin := goodIn_r _ [395, 32, 122, 123, 124, 5, 125, 82, 126, 127, 128, 129, 80, 34, 130, 131, 132, 133, 35, 134, 135, 136, 137, 81, 513, 514, 515, 516, 517, 518, 519, 520, 521, 522, 523, 524, 525, 526, 527, 528, 529, 530, 531, 532, 533, 534, 535, 536, 537, 538, 539] (by decide +kernel) (by decide +kernel)
set_option maxRecDepth 20000 in
theorem gL_law_X3_pin : GoodIn wsL_law (wsV RL 96 RX3 yX3_pin wsX3_pin) := goodIn_app (goodIn_of _ (by decide +kernel)) ggL_law_X3_pin
set_option maxRecDepth 20000 in
theorem ggL_law_L_unpin : GoodIn wsL_law wsL_unpin := goodIn_ca (goodIn_r _ [398, 94, 399, 400, 401, 2, 402, 18, 403, 404, 405, 406, 103, 104, 57, 498, 499, 500, 501, 502, 503, 504, 505, 506, 507, 508, 509, 510, 511, 512] (by decide +kernel) (by decide +kernel)) (goodIn_sub (fun _ h => List.mem_append_right _ h) (by decide +kernel))
set_option maxRecDepth 20000 in
theorem gL_law_L_unpin : GoodIn wsL_law (va_wsS RL 97 yL_unpin wsL_unpin) := goodIn_app (goodIn_of _ (by decide +kernel)) ggL_law_L_unpin
set_option maxRecDepth 20000 in
theorem ggL_law_X3_unpin : GoodIn wsL_law wsX3_unpin := goodIn_r _ [410, 32, 134, 135, 136, 5, 137, 81, 513, 514, 515, 516, 517, 518, 519, 520, 521, 522, 523, 524, 525, 526, 527, 528, 529, 530, 531, 532, 533, 534, 535, 536, 537, 538, 539] (by decide +kernel) (by decide +kernel)
set_option maxRecDepth 20000 in
theorem gL_law_X3_unpin : GoodIn wsL_law (wsV RL 99 RX3 yX3_unpin wsX3_unpin) := goodIn_app (goodIn_of _ (by decide +kernel)) ggL_law_X3_unpin
set_option maxRecDepth 20000 in
theorem ggL_law_X2_free : GoodIn wsL_law wsX2_free := goodIn_r _ [414, 350, 105, 106, 107, 2, 108, 57, 64, 14, 109, 110, 111, 112, 113, 18, 114, 115, 116, 66, 117, 75, 415, 416, 417, 418, 16, 166, 289, 290, 419, 420, 421, 422, 423, 424, 425, 498, 499, 500, 501, 502, 503, 504, 505, 506, 507, 508, 509, 510, 511, 512, 540, 541, 542, 543, 544, 545, 546, 547, 548, 549, 550, 551, 552, 553] (by decide +kernel) (by decide +kernel)
set_option maxRecDepth 20000 in
theorem gL_law_X2_free : GoodIn wsL_law (wsV RL 100 RX2 yX2_free wsX2_free) := goodIn_app (goodIn_of _ (by decide +kernel)) ggL_law_X2_free
set_option maxRecDepth 20000 in
theorem ggL_law_X3_free : GoodIn wsL_law wsX3_free := goodIn_r _ [429, 81, 47, 30, 239, 29, 31, 126, 127, 128, 5, 129, 82, 80, 34, 32, 130, 131, 132, 133, 35, 299, 300, 301, 302, 513, 514, 515, 516, 517, 518, 519, 520, 521, 522, 523, 524, 525, 526, 527, 528, 529, 530, 531, 532, 533, 534, 535, 536, 537, 538, 539] (by decide +kernel) (by decide +kernel)
set_option maxRecDepth 20000 in
theorem gL_law_X3_free : GoodIn wsL_law (wsV RL 103 RX3 yX3_free wsX3_free) := goodIn_app (goodIn_of _ (by decide +kernel)) ggL_law_X3_free
set_option maxRecDepth 20000 in
theorem ggL_law_X2_rows : GoodIn wsL_law wsX2_rows := goodIn_r _ [433, 350, 498, 499, 500, 501, 502, 503, 504, 505, 506, 507, 508, 509, 510, 511, 512] (by decide +kernel) (by decide +kernel)
set_option maxRecDepth 20000 in
theorem gL_law_X2_rows : GoodIn wsL_law (wsV RL 104 RX2 yX2_rows wsX2_rows) := goodIn_app (goodIn_of _ (by decide +kernel)) ggL_law_X2_rows
set_option maxRecDepth 20000 in
theorem ggL_law_X3_rows : GoodIn wsL_law wsX3_rows := goodIn_r _ [437, 81, 239, 513, 514, 515, 516, 517, 518, 519, 520, 521, 522, 523, 524, 525, 526, 527, 528, 529, 530, 531, 532, 533, 534, 535, 536, 537, 538, 539] (by decide +kernel) (by decide +kernel)
set_option maxRecDepth 20000 in
theorem gL_law_X3_rows : GoodIn wsL_law (wsV RL 107 RX3 yX3_rows wsX3_rows) := goodIn_app (goodIn_of _ (by decide +kernel)) ggL_law_X3_rows
set_option maxRecDepth 20000 in
theorem ggL_law_X2_latest : GoodIn wsL_law wsX2_latest := goodIn_r _ [441, 57, 498, 499, 500, 501, 502, 503, 504, 505, 506, 507, 508, 509, 510, 511, 512] (by decide +kernel) (by decide +kernel)
set_option maxRecDepth 20000 in
theorem gL_law_X2_latest : GoodIn wsL_law (wsV RL 108 RX2 yX2_latest wsX2_latest) := goodIn_app (goodIn_of _ (by decide +kernel)) ggL_law_X2_latest
set_option maxRecDepth 20000 in
theorem ggL_law_X3_latest : GoodIn wsL_law wsX3_latest := goodIn_r _ [445, 81, 82, 513, 514, 515, 516, 517, 518, 519, 520, 521, 522, 523, 524, 525, 526, 527, 528, 529, 530, 531, 532, 533, 534, 535, 536, 537, 538, 539] (by decide +kernel) (by decide +kernel)
set_option maxRecDepth 20000 in
theorem gL_law_X3_latest : GoodIn wsL_law (wsV RL 111 RX3 yX3_latest wsX3_latest) := goodIn_app (goodIn_of _ (by decide +kernel)) ggL_law_X3_latest
set_option maxRecDepth 20000 in
theorem ggL_law_X2_least : GoodIn wsL_law wsX2_least := goodIn_r _ [449, 105, 106, 107, 2, 108, 57, 64, 14, 109, 110, 111, 112, 113, 18, 114, 115, 116, 66, 117, 75, 498, 499, 500, 501, 502, 503, 504, 505, 506, 507, 508, 509, 510, 511, 512, 540, 541, 542, 543, 544, 545, 546, 547, 548, 549, 550] (by decide +kernel) (by decide +kernel)
set_option maxRecDepth 20000 in
theorem gL_law_X2_least : GoodIn wsL_law (wsV RL 112 RX2 yX2_least wsX2_least) := goodIn_app (goodIn_of _ (by decide +kernel)) ggL_law_X2_least
set_option maxRecDepth 20000 in
theorem ggL_law_X3_least : GoodIn wsL_law wsX3_least := goodIn_r _ [453, 81, 126, 127, 128, 5, 129, 82, 80, 34, 32, 130, 131, 132, 133, 35, 513, 514, 515, 516, 517, 518, 519, 520, 521, 522, 523, 524, 525, 526, 527, 528, 529, 530, 531, 532, 533, 534, 535, 536, 537, 538, 539] (by decide +kernel) (by decide +kernel)
set_option maxRecDepth 20000 in
theorem gL_law_X3_least : GoodIn wsL_law (wsV RL 115 RX3 yX3_least wsX3_least) := goodIn_app (goodIn_of _ (by decide +kernel)) ggL_law_X3_least
set_option maxRecDepth 20000 in
theorem ggL_law_L_state : GoodIn wsL_law wsL_state := goodIn_ca (goodIn_r _ [456, 94, 457, 458, 459, 2, 460, 156, 145, 146, 147, 148, 103, 104, 64, 14, 540, 541, 542, 543, 544, 545, 546, 547, 548, 549, 550, 498, 499, 500, 501, 502, 503, 504, 505, 506, 507, 508, 509, 510, 511, 512] (by decide +kernel) (by decide +kernel)) (goodIn_sub (fun _ h => List.mem_append_right _ h) (by decide +kernel))
set_option maxRecDepth 20000 in
theorem gL_law_L_state : GoodIn wsL_law (va_wsS RL 116 yL_state wsL_state) := goodIn_app (goodIn_of _ (by decide +kernel)) ggL_law_L_state
set_option maxRecDepth 20000 in
theorem ggL_law_X3_state : GoodIn wsL_law wsX3_state := goodIn_r _ [464, 35, 219, 220, 221, 5, 222, 80, 134, 135, 136, 137, 81, 513, 514, 515, 516, 517, 518, 519, 520, 521, 522, 523, 524, 525, 526, 527, 528, 529, 530, 531, 532, 533, 534, 535, 536, 537, 538, 539] (by decide +kernel) (by decide +kernel)
set_option maxRecDepth 20000 in
theorem gL_law_X3_state : GoodIn wsL_law (wsV RL 118 RX3 yX3_state wsX3_state) := goodIn_app (goodIn_of _ (by decide +kernel)) ggL_law_X3_state
set_option maxRecDepth 20000 in
theorem ggL_law_L_waits : GoodIn wsL_law wsL_waits := goodIn_ca (goodIn_r _ [467, 94, 468, 469, 470, 2, 471, 161, 184, 145, 146, 147, 148, 103, 104, 64, 14, 540, 541, 542, 543, 544, 545, 546, 547, 548, 549, 550, 498, 499, 500, 501, 502, 503, 504, 505, 506, 507, 508, 509, 510, 511, 512] (by decide +kernel) (by decide +kernel)) (goodIn_sub (fun _ h => List.mem_append_right _ h) (by decide +kernel))
set_option maxRecDepth 20000 in
theorem gL_law_L_waits : GoodIn wsL_law (va_wsS RL 119 yL_waits wsL_waits) := goodIn_app (goodIn_of _ (by decide +kernel)) ggL_law_L_waits
set_option maxRecDepth 20000 in
theorem ggL_law_X3_waits : GoodIn wsL_law wsX3_waits := goodIn_r _ [475, 35, 38, 219, 220, 221, 5, 222, 80, 134, 135, 136, 137, 81, 513, 514, 515, 516, 517, 518, 519, 520, 521, 522, 523, 524, 525, 526, 527, 528, 529, 530, 531, 532, 533, 534, 535, 536, 537, 538, 539] (by decide +kernel) (by decide +kernel)
set_option maxRecDepth 20000 in
theorem gL_law_X3_waits : GoodIn wsL_law (wsV RL 121 RX3 yX3_waits wsX3_waits) := goodIn_app (goodIn_of _ (by decide +kernel)) ggL_law_X3_waits
set_option maxRecDepth 20000 in
theorem ggL_law_X2_ring : GoodIn wsL_law wsX2_ring := goodIn_r _ [479, 183, 24, 498, 499, 500, 501, 502, 503, 504, 505, 506, 507, 508, 509, 510, 511, 512] (by decide +kernel) (by decide +kernel)
set_option maxRecDepth 20000 in
theorem gL_law_X2_ring : GoodIn wsL_law (wsV RL 122 RX2 yX2_ring wsX2_ring) := goodIn_app (goodIn_of _ (by decide +kernel)) ggL_law_X2_ring
set_option maxRecDepth 20000 in
theorem ggL_law_X3_ring : GoodIn wsL_law wsX3_ring := goodIn_r _ [483, 81, 248, 44, 513, 514, 515, 516, 517, 518, 519, 520, 521, 522, 523, 524, 525, 526, 527, 528, 529, 530, 531, 532, 533, 534, 535, 536, 537, 538, 539] (by decide +kernel) (by decide +kernel)
set_option maxRecDepth 20000 in
theorem gL_law_X3_ring : GoodIn wsL_law (wsV RL 125 RX3 yX3_ring wsX3_ring) := goodIn_app (goodIn_of _ (by decide +kernel)) ggL_law_X3_ring
set_option maxRecDepth 20000 in
theorem ggL_law_L_conflicts : GoodIn wsL_law wsL_conflicts := goodIn_ca (goodIn_r _ [486, 94, 487, 488, 489, 2, 490, 22, 23, 491, 492, 493, 103, 104, 149, 150, 151, 268, 269, 270, 498, 499, 500, 501, 502, 503, 504, 505, 506, 507, 508, 509, 510, 511, 512] (by decide +kernel) (by decide +kernel)) (goodIn_sub (fun _ h => List.mem_append_right _ h) (by decide +kernel))
set_option maxRecDepth 20000 in
theorem gL_law_L_conflicts : GoodIn wsL_law (va_wsS RL 126 yL_conflicts wsL_conflicts) := goodIn_app (goodIn_of _ (by decide +kernel)) ggL_law_L_conflicts
set_option maxRecDepth 20000 in
theorem ggL_law_X3_conflicts : GoodIn wsL_law wsX3_conflicts := goodIn_r _ [497, 45, 46, 134, 135, 136, 5, 137, 81, 513, 514, 515, 516, 517, 518, 519, 520, 521, 522, 523, 524, 525, 526, 527, 528, 529, 530, 531, 532, 533, 534, 535, 536, 537, 538, 539] (by decide +kernel) (by decide +kernel)
set_option maxRecDepth 20000 in
theorem gL_law_X3_conflicts : GoodIn wsL_law (wsV RL 128 RX3 yX3_conflicts wsX3_conflicts) := goodIn_app (goodIn_of _ (by decide +kernel)) ggL_law_X3_conflicts
theorem dL_law_0 : decode cL_law 0 = .ok (.new 8, 3) := by decide +kernel
theorem dL_law_3 : decode cL_law 3 = .ok (.dup, 1) := by decide +kernel
theorem dL_law_4 : decode cL_law 4 = .ok (.invokespecial 57, 3) := by decide +kernel
theorem dL_law_7 : decode cL_law 7 = .ok (.astore_n 1, 1) := by decide +kernel
theorem dL_law_8 : decode cL_law 8 = .ok (.new 58, 3) := by decide +kernel
theorem dL_law_11 : decode cL_law 11 = .ok (.dup, 1) := by decide +kernel
theorem dL_law_12 : decode cL_law 12 = .ok (.invokespecial 60, 3) := by decide +kernel
theorem dL_law_15 : decode cL_law 15 = .ok (.astore_n 2, 1) := by decide +kernel
theorem dL_law_16 : decode cL_law 16 = .ok (.iconst 1, 1) := by decide +kernel
theorem dL_law_17 : decode cL_law 17 = .ok (.newarray .long, 2) := by decide +kernel
theorem dL_law_19 : decode cL_law 19 = .ok (.astore_n 3, 1) := by decide +kernel
theorem dL_law_20 : decode cL_law 20 = .ok (.iconst 0, 1) := by decide +kernel
theorem dL_law_21 : decode cL_law 21 = .ok (.istore 4, 2) := by decide +kernel
theorem dL_law_23 : decode cL_law 23 = .ok (.iload 4, 2) := by decide +kernel
theorem dL_law_25 : decode cL_law 25 = .ok (.aload_n 0, 1) := by decide +kernel
theorem dL_law_26 : decode cL_law 26 = .ok (.arraylength, 1) := by decide +kernel
theorem dL_law_27 : decode cL_law 27 = .ok (.iconst 4, 1) := by decide +kernel
theorem dL_law_28 : decode cL_law 28 = .ok (.isub, 1) := by decide +kernel
theorem dL_law_29 : decode cL_law 29 = .ok (.if_icmp .gt 996, 3) := by decide +kernel
theorem dL_law_32 : decode cL_law 32 = .ok (.aload_n 0, 1) := by decide +kernel
theorem dL_law_33 : decode cL_law 33 = .ok (.iload 4, 2) := by decide +kernel
theorem dL_law_35 : decode cL_law 35 = .ok (.iaload, 1) := by decide +kernel
theorem dL_law_36 : decode cL_law 36 = .ok (.bipush 31, 2) := by decide +kernel
theorem dL_law_38 : decode cL_law 38 = .ok (.iand, 1) := by decide +kernel
theorem dL_law_39 : decode cL_law 39 = .ok (.tableswitch 980 0 17 #[85, 129, 185, 281, 349, 424, 499, 555, 611, 667, 723, 736, 749, 762, 775, 831, 887, 912], 85) := by decide +kernel
theorem dL_law_124 : decode cL_law 124 = .ok (.aload_n 1, 1) := by decide +kernel
theorem dL_law_125 : decode cL_law 125 = .ok (.aload_n 3, 1) := by decide +kernel
theorem dL_law_126 : decode cL_law 126 = .ok (.invokestatic 61, 3) := by decide +kernel
theorem dL_law_129 : decode cL_law 129 = .ok (.istore 5, 2) := by decide +kernel
theorem dL_law_131 : decode cL_law 131 = .ok (.aload_n 2, 1) := by decide +kernel
theorem dL_law_132 : decode cL_law 132 = .ok (.invokevirtual 66, 3) := by decide +kernel
theorem dL_law_135 : decode cL_law 135 = .ok (.istore 6, 2) := by decide +kernel
theorem dL_law_137 : decode cL_law 137 = .ok (.aload_n 2, 1) := by decide +kernel
theorem dL_law_138 : decode cL_law 138 = .ok (.invokevirtual 67, 3) := by decide +kernel
theorem dL_law_141 : decode cL_law 141 = .ok (.iload 5, 2) := by decide +kernel
theorem dL_law_143 : decode cL_law 143 = .ok (.if_icmp .eq 5, 3) := by decide +kernel
theorem dL_law_146 : decode cL_law 146 = .ok (.iconst 0, 1) := by decide +kernel
theorem dL_law_147 : decode cL_law 147 = .ok (.ireturn, 1) := by decide +kernel
theorem dL_law_148 : decode cL_law 148 = .ok (.iload 5, 2) := by decide +kernel
theorem dL_law_150 : decode cL_law 150 = .ok (.ifCond .ne 15, 3) := by decide +kernel
theorem dL_law_153 : decode cL_law 153 = .ok (.aload_n 3, 1) := by decide +kernel
theorem dL_law_154 : decode cL_law 154 = .ok (.iconst 0, 1) := by decide +kernel
theorem dL_law_155 : decode cL_law 155 = .ok (.laload, 1) := by decide +kernel
theorem dL_law_156 : decode cL_law 156 = .ok (.iload 6, 2) := by decide +kernel
theorem dL_law_158 : decode cL_law 158 = .ok (.i2l, 1) := by decide +kernel
theorem dL_law_159 : decode cL_law 159 = .ok (.lcmp, 1) := by decide +kernel
theorem dL_law_160 : decode cL_law 160 = .ok (.ifCond .eq 5, 3) := by decide +kernel
theorem dL_law_163 : decode cL_law 163 = .ok (.iconst 0, 1) := by decide +kernel
theorem dL_law_164 : decode cL_law 164 = .ok (.ireturn, 1) := by decide +kernel
theorem dL_law_165 : decode cL_law 165 = .ok (.goto 854, 3) := by decide +kernel
theorem dL_law_168 : decode cL_law 168 = .ok (.aload_n 1, 1) := by decide +kernel
theorem dL_law_169 : decode cL_law 169 = .ok (.aload_n 0, 1) := by decide +kernel
theorem dL_law_170 : decode cL_law 170 = .ok (.iload 4, 2) := by decide +kernel
theorem dL_law_172 : decode cL_law 172 = .ok (.iconst 1, 1) := by decide +kernel
theorem dL_law_173 : decode cL_law 173 = .ok (.iadd, 1) := by decide +kernel
theorem dL_law_174 : decode cL_law 174 = .ok (.iaload, 1) := by decide +kernel
theorem dL_law_175 : decode cL_law 175 = .ok (.aload_n 3, 1) := by decide +kernel
theorem dL_law_176 : decode cL_law 176 = .ok (.invokestatic 70, 3) := by decide +kernel
theorem dL_law_179 : decode cL_law 179 = .ok (.istore 5, 2) := by decide +kernel
theorem dL_law_181 : decode cL_law 181 = .ok (.aload_n 2, 1) := by decide +kernel
theorem dL_law_182 : decode cL_law 182 = .ok (.aload_n 0, 1) := by decide +kernel
theorem dL_law_183 : decode cL_law 183 = .ok (.iload 4, 2) := by decide +kernel
theorem dL_law_185 : decode cL_law 185 = .ok (.iconst 1, 1) := by decide +kernel
theorem dL_law_186 : decode cL_law 186 = .ok (.iadd, 1) := by decide +kernel
theorem dL_law_187 : decode cL_law 187 = .ok (.iaload, 1) := by decide +kernel
theorem dL_law_188 : decode cL_law 188 = .ok (.invokevirtual 73, 3) := by decide +kernel
theorem dL_law_191 : decode cL_law 191 = .ok (.istore 6, 2) := by decide +kernel
theorem dL_law_193 : decode cL_law 193 = .ok (.aload_n 2, 1) := by decide +kernel
theorem dL_law_194 : decode cL_law 194 = .ok (.invokevirtual 67, 3) := by decide +kernel
theorem dL_law_197 : decode cL_law 197 = .ok (.iload 5, 2) := by decide +kernel
theorem dL_law_199 : decode cL_law 199 = .ok (.if_icmp .eq 5, 3) := by decide +kernel
theorem dL_law_202 : decode cL_law 202 = .ok (.iconst 0, 1) := by decide +kernel
theorem dL_law_203 : decode cL_law 203 = .ok (.ireturn, 1) := by decide +kernel
theorem dL_law_204 : decode cL_law 204 = .ok (.iload 5, 2) := by decide +kernel
theorem dL_law_206 : decode cL_law 206 = .ok (.ifCond .ne 15, 3) := by decide +kernel
theorem dL_law_209 : decode cL_law 209 = .ok (.aload_n 3, 1) := by decide +kernel
theorem dL_law_210 : decode cL_law 210 = .ok (.iconst 0, 1) := by decide +kernel
theorem dL_law_211 : decode cL_law 211 = .ok (.laload, 1) := by decide +kernel
theorem dL_law_212 : decode cL_law 212 = .ok (.iload 6, 2) := by decide +kernel
theorem dL_law_214 : decode cL_law 214 = .ok (.i2l, 1) := by decide +kernel
theorem dL_law_215 : decode cL_law 215 = .ok (.lcmp, 1) := by decide +kernel
theorem dL_law_216 : decode cL_law 216 = .ok (.ifCond .eq 5, 3) := by decide +kernel
theorem dL_law_219 : decode cL_law 219 = .ok (.iconst 0, 1) := by decide +kernel
theorem dL_law_220 : decode cL_law 220 = .ok (.ireturn, 1) := by decide +kernel
theorem dL_law_221 : decode cL_law 221 = .ok (.goto 798, 3) := by decide +kernel
theorem dL_law_224 : decode cL_law 224 = .ok (.aload_n 1, 1) := by decide +kernel
theorem dL_law_225 : decode cL_law 225 = .ok (.aload_n 0, 1) := by decide +kernel
theorem dL_law_226 : decode cL_law 226 = .ok (.iload 4, 2) := by decide +kernel
theorem dL_law_228 : decode cL_law 228 = .ok (.iconst 1, 1) := by decide +kernel
theorem dL_law_229 : decode cL_law 229 = .ok (.iadd, 1) := by decide +kernel
theorem dL_law_230 : decode cL_law 230 = .ok (.iaload, 1) := by decide +kernel
theorem dL_law_231 : decode cL_law 231 = .ok (.aload_n 0, 1) := by decide +kernel
theorem dL_law_232 : decode cL_law 232 = .ok (.iload 4, 2) := by decide +kernel
theorem dL_law_234 : decode cL_law 234 = .ok (.iconst 2, 1) := by decide +kernel
theorem dL_law_235 : decode cL_law 235 = .ok (.iadd, 1) := by decide +kernel
theorem dL_law_236 : decode cL_law 236 = .ok (.iaload, 1) := by decide +kernel
theorem dL_law_237 : decode cL_law 237 = .ok (.aload_n 0, 1) := by decide +kernel
theorem dL_law_238 : decode cL_law 238 = .ok (.iload 4, 2) := by decide +kernel
theorem dL_law_240 : decode cL_law 240 = .ok (.iconst 3, 1) := by decide +kernel
theorem dL_law_241 : decode cL_law 241 = .ok (.iadd, 1) := by decide +kernel
theorem dL_law_242 : decode cL_law 242 = .ok (.iaload, 1) := by decide +kernel
theorem dL_law_243 : decode cL_law 243 = .ok (.ifCond .eq 7, 3) := by decide +kernel
theorem dL_law_246 : decode cL_law 246 = .ok (.iconst 1, 1) := by decide +kernel
theorem dL_law_247 : decode cL_law 247 = .ok (.goto 4, 3) := by decide +kernel
theorem dL_law_250 : decode cL_law 250 = .ok (.iconst 0, 1) := by decide +kernel
theorem dL_law_251 : decode cL_law 251 = .ok (.aload_n 3, 1) := by decide +kernel
theorem dL_law_252 : decode cL_law 252 = .ok (.invokestatic 74, 3) := by decide +kernel
theorem dL_law_255 : decode cL_law 255 = .ok (.istore 5, 2) := by decide +kernel
theorem dL_law_257 : decode cL_law 257 = .ok (.aload_n 2, 1) := by decide +kernel
theorem dL_law_258 : decode cL_law 258 = .ok (.aload_n 0, 1) := by decide +kernel
theorem dL_law_259 : decode cL_law 259 = .ok (.iload 4, 2) := by decide +kernel
theorem dL_law_261 : decode cL_law 261 = .ok (.iconst 1, 1) := by decide +kernel
theorem dL_law_262 : decode cL_law 262 = .ok (.iadd, 1) := by decide +kernel
theorem dL_law_263 : decode cL_law 263 = .ok (.iaload, 1) := by decide +kernel
theorem dL_law_264 : decode cL_law 264 = .ok (.aload_n 0, 1) := by decide +kernel
theorem dL_law_265 : decode cL_law 265 = .ok (.iload 4, 2) := by decide +kernel
theorem dL_law_267 : decode cL_law 267 = .ok (.iconst 2, 1) := by decide +kernel
theorem dL_law_268 : decode cL_law 268 = .ok (.iadd, 1) := by decide +kernel
theorem dL_law_269 : decode cL_law 269 = .ok (.iaload, 1) := by decide +kernel
theorem dL_law_270 : decode cL_law 270 = .ok (.aload_n 0, 1) := by decide +kernel
theorem dL_law_271 : decode cL_law 271 = .ok (.iload 4, 2) := by decide +kernel
theorem dL_law_273 : decode cL_law 273 = .ok (.iconst 3, 1) := by decide +kernel
theorem dL_law_274 : decode cL_law 274 = .ok (.iadd, 1) := by decide +kernel
theorem dL_law_275 : decode cL_law 275 = .ok (.iaload, 1) := by decide +kernel
theorem dL_law_276 : decode cL_law 276 = .ok (.ifCond .eq 7, 3) := by decide +kernel
theorem dL_law_279 : decode cL_law 279 = .ok (.iconst 1, 1) := by decide +kernel
theorem dL_law_280 : decode cL_law 280 = .ok (.goto 4, 3) := by decide +kernel
theorem dL_law_283 : decode cL_law 283 = .ok (.iconst 0, 1) := by decide +kernel
theorem dL_law_284 : decode cL_law 284 = .ok (.invokevirtual 77, 3) := by decide +kernel
theorem dL_law_287 : decode cL_law 287 = .ok (.istore 6, 2) := by decide +kernel
theorem dL_law_289 : decode cL_law 289 = .ok (.aload_n 2, 1) := by decide +kernel
theorem dL_law_290 : decode cL_law 290 = .ok (.invokevirtual 67, 3) := by decide +kernel
theorem dL_law_293 : decode cL_law 293 = .ok (.iload 5, 2) := by decide +kernel
theorem dL_law_295 : decode cL_law 295 = .ok (.if_icmp .eq 5, 3) := by decide +kernel
theorem dL_law_298 : decode cL_law 298 = .ok (.iconst 0, 1) := by decide +kernel
theorem dL_law_299 : decode cL_law 299 = .ok (.ireturn, 1) := by decide +kernel
theorem dL_law_300 : decode cL_law 300 = .ok (.iload 5, 2) := by decide +kernel
theorem dL_law_302 : decode cL_law 302 = .ok (.ifCond .ne 15, 3) := by decide +kernel
theorem dL_law_305 : decode cL_law 305 = .ok (.aload_n 3, 1) := by decide +kernel
theorem dL_law_306 : decode cL_law 306 = .ok (.iconst 0, 1) := by decide +kernel
theorem dL_law_307 : decode cL_law 307 = .ok (.laload, 1) := by decide +kernel
theorem dL_law_308 : decode cL_law 308 = .ok (.iload 6, 2) := by decide +kernel
theorem dL_law_310 : decode cL_law 310 = .ok (.i2l, 1) := by decide +kernel
theorem dL_law_311 : decode cL_law 311 = .ok (.lcmp, 1) := by decide +kernel
theorem dL_law_312 : decode cL_law 312 = .ok (.ifCond .eq 5, 3) := by decide +kernel
theorem dL_law_315 : decode cL_law 315 = .ok (.iconst 0, 1) := by decide +kernel
theorem dL_law_316 : decode cL_law 316 = .ok (.ireturn, 1) := by decide +kernel
theorem dL_law_317 : decode cL_law 317 = .ok (.goto 702, 3) := by decide +kernel
theorem dL_law_320 : decode cL_law 320 = .ok (.aload_n 1, 1) := by decide +kernel
theorem dL_law_321 : decode cL_law 321 = .ok (.aload_n 0, 1) := by decide +kernel
theorem dL_law_322 : decode cL_law 322 = .ok (.iload 4, 2) := by decide +kernel
theorem dL_law_324 : decode cL_law 324 = .ok (.iconst 1, 1) := by decide +kernel
theorem dL_law_325 : decode cL_law 325 = .ok (.iadd, 1) := by decide +kernel
theorem dL_law_326 : decode cL_law 326 = .ok (.iaload, 1) := by decide +kernel
theorem dL_law_327 : decode cL_law 327 = .ok (.aload_n 0, 1) := by decide +kernel
theorem dL_law_328 : decode cL_law 328 = .ok (.iload 4, 2) := by decide +kernel
theorem dL_law_330 : decode cL_law 330 = .ok (.iconst 2, 1) := by decide +kernel
theorem dL_law_331 : decode cL_law 331 = .ok (.iadd, 1) := by decide +kernel
theorem dL_law_332 : decode cL_law 332 = .ok (.iaload, 1) := by decide +kernel
theorem dL_law_333 : decode cL_law 333 = .ok (.aload_n 3, 1) := by decide +kernel
theorem dL_law_334 : decode cL_law 334 = .ok (.invokestatic 78, 3) := by decide +kernel
theorem dL_law_337 : decode cL_law 337 = .ok (.istore 5, 2) := by decide +kernel
theorem dL_law_339 : decode cL_law 339 = .ok (.aload_n 2, 1) := by decide +kernel
theorem dL_law_340 : decode cL_law 340 = .ok (.aload_n 0, 1) := by decide +kernel
theorem dL_law_341 : decode cL_law 341 = .ok (.iload 4, 2) := by decide +kernel
theorem dL_law_343 : decode cL_law 343 = .ok (.iconst 1, 1) := by decide +kernel
theorem dL_law_344 : decode cL_law 344 = .ok (.iadd, 1) := by decide +kernel
theorem dL_law_345 : decode cL_law 345 = .ok (.iaload, 1) := by decide +kernel
theorem dL_law_346 : decode cL_law 346 = .ok (.aload_n 0, 1) := by decide +kernel
theorem dL_law_347 : decode cL_law 347 = .ok (.iload 4, 2) := by decide +kernel
theorem dL_law_349 : decode cL_law 349 = .ok (.iconst 2, 1) := by decide +kernel
theorem dL_law_350 : decode cL_law 350 = .ok (.iadd, 1) := by decide +kernel
theorem dL_law_351 : decode cL_law 351 = .ok (.iaload, 1) := by decide +kernel
theorem dL_law_352 : decode cL_law 352 = .ok (.invokevirtual 81, 3) := by decide +kernel
theorem dL_law_355 : decode cL_law 355 = .ok (.istore 6, 2) := by decide +kernel
theorem dL_law_357 : decode cL_law 357 = .ok (.aload_n 2, 1) := by decide +kernel
theorem dL_law_358 : decode cL_law 358 = .ok (.invokevirtual 67, 3) := by decide +kernel
theorem dL_law_361 : decode cL_law 361 = .ok (.iload 5, 2) := by decide +kernel
theorem dL_law_363 : decode cL_law 363 = .ok (.if_icmp .eq 5, 3) := by decide +kernel
theorem dL_law_366 : decode cL_law 366 = .ok (.iconst 0, 1) := by decide +kernel
theorem dL_law_367 : decode cL_law 367 = .ok (.ireturn, 1) := by decide +kernel
theorem dL_law_368 : decode cL_law 368 = .ok (.iload 5, 2) := by decide +kernel
theorem dL_law_370 : decode cL_law 370 = .ok (.ifCond .ne 15, 3) := by decide +kernel
theorem dL_law_373 : decode cL_law 373 = .ok (.aload_n 3, 1) := by decide +kernel
theorem dL_law_374 : decode cL_law 374 = .ok (.iconst 0, 1) := by decide +kernel
theorem dL_law_375 : decode cL_law 375 = .ok (.laload, 1) := by decide +kernel
theorem dL_law_376 : decode cL_law 376 = .ok (.iload 6, 2) := by decide +kernel
theorem dL_law_378 : decode cL_law 378 = .ok (.i2l, 1) := by decide +kernel
theorem dL_law_379 : decode cL_law 379 = .ok (.lcmp, 1) := by decide +kernel
theorem dL_law_380 : decode cL_law 380 = .ok (.ifCond .eq 5, 3) := by decide +kernel
theorem dL_law_383 : decode cL_law 383 = .ok (.iconst 0, 1) := by decide +kernel
theorem dL_law_384 : decode cL_law 384 = .ok (.ireturn, 1) := by decide +kernel
theorem dL_law_385 : decode cL_law 385 = .ok (.goto 634, 3) := by decide +kernel
theorem dL_law_388 : decode cL_law 388 = .ok (.aload_n 1, 1) := by decide +kernel
theorem dL_law_389 : decode cL_law 389 = .ok (.aload_n 0, 1) := by decide +kernel
theorem dL_law_390 : decode cL_law 390 = .ok (.iload 4, 2) := by decide +kernel
theorem dL_law_392 : decode cL_law 392 = .ok (.iconst 1, 1) := by decide +kernel
theorem dL_law_393 : decode cL_law 393 = .ok (.iadd, 1) := by decide +kernel
theorem dL_law_394 : decode cL_law 394 = .ok (.iaload, 1) := by decide +kernel
theorem dL_law_395 : decode cL_law 395 = .ok (.aload_n 0, 1) := by decide +kernel
theorem dL_law_396 : decode cL_law 396 = .ok (.iload 4, 2) := by decide +kernel
theorem dL_law_398 : decode cL_law 398 = .ok (.iconst 2, 1) := by decide +kernel
theorem dL_law_399 : decode cL_law 399 = .ok (.iadd, 1) := by decide +kernel
theorem dL_law_400 : decode cL_law 400 = .ok (.iaload, 1) := by decide +kernel
theorem dL_law_401 : decode cL_law 401 = .ok (.aload_n 3, 1) := by decide +kernel
theorem dL_law_402 : decode cL_law 402 = .ok (.invokestatic 82, 3) := by decide +kernel
theorem dL_law_405 : decode cL_law 405 = .ok (.istore 5, 2) := by decide +kernel
theorem dL_law_407 : decode cL_law 407 = .ok (.aload_n 2, 1) := by decide +kernel
theorem dL_law_408 : decode cL_law 408 = .ok (.aload_n 0, 1) := by decide +kernel
theorem dL_law_409 : decode cL_law 409 = .ok (.iload 4, 2) := by decide +kernel
theorem dL_law_411 : decode cL_law 411 = .ok (.iconst 1, 1) := by decide +kernel
theorem dL_law_412 : decode cL_law 412 = .ok (.iadd, 1) := by decide +kernel
theorem dL_law_413 : decode cL_law 413 = .ok (.iaload, 1) := by decide +kernel
theorem dL_law_414 : decode cL_law 414 = .ok (.aload_n 0, 1) := by decide +kernel
theorem dL_law_415 : decode cL_law 415 = .ok (.iload 4, 2) := by decide +kernel
theorem dL_law_417 : decode cL_law 417 = .ok (.iconst 2, 1) := by decide +kernel
theorem dL_law_418 : decode cL_law 418 = .ok (.iadd, 1) := by decide +kernel
theorem dL_law_419 : decode cL_law 419 = .ok (.iaload, 1) := by decide +kernel
theorem dL_law_420 : decode cL_law 420 = .ok (.invokevirtual 84, 3) := by decide +kernel
theorem dL_law_423 : decode cL_law 423 = .ok (.istore 6, 2) := by decide +kernel
theorem dL_law_425 : decode cL_law 425 = .ok (.aload_n 2, 1) := by decide +kernel
theorem dL_law_426 : decode cL_law 426 = .ok (.invokevirtual 67, 3) := by decide +kernel
theorem dL_law_429 : decode cL_law 429 = .ok (.iload 5, 2) := by decide +kernel
theorem dL_law_431 : decode cL_law 431 = .ok (.if_icmp .eq 5, 3) := by decide +kernel
theorem dL_law_434 : decode cL_law 434 = .ok (.iconst 0, 1) := by decide +kernel
theorem dL_law_435 : decode cL_law 435 = .ok (.ireturn, 1) := by decide +kernel
theorem dL_law_436 : decode cL_law 436 = .ok (.iload 5, 2) := by decide +kernel
theorem dL_law_438 : decode cL_law 438 = .ok (.ifCond .ne 22, 3) := by decide +kernel
theorem dL_law_441 : decode cL_law 441 = .ok (.aload_n 3, 1) := by decide +kernel
theorem dL_law_442 : decode cL_law 442 = .ok (.iconst 0, 1) := by decide +kernel
theorem dL_law_443 : decode cL_law 443 = .ok (.laload, 1) := by decide +kernel
theorem dL_law_444 : decode cL_law 444 = .ok (.iload 6, 2) := by decide +kernel
theorem dL_law_446 : decode cL_law 446 = .ok (.ifCond .eq 7, 3) := by decide +kernel
theorem dL_law_449 : decode cL_law 449 = .ok (.lconst 1, 1) := by decide +kernel
theorem dL_law_450 : decode cL_law 450 = .ok (.goto 4, 3) := by decide +kernel
theorem dL_law_453 : decode cL_law 453 = .ok (.lconst 0, 1) := by decide +kernel
theorem dL_law_454 : decode cL_law 454 = .ok (.lcmp, 1) := by decide +kernel
theorem dL_law_455 : decode cL_law 455 = .ok (.ifCond .eq 5, 3) := by decide +kernel
theorem dL_law_458 : decode cL_law 458 = .ok (.iconst 0, 1) := by decide +kernel
theorem dL_law_459 : decode cL_law 459 = .ok (.ireturn, 1) := by decide +kernel
theorem dL_law_460 : decode cL_law 460 = .ok (.goto 559, 3) := by decide +kernel
theorem dL_law_463 : decode cL_law 463 = .ok (.aload_n 1, 1) := by decide +kernel
theorem dL_law_464 : decode cL_law 464 = .ok (.aload_n 0, 1) := by decide +kernel
theorem dL_law_465 : decode cL_law 465 = .ok (.iload 4, 2) := by decide +kernel
theorem dL_law_467 : decode cL_law 467 = .ok (.iconst 1, 1) := by decide +kernel
theorem dL_law_468 : decode cL_law 468 = .ok (.iadd, 1) := by decide +kernel
theorem dL_law_469 : decode cL_law 469 = .ok (.iaload, 1) := by decide +kernel
theorem dL_law_470 : decode cL_law 470 = .ok (.aload_n 0, 1) := by decide +kernel
theorem dL_law_471 : decode cL_law 471 = .ok (.iload 4, 2) := by decide +kernel
theorem dL_law_473 : decode cL_law 473 = .ok (.iconst 2, 1) := by decide +kernel
theorem dL_law_474 : decode cL_law 474 = .ok (.iadd, 1) := by decide +kernel
theorem dL_law_475 : decode cL_law 475 = .ok (.iaload, 1) := by decide +kernel
theorem dL_law_476 : decode cL_law 476 = .ok (.aload_n 3, 1) := by decide +kernel
theorem dL_law_477 : decode cL_law 477 = .ok (.invokestatic 85, 3) := by decide +kernel
theorem dL_law_480 : decode cL_law 480 = .ok (.istore 5, 2) := by decide +kernel
theorem dL_law_482 : decode cL_law 482 = .ok (.aload_n 2, 1) := by decide +kernel
theorem dL_law_483 : decode cL_law 483 = .ok (.aload_n 0, 1) := by decide +kernel
theorem dL_law_484 : decode cL_law 484 = .ok (.iload 4, 2) := by decide +kernel
theorem dL_law_486 : decode cL_law 486 = .ok (.iconst 1, 1) := by decide +kernel
theorem dL_law_487 : decode cL_law 487 = .ok (.iadd, 1) := by decide +kernel
theorem dL_law_488 : decode cL_law 488 = .ok (.iaload, 1) := by decide +kernel
theorem dL_law_489 : decode cL_law 489 = .ok (.aload_n 0, 1) := by decide +kernel
theorem dL_law_490 : decode cL_law 490 = .ok (.iload 4, 2) := by decide +kernel
theorem dL_law_492 : decode cL_law 492 = .ok (.iconst 2, 1) := by decide +kernel
theorem dL_law_493 : decode cL_law 493 = .ok (.iadd, 1) := by decide +kernel
theorem dL_law_494 : decode cL_law 494 = .ok (.iaload, 1) := by decide +kernel
theorem dL_law_495 : decode cL_law 495 = .ok (.invokevirtual 87, 3) := by decide +kernel
theorem dL_law_498 : decode cL_law 498 = .ok (.istore 6, 2) := by decide +kernel
theorem dL_law_500 : decode cL_law 500 = .ok (.aload_n 2, 1) := by decide +kernel
theorem dL_law_501 : decode cL_law 501 = .ok (.invokevirtual 67, 3) := by decide +kernel
theorem dL_law_504 : decode cL_law 504 = .ok (.iload 5, 2) := by decide +kernel
theorem dL_law_506 : decode cL_law 506 = .ok (.if_icmp .eq 5, 3) := by decide +kernel
theorem dL_law_509 : decode cL_law 509 = .ok (.iconst 0, 1) := by decide +kernel
theorem dL_law_510 : decode cL_law 510 = .ok (.ireturn, 1) := by decide +kernel
theorem dL_law_511 : decode cL_law 511 = .ok (.iload 5, 2) := by decide +kernel
theorem dL_law_513 : decode cL_law 513 = .ok (.ifCond .ne 22, 3) := by decide +kernel
theorem dL_law_516 : decode cL_law 516 = .ok (.aload_n 3, 1) := by decide +kernel
theorem dL_law_517 : decode cL_law 517 = .ok (.iconst 0, 1) := by decide +kernel
theorem dL_law_518 : decode cL_law 518 = .ok (.laload, 1) := by decide +kernel
theorem dL_law_519 : decode cL_law 519 = .ok (.iload 6, 2) := by decide +kernel
theorem dL_law_521 : decode cL_law 521 = .ok (.ifCond .eq 7, 3) := by decide +kernel
theorem dL_law_524 : decode cL_law 524 = .ok (.lconst 1, 1) := by decide +kernel
theorem dL_law_525 : decode cL_law 525 = .ok (.goto 4, 3) := by decide +kernel
theorem dL_law_528 : decode cL_law 528 = .ok (.lconst 0, 1) := by decide +kernel
theorem dL_law_529 : decode cL_law 529 = .ok (.lcmp, 1) := by decide +kernel
theorem dL_law_530 : decode cL_law 530 = .ok (.ifCond .eq 5, 3) := by decide +kernel
theorem dL_law_533 : decode cL_law 533 = .ok (.iconst 0, 1) := by decide +kernel
theorem dL_law_534 : decode cL_law 534 = .ok (.ireturn, 1) := by decide +kernel
theorem dL_law_535 : decode cL_law 535 = .ok (.goto 484, 3) := by decide +kernel
theorem dL_law_538 : decode cL_law 538 = .ok (.aload_n 1, 1) := by decide +kernel
theorem dL_law_539 : decode cL_law 539 = .ok (.aload_n 0, 1) := by decide +kernel
theorem dL_law_540 : decode cL_law 540 = .ok (.iload 4, 2) := by decide +kernel
theorem dL_law_542 : decode cL_law 542 = .ok (.iconst 1, 1) := by decide +kernel
theorem dL_law_543 : decode cL_law 543 = .ok (.iadd, 1) := by decide +kernel
theorem dL_law_544 : decode cL_law 544 = .ok (.iaload, 1) := by decide +kernel
theorem dL_law_545 : decode cL_law 545 = .ok (.aload_n 3, 1) := by decide +kernel
theorem dL_law_546 : decode cL_law 546 = .ok (.invokestatic 88, 3) := by decide +kernel
theorem dL_law_549 : decode cL_law 549 = .ok (.istore 5, 2) := by decide +kernel
theorem dL_law_551 : decode cL_law 551 = .ok (.aload_n 2, 1) := by decide +kernel
theorem dL_law_552 : decode cL_law 552 = .ok (.aload_n 0, 1) := by decide +kernel
theorem dL_law_553 : decode cL_law 553 = .ok (.iload 4, 2) := by decide +kernel
theorem dL_law_555 : decode cL_law 555 = .ok (.iconst 1, 1) := by decide +kernel
theorem dL_law_556 : decode cL_law 556 = .ok (.iadd, 1) := by decide +kernel
theorem dL_law_557 : decode cL_law 557 = .ok (.iaload, 1) := by decide +kernel
theorem dL_law_558 : decode cL_law 558 = .ok (.invokevirtual 90, 3) := by decide +kernel
theorem dL_law_561 : decode cL_law 561 = .ok (.istore 6, 2) := by decide +kernel
theorem dL_law_563 : decode cL_law 563 = .ok (.aload_n 2, 1) := by decide +kernel
theorem dL_law_564 : decode cL_law 564 = .ok (.invokevirtual 67, 3) := by decide +kernel
theorem dL_law_567 : decode cL_law 567 = .ok (.iload 5, 2) := by decide +kernel
theorem dL_law_569 : decode cL_law 569 = .ok (.if_icmp .eq 5, 3) := by decide +kernel
theorem dL_law_572 : decode cL_law 572 = .ok (.iconst 0, 1) := by decide +kernel
theorem dL_law_573 : decode cL_law 573 = .ok (.ireturn, 1) := by decide +kernel
theorem dL_law_574 : decode cL_law 574 = .ok (.iload 5, 2) := by decide +kernel
theorem dL_law_576 : decode cL_law 576 = .ok (.ifCond .ne 15, 3) := by decide +kernel
theorem dL_law_579 : decode cL_law 579 = .ok (.aload_n 3, 1) := by decide +kernel
theorem dL_law_580 : decode cL_law 580 = .ok (.iconst 0, 1) := by decide +kernel
theorem dL_law_581 : decode cL_law 581 = .ok (.laload, 1) := by decide +kernel
theorem dL_law_582 : decode cL_law 582 = .ok (.iload 6, 2) := by decide +kernel
theorem dL_law_584 : decode cL_law 584 = .ok (.i2l, 1) := by decide +kernel
theorem dL_law_585 : decode cL_law 585 = .ok (.lcmp, 1) := by decide +kernel
theorem dL_law_586 : decode cL_law 586 = .ok (.ifCond .eq 5, 3) := by decide +kernel
theorem dL_law_589 : decode cL_law 589 = .ok (.iconst 0, 1) := by decide +kernel
theorem dL_law_590 : decode cL_law 590 = .ok (.ireturn, 1) := by decide +kernel
theorem dL_law_591 : decode cL_law 591 = .ok (.goto 428, 3) := by decide +kernel
theorem dL_law_594 : decode cL_law 594 = .ok (.aload_n 1, 1) := by decide +kernel
theorem dL_law_595 : decode cL_law 595 = .ok (.aload_n 0, 1) := by decide +kernel
theorem dL_law_596 : decode cL_law 596 = .ok (.iload 4, 2) := by decide +kernel
theorem dL_law_598 : decode cL_law 598 = .ok (.iconst 1, 1) := by decide +kernel
theorem dL_law_599 : decode cL_law 599 = .ok (.iadd, 1) := by decide +kernel
theorem dL_law_600 : decode cL_law 600 = .ok (.iaload, 1) := by decide +kernel
theorem dL_law_601 : decode cL_law 601 = .ok (.aload_n 3, 1) := by decide +kernel
theorem dL_law_602 : decode cL_law 602 = .ok (.invokestatic 91, 3) := by decide +kernel
theorem dL_law_605 : decode cL_law 605 = .ok (.istore 5, 2) := by decide +kernel
theorem dL_law_607 : decode cL_law 607 = .ok (.aload_n 2, 1) := by decide +kernel
theorem dL_law_608 : decode cL_law 608 = .ok (.aload_n 0, 1) := by decide +kernel
theorem dL_law_609 : decode cL_law 609 = .ok (.iload 4, 2) := by decide +kernel
theorem dL_law_611 : decode cL_law 611 = .ok (.iconst 1, 1) := by decide +kernel
theorem dL_law_612 : decode cL_law 612 = .ok (.iadd, 1) := by decide +kernel
theorem dL_law_613 : decode cL_law 613 = .ok (.iaload, 1) := by decide +kernel
theorem dL_law_614 : decode cL_law 614 = .ok (.invokevirtual 93, 3) := by decide +kernel
theorem dL_law_617 : decode cL_law 617 = .ok (.istore 6, 2) := by decide +kernel
theorem dL_law_619 : decode cL_law 619 = .ok (.aload_n 2, 1) := by decide +kernel
theorem dL_law_620 : decode cL_law 620 = .ok (.invokevirtual 67, 3) := by decide +kernel
theorem dL_law_623 : decode cL_law 623 = .ok (.iload 5, 2) := by decide +kernel
theorem dL_law_625 : decode cL_law 625 = .ok (.if_icmp .eq 5, 3) := by decide +kernel
theorem dL_law_628 : decode cL_law 628 = .ok (.iconst 0, 1) := by decide +kernel
theorem dL_law_629 : decode cL_law 629 = .ok (.ireturn, 1) := by decide +kernel
theorem dL_law_630 : decode cL_law 630 = .ok (.iload 5, 2) := by decide +kernel
theorem dL_law_632 : decode cL_law 632 = .ok (.ifCond .ne 15, 3) := by decide +kernel
theorem dL_law_635 : decode cL_law 635 = .ok (.aload_n 3, 1) := by decide +kernel
theorem dL_law_636 : decode cL_law 636 = .ok (.iconst 0, 1) := by decide +kernel
theorem dL_law_637 : decode cL_law 637 = .ok (.laload, 1) := by decide +kernel
theorem dL_law_638 : decode cL_law 638 = .ok (.iload 6, 2) := by decide +kernel
theorem dL_law_640 : decode cL_law 640 = .ok (.i2l, 1) := by decide +kernel
theorem dL_law_641 : decode cL_law 641 = .ok (.lcmp, 1) := by decide +kernel
theorem dL_law_642 : decode cL_law 642 = .ok (.ifCond .eq 5, 3) := by decide +kernel
theorem dL_law_645 : decode cL_law 645 = .ok (.iconst 0, 1) := by decide +kernel
theorem dL_law_646 : decode cL_law 646 = .ok (.ireturn, 1) := by decide +kernel
theorem dL_law_647 : decode cL_law 647 = .ok (.goto 372, 3) := by decide +kernel
theorem dL_law_650 : decode cL_law 650 = .ok (.aload_n 1, 1) := by decide +kernel
theorem dL_law_651 : decode cL_law 651 = .ok (.aload_n 0, 1) := by decide +kernel
theorem dL_law_652 : decode cL_law 652 = .ok (.iload 4, 2) := by decide +kernel
theorem dL_law_654 : decode cL_law 654 = .ok (.iconst 1, 1) := by decide +kernel
theorem dL_law_655 : decode cL_law 655 = .ok (.iadd, 1) := by decide +kernel
theorem dL_law_656 : decode cL_law 656 = .ok (.iaload, 1) := by decide +kernel
theorem dL_law_657 : decode cL_law 657 = .ok (.aload_n 3, 1) := by decide +kernel
theorem dL_law_658 : decode cL_law 658 = .ok (.invokestatic 94, 3) := by decide +kernel
theorem dL_law_661 : decode cL_law 661 = .ok (.istore 5, 2) := by decide +kernel
theorem dL_law_663 : decode cL_law 663 = .ok (.aload_n 2, 1) := by decide +kernel
theorem dL_law_664 : decode cL_law 664 = .ok (.aload_n 0, 1) := by decide +kernel
theorem dL_law_665 : decode cL_law 665 = .ok (.iload 4, 2) := by decide +kernel
theorem dL_law_667 : decode cL_law 667 = .ok (.iconst 1, 1) := by decide +kernel
theorem dL_law_668 : decode cL_law 668 = .ok (.iadd, 1) := by decide +kernel
theorem dL_law_669 : decode cL_law 669 = .ok (.iaload, 1) := by decide +kernel
theorem dL_law_670 : decode cL_law 670 = .ok (.invokevirtual 96, 3) := by decide +kernel
theorem dL_law_673 : decode cL_law 673 = .ok (.istore 6, 2) := by decide +kernel
theorem dL_law_675 : decode cL_law 675 = .ok (.aload_n 2, 1) := by decide +kernel
theorem dL_law_676 : decode cL_law 676 = .ok (.invokevirtual 67, 3) := by decide +kernel
theorem dL_law_679 : decode cL_law 679 = .ok (.iload 5, 2) := by decide +kernel
theorem dL_law_681 : decode cL_law 681 = .ok (.if_icmp .eq 5, 3) := by decide +kernel
theorem dL_law_684 : decode cL_law 684 = .ok (.iconst 0, 1) := by decide +kernel
theorem dL_law_685 : decode cL_law 685 = .ok (.ireturn, 1) := by decide +kernel
theorem dL_law_686 : decode cL_law 686 = .ok (.iload 5, 2) := by decide +kernel
theorem dL_law_688 : decode cL_law 688 = .ok (.ifCond .ne 15, 3) := by decide +kernel
theorem dL_law_691 : decode cL_law 691 = .ok (.aload_n 3, 1) := by decide +kernel
theorem dL_law_692 : decode cL_law 692 = .ok (.iconst 0, 1) := by decide +kernel
theorem dL_law_693 : decode cL_law 693 = .ok (.laload, 1) := by decide +kernel
theorem dL_law_694 : decode cL_law 694 = .ok (.iload 6, 2) := by decide +kernel
theorem dL_law_696 : decode cL_law 696 = .ok (.i2l, 1) := by decide +kernel
theorem dL_law_697 : decode cL_law 697 = .ok (.lcmp, 1) := by decide +kernel
theorem dL_law_698 : decode cL_law 698 = .ok (.ifCond .eq 5, 3) := by decide +kernel
theorem dL_law_701 : decode cL_law 701 = .ok (.iconst 0, 1) := by decide +kernel
theorem dL_law_702 : decode cL_law 702 = .ok (.ireturn, 1) := by decide +kernel
theorem dL_law_703 : decode cL_law 703 = .ok (.goto 316, 3) := by decide +kernel
theorem dL_law_706 : decode cL_law 706 = .ok (.aload_n 1, 1) := by decide +kernel
theorem dL_law_707 : decode cL_law 707 = .ok (.aload_n 0, 1) := by decide +kernel
theorem dL_law_708 : decode cL_law 708 = .ok (.iload 4, 2) := by decide +kernel
theorem dL_law_710 : decode cL_law 710 = .ok (.iconst 1, 1) := by decide +kernel
theorem dL_law_711 : decode cL_law 711 = .ok (.iadd, 1) := by decide +kernel
theorem dL_law_712 : decode cL_law 712 = .ok (.iaload, 1) := by decide +kernel
theorem dL_law_713 : decode cL_law 713 = .ok (.aload_n 3, 1) := by decide +kernel
theorem dL_law_714 : decode cL_law 714 = .ok (.invokestatic 97, 3) := by decide +kernel
theorem dL_law_717 : decode cL_law 717 = .ok (.istore 5, 2) := by decide +kernel
theorem dL_law_719 : decode cL_law 719 = .ok (.aload_n 2, 1) := by decide +kernel
theorem dL_law_720 : decode cL_law 720 = .ok (.aload_n 0, 1) := by decide +kernel
theorem dL_law_721 : decode cL_law 721 = .ok (.iload 4, 2) := by decide +kernel
theorem dL_law_723 : decode cL_law 723 = .ok (.iconst 1, 1) := by decide +kernel
theorem dL_law_724 : decode cL_law 724 = .ok (.iadd, 1) := by decide +kernel
theorem dL_law_725 : decode cL_law 725 = .ok (.iaload, 1) := by decide +kernel
theorem dL_law_726 : decode cL_law 726 = .ok (.invokevirtual 99, 3) := by decide +kernel
theorem dL_law_729 : decode cL_law 729 = .ok (.istore 6, 2) := by decide +kernel
theorem dL_law_731 : decode cL_law 731 = .ok (.aload_n 2, 1) := by decide +kernel
theorem dL_law_732 : decode cL_law 732 = .ok (.invokevirtual 67, 3) := by decide +kernel
theorem dL_law_735 : decode cL_law 735 = .ok (.iload 5, 2) := by decide +kernel
theorem dL_law_737 : decode cL_law 737 = .ok (.if_icmp .eq 5, 3) := by decide +kernel
theorem dL_law_740 : decode cL_law 740 = .ok (.iconst 0, 1) := by decide +kernel
theorem dL_law_741 : decode cL_law 741 = .ok (.ireturn, 1) := by decide +kernel
theorem dL_law_742 : decode cL_law 742 = .ok (.iload 5, 2) := by decide +kernel
theorem dL_law_744 : decode cL_law 744 = .ok (.ifCond .ne 15, 3) := by decide +kernel
theorem dL_law_747 : decode cL_law 747 = .ok (.aload_n 3, 1) := by decide +kernel
theorem dL_law_748 : decode cL_law 748 = .ok (.iconst 0, 1) := by decide +kernel
theorem dL_law_749 : decode cL_law 749 = .ok (.laload, 1) := by decide +kernel
theorem dL_law_750 : decode cL_law 750 = .ok (.iload 6, 2) := by decide +kernel
theorem dL_law_752 : decode cL_law 752 = .ok (.i2l, 1) := by decide +kernel
theorem dL_law_753 : decode cL_law 753 = .ok (.lcmp, 1) := by decide +kernel
theorem dL_law_754 : decode cL_law 754 = .ok (.ifCond .eq 5, 3) := by decide +kernel
theorem dL_law_757 : decode cL_law 757 = .ok (.iconst 0, 1) := by decide +kernel
theorem dL_law_758 : decode cL_law 758 = .ok (.ireturn, 1) := by decide +kernel
theorem dL_law_759 : decode cL_law 759 = .ok (.goto 260, 3) := by decide +kernel
theorem dL_law_762 : decode cL_law 762 = .ok (.aload_n 1, 1) := by decide +kernel
theorem dL_law_763 : decode cL_law 763 = .ok (.invokevirtual 100, 3) := by decide +kernel
theorem dL_law_766 : decode cL_law 766 = .ok (.aload_n 2, 1) := by decide +kernel
theorem dL_law_767 : decode cL_law 767 = .ok (.invokevirtual 103, 3) := by decide +kernel
theorem dL_law_770 : decode cL_law 770 = .ok (.if_icmp .eq 249, 3) := by decide +kernel
theorem dL_law_773 : decode cL_law 773 = .ok (.iconst 0, 1) := by decide +kernel
theorem dL_law_774 : decode cL_law 774 = .ok (.ireturn, 1) := by decide +kernel
theorem dL_law_775 : decode cL_law 775 = .ok (.aload_n 1, 1) := by decide +kernel
theorem dL_law_776 : decode cL_law 776 = .ok (.invokevirtual 104, 3) := by decide +kernel
theorem dL_law_779 : decode cL_law 779 = .ok (.aload_n 2, 1) := by decide +kernel
theorem dL_law_780 : decode cL_law 780 = .ok (.invokevirtual 107, 3) := by decide +kernel
theorem dL_law_783 : decode cL_law 783 = .ok (.if_icmp .eq 236, 3) := by decide +kernel
theorem dL_law_786 : decode cL_law 786 = .ok (.iconst 0, 1) := by decide +kernel
theorem dL_law_787 : decode cL_law 787 = .ok (.ireturn, 1) := by decide +kernel
theorem dL_law_788 : decode cL_law 788 = .ok (.aload_n 1, 1) := by decide +kernel
theorem dL_law_789 : decode cL_law 789 = .ok (.invokevirtual 108, 3) := by decide +kernel
theorem dL_law_792 : decode cL_law 792 = .ok (.aload_n 2, 1) := by decide +kernel
theorem dL_law_793 : decode cL_law 793 = .ok (.invokevirtual 111, 3) := by decide +kernel
theorem dL_law_796 : decode cL_law 796 = .ok (.if_icmp .eq 223, 3) := by decide +kernel
theorem dL_law_799 : decode cL_law 799 = .ok (.iconst 0, 1) := by decide +kernel
theorem dL_law_800 : decode cL_law 800 = .ok (.ireturn, 1) := by decide +kernel
theorem dL_law_801 : decode cL_law 801 = .ok (.aload_n 1, 1) := by decide +kernel
theorem dL_law_802 : decode cL_law 802 = .ok (.invokevirtual 112, 3) := by decide +kernel
theorem dL_law_805 : decode cL_law 805 = .ok (.aload_n 2, 1) := by decide +kernel
theorem dL_law_806 : decode cL_law 806 = .ok (.invokevirtual 115, 3) := by decide +kernel
theorem dL_law_809 : decode cL_law 809 = .ok (.if_icmp .eq 210, 3) := by decide +kernel
theorem dL_law_812 : decode cL_law 812 = .ok (.iconst 0, 1) := by decide +kernel
theorem dL_law_813 : decode cL_law 813 = .ok (.ireturn, 1) := by decide +kernel
theorem dL_law_814 : decode cL_law 814 = .ok (.aload_n 1, 1) := by decide +kernel
theorem dL_law_815 : decode cL_law 815 = .ok (.aload_n 0, 1) := by decide +kernel
theorem dL_law_816 : decode cL_law 816 = .ok (.iload 4, 2) := by decide +kernel
theorem dL_law_818 : decode cL_law 818 = .ok (.iconst 1, 1) := by decide +kernel
theorem dL_law_819 : decode cL_law 819 = .ok (.iadd, 1) := by decide +kernel
theorem dL_law_820 : decode cL_law 820 = .ok (.iaload, 1) := by decide +kernel
theorem dL_law_821 : decode cL_law 821 = .ok (.aload_n 3, 1) := by decide +kernel
theorem dL_law_822 : decode cL_law 822 = .ok (.invokestatic 116, 3) := by decide +kernel
theorem dL_law_825 : decode cL_law 825 = .ok (.istore 5, 2) := by decide +kernel
theorem dL_law_827 : decode cL_law 827 = .ok (.aload_n 2, 1) := by decide +kernel
theorem dL_law_828 : decode cL_law 828 = .ok (.aload_n 0, 1) := by decide +kernel
theorem dL_law_829 : decode cL_law 829 = .ok (.iload 4, 2) := by decide +kernel
theorem dL_law_831 : decode cL_law 831 = .ok (.iconst 1, 1) := by decide +kernel
theorem dL_law_832 : decode cL_law 832 = .ok (.iadd, 1) := by decide +kernel
theorem dL_law_833 : decode cL_law 833 = .ok (.iaload, 1) := by decide +kernel
theorem dL_law_834 : decode cL_law 834 = .ok (.invokevirtual 118, 3) := by decide +kernel
theorem dL_law_837 : decode cL_law 837 = .ok (.istore 6, 2) := by decide +kernel
theorem dL_law_839 : decode cL_law 839 = .ok (.aload_n 2, 1) := by decide +kernel
theorem dL_law_840 : decode cL_law 840 = .ok (.invokevirtual 67, 3) := by decide +kernel
theorem dL_law_843 : decode cL_law 843 = .ok (.iload 5, 2) := by decide +kernel
theorem dL_law_845 : decode cL_law 845 = .ok (.if_icmp .eq 5, 3) := by decide +kernel
theorem dL_law_848 : decode cL_law 848 = .ok (.iconst 0, 1) := by decide +kernel
theorem dL_law_849 : decode cL_law 849 = .ok (.ireturn, 1) := by decide +kernel
theorem dL_law_850 : decode cL_law 850 = .ok (.iload 5, 2) := by decide +kernel
theorem dL_law_852 : decode cL_law 852 = .ok (.ifCond .ne 15, 3) := by decide +kernel
theorem dL_law_855 : decode cL_law 855 = .ok (.aload_n 3, 1) := by decide +kernel
theorem dL_law_856 : decode cL_law 856 = .ok (.iconst 0, 1) := by decide +kernel
theorem dL_law_857 : decode cL_law 857 = .ok (.laload, 1) := by decide +kernel
theorem dL_law_858 : decode cL_law 858 = .ok (.iload 6, 2) := by decide +kernel
theorem dL_law_860 : decode cL_law 860 = .ok (.i2l, 1) := by decide +kernel
theorem dL_law_861 : decode cL_law 861 = .ok (.lcmp, 1) := by decide +kernel
theorem dL_law_862 : decode cL_law 862 = .ok (.ifCond .eq 5, 3) := by decide +kernel
theorem dL_law_865 : decode cL_law 865 = .ok (.iconst 0, 1) := by decide +kernel
theorem dL_law_866 : decode cL_law 866 = .ok (.ireturn, 1) := by decide +kernel
theorem dL_law_867 : decode cL_law 867 = .ok (.goto 152, 3) := by decide +kernel
theorem dL_law_870 : decode cL_law 870 = .ok (.aload_n 1, 1) := by decide +kernel
theorem dL_law_871 : decode cL_law 871 = .ok (.aload_n 0, 1) := by decide +kernel
theorem dL_law_872 : decode cL_law 872 = .ok (.iload 4, 2) := by decide +kernel
theorem dL_law_874 : decode cL_law 874 = .ok (.iconst 1, 1) := by decide +kernel
theorem dL_law_875 : decode cL_law 875 = .ok (.iadd, 1) := by decide +kernel
theorem dL_law_876 : decode cL_law 876 = .ok (.iaload, 1) := by decide +kernel
theorem dL_law_877 : decode cL_law 877 = .ok (.aload_n 3, 1) := by decide +kernel
theorem dL_law_878 : decode cL_law 878 = .ok (.invokestatic 119, 3) := by decide +kernel
theorem dL_law_881 : decode cL_law 881 = .ok (.istore 5, 2) := by decide +kernel
theorem dL_law_883 : decode cL_law 883 = .ok (.aload_n 2, 1) := by decide +kernel
theorem dL_law_884 : decode cL_law 884 = .ok (.aload_n 0, 1) := by decide +kernel
theorem dL_law_885 : decode cL_law 885 = .ok (.iload 4, 2) := by decide +kernel
theorem dL_law_887 : decode cL_law 887 = .ok (.iconst 1, 1) := by decide +kernel
theorem dL_law_888 : decode cL_law 888 = .ok (.iadd, 1) := by decide +kernel
theorem dL_law_889 : decode cL_law 889 = .ok (.iaload, 1) := by decide +kernel
theorem dL_law_890 : decode cL_law 890 = .ok (.invokevirtual 121, 3) := by decide +kernel
theorem dL_law_893 : decode cL_law 893 = .ok (.istore 6, 2) := by decide +kernel
theorem dL_law_895 : decode cL_law 895 = .ok (.aload_n 2, 1) := by decide +kernel
theorem dL_law_896 : decode cL_law 896 = .ok (.invokevirtual 67, 3) := by decide +kernel
theorem dL_law_899 : decode cL_law 899 = .ok (.iload 5, 2) := by decide +kernel
theorem dL_law_901 : decode cL_law 901 = .ok (.if_icmp .eq 5, 3) := by decide +kernel
theorem dL_law_904 : decode cL_law 904 = .ok (.iconst 0, 1) := by decide +kernel
theorem dL_law_905 : decode cL_law 905 = .ok (.ireturn, 1) := by decide +kernel
theorem dL_law_906 : decode cL_law 906 = .ok (.iload 5, 2) := by decide +kernel
theorem dL_law_908 : decode cL_law 908 = .ok (.ifCond .ne 15, 3) := by decide +kernel
theorem dL_law_911 : decode cL_law 911 = .ok (.aload_n 3, 1) := by decide +kernel
theorem dL_law_912 : decode cL_law 912 = .ok (.iconst 0, 1) := by decide +kernel
theorem dL_law_913 : decode cL_law 913 = .ok (.laload, 1) := by decide +kernel
theorem dL_law_914 : decode cL_law 914 = .ok (.iload 6, 2) := by decide +kernel
theorem dL_law_916 : decode cL_law 916 = .ok (.i2l, 1) := by decide +kernel
theorem dL_law_917 : decode cL_law 917 = .ok (.lcmp, 1) := by decide +kernel
theorem dL_law_918 : decode cL_law 918 = .ok (.ifCond .eq 5, 3) := by decide +kernel
theorem dL_law_921 : decode cL_law 921 = .ok (.iconst 0, 1) := by decide +kernel
theorem dL_law_922 : decode cL_law 922 = .ok (.ireturn, 1) := by decide +kernel
theorem dL_law_923 : decode cL_law 923 = .ok (.goto 96, 3) := by decide +kernel
theorem dL_law_926 : decode cL_law 926 = .ok (.aload_n 1, 1) := by decide +kernel
theorem dL_law_927 : decode cL_law 927 = .ok (.aload_n 0, 1) := by decide +kernel
theorem dL_law_928 : decode cL_law 928 = .ok (.iload 4, 2) := by decide +kernel
theorem dL_law_930 : decode cL_law 930 = .ok (.iconst 1, 1) := by decide +kernel
theorem dL_law_931 : decode cL_law 931 = .ok (.iadd, 1) := by decide +kernel
theorem dL_law_932 : decode cL_law 932 = .ok (.iaload, 1) := by decide +kernel
theorem dL_law_933 : decode cL_law 933 = .ok (.invokevirtual 122, 3) := by decide +kernel
theorem dL_law_936 : decode cL_law 936 = .ok (.aload_n 2, 1) := by decide +kernel
theorem dL_law_937 : decode cL_law 937 = .ok (.aload_n 0, 1) := by decide +kernel
theorem dL_law_938 : decode cL_law 938 = .ok (.iload 4, 2) := by decide +kernel
theorem dL_law_940 : decode cL_law 940 = .ok (.iconst 1, 1) := by decide +kernel
theorem dL_law_941 : decode cL_law 941 = .ok (.iadd, 1) := by decide +kernel
theorem dL_law_942 : decode cL_law 942 = .ok (.iaload, 1) := by decide +kernel
theorem dL_law_943 : decode cL_law 943 = .ok (.invokevirtual 125, 3) := by decide +kernel
theorem dL_law_946 : decode cL_law 946 = .ok (.if_icmp .eq 73, 3) := by decide +kernel
theorem dL_law_949 : decode cL_law 949 = .ok (.iconst 0, 1) := by decide +kernel
theorem dL_law_950 : decode cL_law 950 = .ok (.ireturn, 1) := by decide +kernel
theorem dL_law_951 : decode cL_law 951 = .ok (.aload_n 1, 1) := by decide +kernel
theorem dL_law_952 : decode cL_law 952 = .ok (.aload_n 0, 1) := by decide +kernel
theorem dL_law_953 : decode cL_law 953 = .ok (.iload 4, 2) := by decide +kernel
theorem dL_law_955 : decode cL_law 955 = .ok (.iconst 1, 1) := by decide +kernel
theorem dL_law_956 : decode cL_law 956 = .ok (.iadd, 1) := by decide +kernel
theorem dL_law_957 : decode cL_law 957 = .ok (.iaload, 1) := by decide +kernel
theorem dL_law_958 : decode cL_law 958 = .ok (.aload_n 0, 1) := by decide +kernel
theorem dL_law_959 : decode cL_law 959 = .ok (.iload 4, 2) := by decide +kernel
theorem dL_law_961 : decode cL_law 961 = .ok (.iconst 2, 1) := by decide +kernel
theorem dL_law_962 : decode cL_law 962 = .ok (.iadd, 1) := by decide +kernel
theorem dL_law_963 : decode cL_law 963 = .ok (.iaload, 1) := by decide +kernel
theorem dL_law_964 : decode cL_law 964 = .ok (.aload_n 3, 1) := by decide +kernel
theorem dL_law_965 : decode cL_law 965 = .ok (.invokestatic 126, 3) := by decide +kernel
theorem dL_law_968 : decode cL_law 968 = .ok (.istore 5, 2) := by decide +kernel
theorem dL_law_970 : decode cL_law 970 = .ok (.aload_n 2, 1) := by decide +kernel
theorem dL_law_971 : decode cL_law 971 = .ok (.aload_n 0, 1) := by decide +kernel
theorem dL_law_972 : decode cL_law 972 = .ok (.iload 4, 2) := by decide +kernel
theorem dL_law_974 : decode cL_law 974 = .ok (.iconst 1, 1) := by decide +kernel
theorem dL_law_975 : decode cL_law 975 = .ok (.iadd, 1) := by decide +kernel
theorem dL_law_976 : decode cL_law 976 = .ok (.iaload, 1) := by decide +kernel
theorem dL_law_977 : decode cL_law 977 = .ok (.aload_n 0, 1) := by decide +kernel
theorem dL_law_978 : decode cL_law 978 = .ok (.iload 4, 2) := by decide +kernel
theorem dL_law_980 : decode cL_law 980 = .ok (.iconst 2, 1) := by decide +kernel
theorem dL_law_981 : decode cL_law 981 = .ok (.iadd, 1) := by decide +kernel
theorem dL_law_982 : decode cL_law 982 = .ok (.iaload, 1) := by decide +kernel
theorem dL_law_983 : decode cL_law 983 = .ok (.invokevirtual 128, 3) := by decide +kernel
theorem dL_law_986 : decode cL_law 986 = .ok (.istore 6, 2) := by decide +kernel
theorem dL_law_988 : decode cL_law 988 = .ok (.aload_n 2, 1) := by decide +kernel
theorem dL_law_989 : decode cL_law 989 = .ok (.invokevirtual 67, 3) := by decide +kernel
theorem dL_law_992 : decode cL_law 992 = .ok (.iload 5, 2) := by decide +kernel
theorem dL_law_994 : decode cL_law 994 = .ok (.if_icmp .eq 5, 3) := by decide +kernel
theorem dL_law_997 : decode cL_law 997 = .ok (.iconst 0, 1) := by decide +kernel
theorem dL_law_998 : decode cL_law 998 = .ok (.ireturn, 1) := by decide +kernel
theorem dL_law_999 : decode cL_law 999 = .ok (.iload 5, 2) := by decide +kernel
theorem dL_law_1001 : decode cL_law 1001 = .ok (.ifCond .ne 15, 3) := by decide +kernel
theorem dL_law_1004 : decode cL_law 1004 = .ok (.aload_n 3, 1) := by decide +kernel
theorem dL_law_1005 : decode cL_law 1005 = .ok (.iconst 0, 1) := by decide +kernel
theorem dL_law_1006 : decode cL_law 1006 = .ok (.laload, 1) := by decide +kernel
theorem dL_law_1007 : decode cL_law 1007 = .ok (.iload 6, 2) := by decide +kernel
theorem dL_law_1009 : decode cL_law 1009 = .ok (.i2l, 1) := by decide +kernel
theorem dL_law_1010 : decode cL_law 1010 = .ok (.lcmp, 1) := by decide +kernel
theorem dL_law_1011 : decode cL_law 1011 = .ok (.ifCond .eq 5, 3) := by decide +kernel
theorem dL_law_1014 : decode cL_law 1014 = .ok (.iconst 0, 1) := by decide +kernel
theorem dL_law_1015 : decode cL_law 1015 = .ok (.ireturn, 1) := by decide +kernel
theorem dL_law_1016 : decode cL_law 1016 = .ok (.goto 3, 3) := by decide +kernel
theorem dL_law_1019 : decode cL_law 1019 = .ok (.iinc 4 4, 3) := by decide +kernel
theorem dL_law_1022 : decode cL_law 1022 = .ok (.goto (-999), 3) := by decide +kernel
theorem dL_law_1025 : decode cL_law 1025 = .ok (.iconst 1, 1) := by decide +kernel
theorem dL_law_1026 : decode cL_law 1026 = .ok (.ireturn, 1) := by decide +kernel
end
section
abbrev vwCl : List vw_C := [(RX0, TX0, 3), (RX1, TX1, 11), (RX2, TX2, 15), (RX3, TX3, 27)]
end
section
/-! the judgement of a walk over a world that is pure data, and a rule an instruction -/
def lvg : List (Nat × Value) → Nat → Option Value
  | [], _ => none
  | q :: r, i => match Nat.beq q.1 i with
    | true => some q.2
    | false => lvg r i
def lvd : List (Nat × Value) → Nat → List (Nat × Value)
  | [], _ => []
  | q :: r, i => match Nat.beq q.1 i with
    | true => lvd r i
    | false => q :: lvd r i
def lvs : List (Nat × Value) → Nat → Value → List (Nat × Value)
  | [], i, v => [(i, v)]
  | q :: r, i, v => match Nat.beq q.1 i with
    | true => (i, v) :: lvd r i
    | false => q :: lvs r i v
theorem lvg_mem : ∀ {l : List (Nat × Value)} {i : Nat} {v : Value}, lvg l i = some v → (i, v) ∈ l
  | [], i, v, h => by simp [lvg] at h
  | q :: r, i, v, h => by
    unfold lvg at h
    cases hb : Nat.beq q.1 i with
    | true =>
      rw [hb] at h
      have h2 : q.2 = v := Option.some.inj h
      have h3 : q.1 = i := Nat.eq_of_beq_eq_true hb
      rw [← h2, ← h3]
      exact List.mem_cons_self
    | false =>
      rw [hb] at h
      exact List.mem_cons_of_mem _ (lvg_mem h)
theorem lvd_mem : ∀ {l : List (Nat × Value)} {i : Nat} {q : Nat × Value}, q ∈ lvd l i → q ∈ l ∧ q.1 ≠ i
  | [], i, q, h => by simp [lvd] at h
  | a :: r, i, q, h => by
    unfold lvd at h
    cases hb : Nat.beq a.1 i with
    | true =>
      rw [hb] at h
      exact ⟨List.mem_cons_of_mem _ (lvd_mem h).1, (lvd_mem h).2⟩
    | false =>
      rw [hb] at h
      rcases List.mem_cons.mp h with h | h
      · subst h
        exact ⟨List.mem_cons_self, Nat.ne_of_beq_eq_false hb⟩
      · exact ⟨List.mem_cons_of_mem _ (lvd_mem h).1, (lvd_mem h).2⟩
theorem lvs_mem : ∀ {l : List (Nat × Value)} {i : Nat} {v : Value} {q : Nat × Value}, q ∈ lvs l i v → q = (i, v) ∨ (q ∈ l ∧ q.1 ≠ i)
  | [], i, v, q, h => by
    simp [lvs] at h
    exact Or.inl h
  | a :: r, i, v, q, h => by
    unfold lvs at h
    cases hb : Nat.beq a.1 i with
    | true =>
      rw [hb] at h
      rcases List.mem_cons.mp h with h | h
      · exact Or.inl h
      · exact Or.inr ⟨List.mem_cons_of_mem _ (lvd_mem h).1, (lvd_mem h).2⟩
    | false =>
      rw [hb] at h
      rcases List.mem_cons.mp h with h | h
      · subst h
        exact Or.inr ⟨List.mem_cons_self, Nat.ne_of_beq_eq_false hb⟩
      · rcases lvs_mem h with h | h
        · exact Or.inl h
        · exact Or.inr ⟨List.mem_cons_of_mem _ h.1, h.2⟩
def LVh (ls : Array Slot) (nL : Nat) (lv : List (Nat × Value)) : Prop := lv_has ls nL lv ∧ ∀ q ∈ lv, q.2.category = 1
theorem LVh.get {ls : Array Slot} {nL i : Nat} {lv : List (Nat × Value)} {v : Value} (h : LVh ls nL lv) (hg : lvg lv i = some v) : ls[i]? = some (.val v) := h.1.2.2 (i, v) (lvg_mem hg)
theorem LVh.sub {ls : Array Slot} {nL : Nat} {lv lv' : List (Nat × Value)} (h : LVh ls nL lv) (hs : ∀ q ∈ lv', q ∈ lv) : LVh ls nL lv' := ⟨⟨h.1.1, h.1.2.1, fun q hq => h.1.2.2 q (hs q hq)⟩, fun q hq => h.2 q (hs q hq)⟩
theorem LVh.stored {ls ls' : Array Slot} {nL i : Nat} {lv : List (Nat × Value)} {v : Value} (h : LVh ls nL lv) (hc : v.category = 1) (h' : lv_has ls' nL ((i, v) :: lv.filter (fun q => !(q.1 == i) && !(q.1 + 1 == i && q.2.category == 2)))) : LVh ls' nL (lvs lv i v) := by
  refine ⟨⟨h'.1, h'.2.1, fun q hq => h'.2.2 q ?_⟩, fun q hq => ?_⟩
  · rcases lvs_mem hq with h1 | ⟨h1, h2⟩
    · rw [h1]; exact List.mem_cons_self
    · refine List.mem_cons_of_mem _ (List.mem_filter.mpr ⟨h1, ?_⟩)
      have h3 := h.2 q h1
      simp [h2, h3]
  · rcases lvs_mem hq with h1 | ⟨h1, h2⟩
    · rw [h1]; exact hc
    · exact h.2 q h1
theorem vcat_rf (r : Option Nat) : (va_rf r).category = 1 := by cases r <;> rfl
def CX (p : Program) (s : State) (m : MethodId) (args : Array Value) (meth : Method) (c : Code) (cc : ByteArray) (nL : Nat) (Ts : List Cond) (own : String) (D : va_G) (tys : List (ClassId × FieldType)) (A : Nat → Prop) (H0 : Heap) (ret : Option FieldType) : Prop :=
  CallFix p m c cc nL s args Ts own ∧ va_K D vwCl tys s ∧ (∀ q : Nat, H0.size ≤ q → A q) ∧ meth.locks = false ∧ meth.sig.returnType = ret
def GG (p : Program) (l : Launch) (e : Env) (R : Room) (s : State) (m : MethodId) (args : Array Value) (below : List Frame) (meth : Method) (c : Code) (Q : State → Prop) (nL : Nat) (D : va_G) (A : Nat → Prop) (H0 : Heap) (ws : va_W) (cells slots pc : Nat) (lv : List (Nat × Value)) (st : List Value) : Prop :=
  ∀ (H : Heap) (locs : List Loc) (ls : Array Slot), va_P D vwCl ws H → va_D A ws → va_S A H0 H locs → LVh ls nL lv → W p l e R s m args below meth c H locs cells slots Q (F0 m pc ls st)
def kPre (D : va_G) (tys : List (ClassId × FieldType)) (A : Nat → Prop) (av : List Value) (W0 : va_W) : Array Value → State → Prop := va_Pc av (fun U => (∀ q : Nat, U.heap.size ≤ q → A q) ∧ va_P D vwCl W0 U.heap ∧ va_K D vwCl tys U ∧ va_D A W0)
def kPost (D : va_G) (tys : List (ClassId × FieldType)) (A : Nat → Prop) (Qp : Option Value → va_W → Prop) : Array Value → State → Outcome → State → Prop := fun _ st oc t => ∃ (r : Option Value) (w : va_W), oc = .returned r ∧ Qp r w ∧ va_P D vwCl w t.heap ∧ va_K D vwCl tys t ∧ va_D A w ∧ va_F A st t
theorem kPre_blind {D : va_G} {tys : List (ClassId × FieldType)} {A : Nat → Prop} {av : List Value} {W0 : va_W} : FrameBlind (kPre D tys A av W0) := fun a U g mk q => by
  obtain ⟨q0, q1, qP, qK, qD⟩ := q
  exact ⟨q0, q1, qP, va_K.moved (u := U) (U := U.calling g mk a) (Vm.Alike.refl U.vm) qK, qD⟩
section GB
variable {p : Program} {l : Launch} {e : Env} {R : Room} {s : State} {m : MethodId} {args : Array Value} {below : List Frame} {meth : Method} {c : Code} {Q : State → Prop} {cc : ByteArray} {nL : Nat} {Ts : List Cond} {own : String} {D : va_G} {tys : List (ClassId × FieldType)} {A : Nat → Prop} {H0 : Heap} {ret : Option FieldType} {ws : va_W} {cells slots pc : Nat} {lv : List (Nat × Value)} {st : List Value}
theorem g_iconst (C : CX p s m args meth c cc nL Ts own D tys A H0 ret) {n : Int} (k : Nat) (hd : decode cc pc = .ok (.iconst n, 1)) (hv : Int32.ofInt n = nI k) (kk : GG p l e R s m args below meth c Q nL D A H0 ws cells slots (pc + 1) lv (.int (nI k) :: st)) : GG p l e R s m args below meth c Q nL D A H0 ws cells slots pc lv st := fun H locs ls hP hD hS hl => lv_iconst C.1.1 C.1.2.1 hd hv (kk H locs ls hP hD hS hl)
theorem g_iconstm (C : CX p s m args meth c cc nL Ts own D tys A H0 ret) (hd : decode cc pc = .ok (.iconst (-1), 1)) (kk : GG p l e R s m args below meth c Q nL D A H0 ws cells slots (pc + 1) lv (.int (-1) :: st)) : GG p l e R s m args below meth c Q nL D A H0 ws cells slots pc lv st := fun H locs ls hP hD hS hl => lv_iconst C.1.1 C.1.2.1 hd (by decide) (kk H locs ls hP hD hS hl)
theorem g_bipush (C : CX p s m args meth c cc nL Ts own D tys A H0 ret) {n : Int} (k : Nat) (hd : decode cc pc = .ok (.bipush n, 2)) (hv : (Int8.ofInt n).toInt32 = nI k) (kk : GG p l e R s m args below meth c Q nL D A H0 ws cells slots (pc + 2) lv (.int (nI k) :: st)) : GG p l e R s m args below meth c Q nL D A H0 ws cells slots pc lv st := fun H locs ls hP hD hS hl => lv_bipush C.1.1 C.1.2.1 hd hv (kk H locs ls hP hD hS hl)
theorem g_sipush (C : CX p s m args meth c cc nL Ts own D tys A H0 ret) {n : Int} (k : Nat) (hd : decode cc pc = .ok (.sipush n, 3)) (hv : (Int16.ofInt n).toInt32 = nI k) (kk : GG p l e R s m args below meth c Q nL D A H0 ws cells slots (pc + 3) lv (.int (nI k) :: st)) : GG p l e R s m args below meth c Q nL D A H0 ws cells slots pc lv st := fun H locs ls hP hD hS hl => lv_sipush C.1.1 C.1.2.1 hd hv (kk H locs ls hP hD hS hl)
theorem g_bipushx (C : CX p s m args meth c cc nL Ts own D tys A H0 ret) {n : Int} {v : Int32} (hd : decode cc pc = .ok (.bipush n, 2)) (hv : (Int8.ofInt n).toInt32 = v) (kk : GG p l e R s m args below meth c Q nL D A H0 ws cells slots (pc + 2) lv (.int v :: st)) : GG p l e R s m args below meth c Q nL D A H0 ws cells slots pc lv st := fun H locs ls hP hD hS hl => lv_bipush C.1.1 C.1.2.1 hd hv (kk H locs ls hP hD hS hl)
theorem g_null (C : CX p s m args meth c cc nL Ts own D tys A H0 ret) (hd : decode cc pc = .ok (.aconst_null, 1)) (kk : GG p l e R s m args below meth c Q nL D A H0 ws cells slots (pc + 1) lv (va_rf none :: st)) : GG p l e R s m args below meth c Q nL D A H0 ws cells slots pc lv st := fun H locs ls hP hD hS hl => lv_null C.1.1 C.1.2.1 hd (kk H locs ls hP hD hS hl)
theorem g_lconst (C : CX p s m args meth c cc nL Ts own D tys A H0 ret) {n : Fin 2} {v : Int64} (hd : decode cc pc = .ok (.lconst n, 1)) (hv : Int64.ofNat (n : Nat) = v) (kk : GG p l e R s m args below meth c Q nL D A H0 ws cells slots (pc + 1) lv (.long v :: st)) : GG p l e R s m args below meth c Q nL D A H0 ws cells slots pc lv st := fun H locs ls hP hD hS hl => lv_lconst C.1.1 C.1.2.1 hd hv (kk H locs ls hP hD hS hl)
theorem g_iload_n (C : CX p s m args meth c cc nL Ts own D tys A H0 ret) {k : Fin 4} {x : Int32} (hd : decode cc pc = .ok (.iload_n k, 1)) (hl9 : lvg lv (k : Nat) = some (.int x)) (kk : GG p l e R s m args below meth c Q nL D A H0 ws cells slots (pc + 1) lv (.int x :: st)) : GG p l e R s m args below meth c Q nL D A H0 ws cells slots pc lv st := fun H locs ls hP hD hS hl => lv_iload_n C.1.1 C.1.2.1 hd rfl (hl.get hl9) (kk H locs ls hP hD hS hl)
theorem g_iload (C : CX p s m args meth c cc nL Ts own D tys A H0 ret) {i : Nat} {x : Int32} (hd : decode cc pc = .ok (.iload i, 2)) (hl9 : lvg lv i = some (.int x)) (kk : GG p l e R s m args below meth c Q nL D A H0 ws cells slots (pc + 2) lv (.int x :: st)) : GG p l e R s m args below meth c Q nL D A H0 ws cells slots pc lv st := fun H locs ls hP hD hS hl => lv_iload C.1.1 C.1.2.1 hd (hl.get hl9) (kk H locs ls hP hD hS hl)
theorem g_aload_n (C : CX p s m args meth c cc nL Ts own D tys A H0 ret) {k : Fin 4} {x : Nat} (hd : decode cc pc = .ok (.aload_n k, 1)) (hl9 : lvg lv (k : Nat) = some (.ref x)) (kk : GG p l e R s m args below meth c Q nL D A H0 ws cells slots (pc + 1) lv (.ref x :: st)) : GG p l e R s m args below meth c Q nL D A H0 ws cells slots pc lv st := fun H locs ls hP hD hS hl => lv_aload_n C.1.1 C.1.2.1 hd rfl (hl.get hl9) (kk H locs ls hP hD hS hl)
theorem g_aload (C : CX p s m args meth c cc nL Ts own D tys A H0 ret) {i : Nat} {x : Nat} (hd : decode cc pc = .ok (.aload i, 2)) (hl9 : lvg lv i = some (.ref x)) (kk : GG p l e R s m args below meth c Q nL D A H0 ws cells slots (pc + 2) lv (.ref x :: st)) : GG p l e R s m args below meth c Q nL D A H0 ws cells slots pc lv st := fun H locs ls hP hD hS hl => lv_aload C.1.1 C.1.2.1 hd (hl.get hl9) (kk H locs ls hP hD hS hl)
theorem g_aload_nq (C : CX p s m args meth c cc nL Ts own D tys A H0 ret) {k : Fin 4} (r : Option Nat) (hd : decode cc pc = .ok (.aload_n k, 1)) (hl9 : lvg lv (k : Nat) = some (va_rf r)) (kk : GG p l e R s m args below meth c Q nL D A H0 ws cells slots (pc + 1) lv (va_rf r :: st)) : GG p l e R s m args below meth c Q nL D A H0 ws cells slots pc lv st := by
  cases r with
  | none => exact fun H locs ls hP hD hS hl => lv_aload_nN C.1.1 C.1.2.1 hd rfl (hl.get hl9) (kk H locs ls hP hD hS hl)
  | some x => exact fun H locs ls hP hD hS hl => lv_aload_n C.1.1 C.1.2.1 hd rfl (hl.get hl9) (kk H locs ls hP hD hS hl)
theorem g_aloadq (C : CX p s m args meth c cc nL Ts own D tys A H0 ret) {i : Nat} (r : Option Nat) (hd : decode cc pc = .ok (.aload i, 2)) (hl9 : lvg lv i = some (va_rf r)) (kk : GG p l e R s m args below meth c Q nL D A H0 ws cells slots (pc + 2) lv (va_rf r :: st)) : GG p l e R s m args below meth c Q nL D A H0 ws cells slots pc lv st := by
  cases r with
  | none => exact fun H locs ls hP hD hS hl => lv_aloadN C.1.1 C.1.2.1 hd (hl.get hl9) (kk H locs ls hP hD hS hl)
  | some x => exact fun H locs ls hP hD hS hl => lv_aload C.1.1 C.1.2.1 hd (hl.get hl9) (kk H locs ls hP hD hS hl)
theorem g_istore_n (C : CX p s m args meth c cc nL Ts own D tys A H0 ret) {k : Fin 4} {x : Int32} (hd : decode cc pc = .ok (.istore_n k, 1)) (hn : (k : Nat) < nL) (kk : GG p l e R s m args below meth c Q nL D A H0 ws cells slots (pc + 1) (lvs lv (k : Nat) (.int x)) st) : GG p l e R s m args below meth c Q nL D A H0 ws cells slots pc lv (.int x :: st) := fun H locs ls hP hD hS hl => lv_istore_n C.1.1 C.1.2.1 hd rfl hl.1 hn rfl (fun ls' h' => kk H locs ls' hP hD hS (hl.stored rfl h'))
theorem g_astore_n (C : CX p s m args meth c cc nL Ts own D tys A H0 ret) {k : Fin 4} {x : Nat} (hd : decode cc pc = .ok (.astore_n k, 1)) (hn : (k : Nat) < nL) (kk : GG p l e R s m args below meth c Q nL D A H0 ws cells slots (pc + 1) (lvs lv (k : Nat) (.ref x)) st) : GG p l e R s m args below meth c Q nL D A H0 ws cells slots pc lv (.ref x :: st) := fun H locs ls hP hD hS hl => lv_astore_n C.1.1 C.1.2.1 hd rfl hl.1 hn rfl (fun ls' h' => kk H locs ls' hP hD hS (hl.stored rfl h'))
theorem g_istore (C : CX p s m args meth c cc nL Ts own D tys A H0 ret) {i : Nat} {x : Int32} (hd : decode cc pc = .ok (.istore i, 2)) (hn : i < nL) (kk : GG p l e R s m args below meth c Q nL D A H0 ws cells slots (pc + 2) (lvs lv i (.int x)) st) : GG p l e R s m args below meth c Q nL D A H0 ws cells slots pc lv (.int x :: st) := fun H locs ls hP hD hS hl => lv_istore C.1.1 C.1.2.1 hd hl.1 hn rfl (fun ls' h' => kk H locs ls' hP hD hS (hl.stored rfl h'))
theorem g_astore (C : CX p s m args meth c cc nL Ts own D tys A H0 ret) {i : Nat} {x : Nat} (hd : decode cc pc = .ok (.astore i, 2)) (hn : i < nL) (kk : GG p l e R s m args below meth c Q nL D A H0 ws cells slots (pc + 2) (lvs lv i (.ref x)) st) : GG p l e R s m args below meth c Q nL D A H0 ws cells slots pc lv (.ref x :: st) := fun H locs ls hP hD hS hl => lv_astore C.1.1 C.1.2.1 hd hl.1 hn rfl (fun ls' h' => kk H locs ls' hP hD hS (hl.stored rfl h'))
theorem g_astore_nq (C : CX p s m args meth c cc nL Ts own D tys A H0 ret) {k : Fin 4} {r : Option Nat} (hd : decode cc pc = .ok (.astore_n k, 1)) (hn : (k : Nat) < nL) (kk : GG p l e R s m args below meth c Q nL D A H0 ws cells slots (pc + 1) (lvs lv (k : Nat) (va_rf r)) st) : GG p l e R s m args below meth c Q nL D A H0 ws cells slots pc lv (va_rf r :: st) := by
  cases r with
  | none => exact fun H locs ls hP hD hS hl => lv_astore_nN C.1.1 C.1.2.1 hd rfl hl.1 hn rfl (fun ls' h' => kk H locs ls' hP hD hS (hl.stored rfl h'))
  | some x => exact fun H locs ls hP hD hS hl => lv_astore_n C.1.1 C.1.2.1 hd rfl hl.1 hn rfl (fun ls' h' => kk H locs ls' hP hD hS (hl.stored rfl h'))
theorem g_astoreq (C : CX p s m args meth c cc nL Ts own D tys A H0 ret) {i : Nat} {r : Option Nat} (hd : decode cc pc = .ok (.astore i, 2)) (hn : i < nL) (kk : GG p l e R s m args below meth c Q nL D A H0 ws cells slots (pc + 2) (lvs lv i (va_rf r)) st) : GG p l e R s m args below meth c Q nL D A H0 ws cells slots pc lv (va_rf r :: st) := by
  cases r with
  | none => exact fun H locs ls hP hD hS hl => lv_astoreN C.1.1 C.1.2.1 hd hl.1 hn rfl (fun ls' h' => kk H locs ls' hP hD hS (hl.stored rfl h'))
  | some x => exact fun H locs ls hP hD hS hl => lv_astore C.1.1 C.1.2.1 hd hl.1 hn rfl (fun ls' h' => kk H locs ls' hP hD hS (hl.stored rfl h'))
theorem g_iincx (C : CX p s m args meth c cc nL Ts own D tys A H0 ret) {i : Nat} {n : Int} {x v : Int32} (hd : decode cc pc = .ok (.iinc i n, 3)) (hl9 : lvg lv i = some (.int x)) (hv : x + Int32.ofInt n = v) (hn : i < nL) (kk : GG p l e R s m args below meth c Q nL D A H0 ws cells slots (pc + 3) (lvs lv i (.int v)) st) : GG p l e R s m args below meth c Q nL D A H0 ws cells slots pc lv st := fun H locs ls hP hD hS hl => by
  obtain ⟨k9, hk9⟩ := List.getElem?_of_mem (lvg_mem hl9)
  exact lv_iinc C.1.1 C.1.2.1 hd hl.1 hk9 hv hn rfl (fun ls' h' => kk H locs ls' hP hD hS (hl.stored rfl h'))
theorem g_iinc (C : CX p s m args meth c cc nL Ts own D tys A H0 ret) {i : Nat} {a : Nat} (hd : decode cc pc = .ok (.iinc i 1, 3)) (hl9 : lvg lv i = some (.int (nI a))) (hn : i < nL) (kk : GG p l e R s m args below meth c Q nL D A H0 ws cells slots (pc + 3) (lvs lv i (.int (nI (a + 1)))) st) : GG p l e R s m args below meth c Q nL D A H0 ws cells slots pc lv st := g_iincx C hd hl9 (nI_1 a) hn kk
theorem g_idec (C : CX p s m args meth c cc nL Ts own D tys A H0 ret) {i : Nat} {a : Nat} (hd : decode cc pc = .ok (.iinc i (-1), 3)) (hl9 : lvg lv i = some (.int (nI (a + 1)))) (hn : i < nL) (kk : GG p l e R s m args below meth c Q nL D A H0 ws cells slots (pc + 3) (lvs lv i (.int (nI a))) st) : GG p l e R s m args below meth c Q nL D A H0 ws cells slots pc lv st := g_iincx C hd hl9 (pk_m1 a) hn kk
theorem g_iadd (C : CX p s m args meth c cc nL Ts own D tys A H0 ret) {a b : Nat} (hd : decode cc pc = .ok (.iadd, 1)) (kk : GG p l e R s m args below meth c Q nL D A H0 ws cells slots (pc + 1) lv (.int (nI (a + b)) :: st)) : GG p l e R s m args below meth c Q nL D A H0 ws cells slots pc lv (.int (nI b) :: .int (nI a) :: st) := fun H locs ls hP hD hS hl => lv_iadd C.1.1 C.1.2.1 hd (by rw [nI_add]; exact (kk H locs ls hP hD hS hl))
theorem g_imul (C : CX p s m args meth c cc nL Ts own D tys A H0 ret) {a b : Nat} (hd : decode cc pc = .ok (.imul, 1)) (kk : GG p l e R s m args below meth c Q nL D A H0 ws cells slots (pc + 1) lv (.int (nI (a * b)) :: st)) : GG p l e R s m args below meth c Q nL D A H0 ws cells slots pc lv (.int (nI b) :: .int (nI a) :: st) := fun H locs ls hP hD hS hl => lv_imul C.1.1 C.1.2.1 hd (by rw [pk_mul]; exact (kk H locs ls hP hD hS hl))
theorem g_isub (C : CX p s m args meth c cc nL Ts own D tys A H0 ret) {a b : Nat} (hd : decode cc pc = .ok (.isub, 1)) (hab : b ≤ a) (kk : GG p l e R s m args below meth c Q nL D A H0 ws cells slots (pc + 1) lv (.int (nI (a - b)) :: st)) : GG p l e R s m args below meth c Q nL D A H0 ws cells slots pc lv (.int (nI b) :: .int (nI a) :: st) := fun H locs ls hP hD hS hl => lv_isub C.1.1 C.1.2.1 hd (by rw [pk_sub hab]; exact (kk H locs ls hP hD hS hl))
theorem g_isubx (C : CX p s m args meth c cc nL Ts own D tys A H0 ret) {x y : Int32} (hd : decode cc pc = .ok (.isub, 1)) (kk : GG p l e R s m args below meth c Q nL D A H0 ws cells slots (pc + 1) lv (.int (x - y) :: st)) : GG p l e R s m args below meth c Q nL D A H0 ws cells slots pc lv (.int y :: .int x :: st) := fun H locs ls hP hD hS hl => lv_isub C.1.1 C.1.2.1 hd (kk H locs ls hP hD hS hl)
theorem g_iaddx (C : CX p s m args meth c cc nL Ts own D tys A H0 ret) {x y : Int32} (hd : decode cc pc = .ok (.iadd, 1)) (kk : GG p l e R s m args below meth c Q nL D A H0 ws cells slots (pc + 1) lv (.int (x + y) :: st)) : GG p l e R s m args below meth c Q nL D A H0 ws cells slots pc lv (.int y :: .int x :: st) := fun H locs ls hP hD hS hl => lv_iadd C.1.1 C.1.2.1 hd (kk H locs ls hP hD hS hl)
theorem g_iand (C : CX p s m args meth c cc nL Ts own D tys A H0 ret) {x y : Int32} (hd : decode cc pc = .ok (.iand, 1)) (kk : GG p l e R s m args below meth c Q nL D A H0 ws cells slots (pc + 1) lv (.int (x &&& y) :: st)) : GG p l e R s m args below meth c Q nL D A H0 ws cells slots pc lv (.int y :: .int x :: st) := fun H locs ls hP hD hS hl => lv_iand C.1.1 C.1.2.1 hd (kk H locs ls hP hD hS hl)
theorem g_ior (C : CX p s m args meth c cc nL Ts own D tys A H0 ret) {x y : Int32} (hd : decode cc pc = .ok (.ior, 1)) (kk : GG p l e R s m args below meth c Q nL D A H0 ws cells slots (pc + 1) lv (.int (x ||| y) :: st)) : GG p l e R s m args below meth c Q nL D A H0 ws cells slots pc lv (.int y :: .int x :: st) := fun H locs ls hP hD hS hl => lv_ior C.1.1 C.1.2.1 hd (kk H locs ls hP hD hS hl)
theorem g_ishl (C : CX p s m args meth c cc nL Ts own D tys A H0 ret) {x y : Int32} (hd : decode cc pc = .ok (.ishl, 1)) (kk : GG p l e R s m args below meth c Q nL D A H0 ws cells slots (pc + 1) lv (.int (x <<< (y &&& 31)) :: st)) : GG p l e R s m args below meth c Q nL D A H0 ws cells slots pc lv (.int y :: .int x :: st) := fun H locs ls hP hD hS hl => lv_ishl C.1.1 C.1.2.1 hd (kk H locs ls hP hD hS hl)
theorem g_ishr (C : CX p s m args meth c cc nL Ts own D tys A H0 ret) {x y : Int32} (hd : decode cc pc = .ok (.ishr, 1)) (kk : GG p l e R s m args below meth c Q nL D A H0 ws cells slots (pc + 1) lv (.int (x >>> (y &&& 31)) :: st)) : GG p l e R s m args below meth c Q nL D A H0 ws cells slots pc lv (.int y :: .int x :: st) := fun H locs ls hP hD hS hl => lv_ishr C.1.1 C.1.2.1 hd (kk H locs ls hP hD hS hl)
theorem g_i2l (C : CX p s m args meth c cc nL Ts own D tys A H0 ret) {x : Int32} {v : Int64} (hd : decode cc pc = .ok (.i2l, 1)) (hv : x.toInt64 = v) (kk : GG p l e R s m args below meth c Q nL D A H0 ws cells slots (pc + 1) lv (.long v :: st)) : GG p l e R s m args below meth c Q nL D A H0 ws cells slots pc lv (.int x :: st) := fun H locs ls hP hD hS hl => lv_i2l C.1.1 C.1.2.1 hd hv (kk H locs ls hP hD hS hl)
theorem g_dup (C : CX p s m args meth c cc nL Ts own D tys A H0 ret) {v : Value} (hd : decode cc pc = .ok (.dup, 1)) (hv : v.category = 1) (kk : GG p l e R s m args below meth c Q nL D A H0 ws cells slots (pc + 1) lv (v :: v :: st)) : GG p l e R s m args below meth c Q nL D A H0 ws cells slots pc lv (v :: st) := fun H locs ls hP hD hS hl => lv_dup C.1.1 C.1.2.1 hd hv (kk H locs ls hP hD hS hl)
theorem g_pop (C : CX p s m args meth c cc nL Ts own D tys A H0 ret) {v : Value} (hd : decode cc pc = .ok (.pop, 1)) (hv : v.category = 1) (kk : GG p l e R s m args below meth c Q nL D A H0 ws cells slots (pc + 1) lv st) : GG p l e R s m args below meth c Q nL D A H0 ws cells slots pc lv (v :: st) := fun H locs ls hP hD hS hl => lv_pop C.1.1 C.1.2.1 hd hv (kk H locs ls hP hD hS hl)
theorem g_dup2 (C : CX p s m args meth c cc nL Ts own D tys A H0 ret) {v u : Value} (hd : decode cc pc = .ok (.dup2, 1)) (hv : v.category = 1) (hu : u.category = 1) (kk : GG p l e R s m args below meth c Q nL D A H0 ws cells slots (pc + 1) lv (v :: u :: v :: u :: st)) : GG p l e R s m args below meth c Q nL D A H0 ws cells slots pc lv (v :: u :: st) := fun H locs ls hP hD hS hl => lv_dup2_11 C.1.1 C.1.2.1 hd hv hu (kk H locs ls hP hD hS hl)
theorem g_dup_x1 (C : CX p s m args meth c cc nL Ts own D tys A H0 ret) {v u : Value} (hd : decode cc pc = .ok (.dup_x1, 1)) (hv : v.category = 1) (hu : u.category = 1) (kk : GG p l e R s m args below meth c Q nL D A H0 ws cells slots (pc + 1) lv (v :: u :: v :: st)) : GG p l e R s m args below meth c Q nL D A H0 ws cells slots pc lv (v :: u :: st) := fun H locs ls hP hD hS hl => lv_dup_x1 C.1.1 C.1.2.1 hd hv hu (kk H locs ls hP hD hS hl)
theorem g_top (C : CX p s m args meth c cc nL Ts own D tys A H0 ret) {x y : Int32} (hxy : x = y) (kk : GG p l e R s m args below meth c Q nL D A H0 ws cells slots pc lv (.int y :: st)) : GG p l e R s m args below meth c Q nL D A H0 ws cells slots pc lv (.int x :: st) := by subst hxy; exact kk
theorem g_goto (C : CX p s m args meth c cc nL Ts own D tys A H0 ret) {off : Int} (tgt : Nat) (hd : decode cc pc = .ok (.goto off, 3)) (ht : (pc : Int) + off = (tgt : Int)) (kk : GG p l e R s m args below meth c Q nL D A H0 ws cells slots tgt lv st) : GG p l e R s m args below meth c Q nL D A H0 ws cells slots pc lv st := fun H locs ls hP hD hS hl => lv_goto C.1.1 C.1.2.1 hd ht (kk H locs ls hP hD hS hl)
theorem g_icmpx_eq (C : CX p s m args meth c cc nL Ts own D tys A H0 ret) {x y : Int32} {off : Int} (tgt : Nat) (hd : decode cc pc = .ok (.if_icmp .eq off, 3)) (ht : (pc : Int) + off = (tgt : Int)) (kt : x = y → GG p l e R s m args below meth c Q nL D A H0 ws cells slots tgt lv st) (kf : ¬ x = y → GG p l e R s m args below meth c Q nL D A H0 ws cells slots (pc + 3) lv st) : GG p l e R s m args below meth c Q nL D A H0 ws cells slots pc lv (.int y :: .int x :: st) := fun H locs ls hP hD hS hl => lv_icmp_eq C.1.1 C.1.2.1 hd ht (fun q => kt q H locs ls hP hD hS hl) (fun q => kf q H locs ls hP hD hS hl)
theorem g_icmpx_ne (C : CX p s m args meth c cc nL Ts own D tys A H0 ret) {x y : Int32} {off : Int} (tgt : Nat) (hd : decode cc pc = .ok (.if_icmp .ne off, 3)) (ht : (pc : Int) + off = (tgt : Int)) (kt : ¬ x = y → GG p l e R s m args below meth c Q nL D A H0 ws cells slots tgt lv st) (kf : x = y → GG p l e R s m args below meth c Q nL D A H0 ws cells slots (pc + 3) lv st) : GG p l e R s m args below meth c Q nL D A H0 ws cells slots pc lv (.int y :: .int x :: st) := fun H locs ls hP hD hS hl => lv_icmp_ne C.1.1 C.1.2.1 hd ht (fun q => kt q H locs ls hP hD hS hl) (fun q => kf q H locs ls hP hD hS hl)
theorem g_icmpx_lt (C : CX p s m args meth c cc nL Ts own D tys A H0 ret) {x y : Int32} {off : Int} (tgt : Nat) (hd : decode cc pc = .ok (.if_icmp .lt off, 3)) (ht : (pc : Int) + off = (tgt : Int)) (kt : x < y → GG p l e R s m args below meth c Q nL D A H0 ws cells slots tgt lv st) (kf : ¬ x < y → GG p l e R s m args below meth c Q nL D A H0 ws cells slots (pc + 3) lv st) : GG p l e R s m args below meth c Q nL D A H0 ws cells slots pc lv (.int y :: .int x :: st) := fun H locs ls hP hD hS hl => lv_icmp_lt C.1.1 C.1.2.1 hd ht (fun q => kt q H locs ls hP hD hS hl) (fun q => kf q H locs ls hP hD hS hl)
theorem g_icmpx_ge (C : CX p s m args meth c cc nL Ts own D tys A H0 ret) {x y : Int32} {off : Int} (tgt : Nat) (hd : decode cc pc = .ok (.if_icmp .ge off, 3)) (ht : (pc : Int) + off = (tgt : Int)) (kt : y ≤ x → GG p l e R s m args below meth c Q nL D A H0 ws cells slots tgt lv st) (kf : ¬ y ≤ x → GG p l e R s m args below meth c Q nL D A H0 ws cells slots (pc + 3) lv st) : GG p l e R s m args below meth c Q nL D A H0 ws cells slots pc lv (.int y :: .int x :: st) := fun H locs ls hP hD hS hl => lv_icmp_ge C.1.1 C.1.2.1 hd ht (fun q => kt q H locs ls hP hD hS hl) (fun q => kf q H locs ls hP hD hS hl)
theorem g_icmpx_gt (C : CX p s m args meth c cc nL Ts own D tys A H0 ret) {x y : Int32} {off : Int} (tgt : Nat) (hd : decode cc pc = .ok (.if_icmp .gt off, 3)) (ht : (pc : Int) + off = (tgt : Int)) (kt : y < x → GG p l e R s m args below meth c Q nL D A H0 ws cells slots tgt lv st) (kf : ¬ y < x → GG p l e R s m args below meth c Q nL D A H0 ws cells slots (pc + 3) lv st) : GG p l e R s m args below meth c Q nL D A H0 ws cells slots pc lv (.int y :: .int x :: st) := fun H locs ls hP hD hS hl => lv_icmp_gt C.1.1 C.1.2.1 hd ht (fun q => kt q H locs ls hP hD hS hl) (fun q => kf q H locs ls hP hD hS hl)
theorem g_icmpx_le (C : CX p s m args meth c cc nL Ts own D tys A H0 ret) {x y : Int32} {off : Int} (tgt : Nat) (hd : decode cc pc = .ok (.if_icmp .le off, 3)) (ht : (pc : Int) + off = (tgt : Int)) (kt : x ≤ y → GG p l e R s m args below meth c Q nL D A H0 ws cells slots tgt lv st) (kf : ¬ x ≤ y → GG p l e R s m args below meth c Q nL D A H0 ws cells slots (pc + 3) lv st) : GG p l e R s m args below meth c Q nL D A H0 ws cells slots pc lv (.int y :: .int x :: st) := fun H locs ls hP hD hS hl => lv_icmp_le C.1.1 C.1.2.1 hd ht (fun q => kt q H locs ls hP hD hS hl) (fun q => kf q H locs ls hP hD hS hl)
theorem g_ifx_eq (C : CX p s m args meth c cc nL Ts own D tys A H0 ret) {x : Int32} {off : Int} (tgt : Nat) (hd : decode cc pc = .ok (.ifCond .eq off, 3)) (ht : (pc : Int) + off = (tgt : Int)) (kt : x = 0 → GG p l e R s m args below meth c Q nL D A H0 ws cells slots tgt lv st) (kf : ¬ x = 0 → GG p l e R s m args below meth c Q nL D A H0 ws cells slots (pc + 3) lv st) : GG p l e R s m args below meth c Q nL D A H0 ws cells slots pc lv (.int x :: st) := fun H locs ls hP hD hS hl => lv_if_eq C.1.1 C.1.2.1 hd ht (fun q => kt q H locs ls hP hD hS hl) (fun q => kf q H locs ls hP hD hS hl)
theorem g_ifx_ne (C : CX p s m args meth c cc nL Ts own D tys A H0 ret) {x : Int32} {off : Int} (tgt : Nat) (hd : decode cc pc = .ok (.ifCond .ne off, 3)) (ht : (pc : Int) + off = (tgt : Int)) (kt : ¬ x = 0 → GG p l e R s m args below meth c Q nL D A H0 ws cells slots tgt lv st) (kf : x = 0 → GG p l e R s m args below meth c Q nL D A H0 ws cells slots (pc + 3) lv st) : GG p l e R s m args below meth c Q nL D A H0 ws cells slots pc lv (.int x :: st) := fun H locs ls hP hD hS hl => lv_if_ne C.1.1 C.1.2.1 hd ht (fun q => kt q H locs ls hP hD hS hl) (fun q => kf q H locs ls hP hD hS hl)
theorem g_ifx_lt (C : CX p s m args meth c cc nL Ts own D tys A H0 ret) {x : Int32} {off : Int} (tgt : Nat) (hd : decode cc pc = .ok (.ifCond .lt off, 3)) (ht : (pc : Int) + off = (tgt : Int)) (kt : x < 0 → GG p l e R s m args below meth c Q nL D A H0 ws cells slots tgt lv st) (kf : ¬ x < 0 → GG p l e R s m args below meth c Q nL D A H0 ws cells slots (pc + 3) lv st) : GG p l e R s m args below meth c Q nL D A H0 ws cells slots pc lv (.int x :: st) := fun H locs ls hP hD hS hl => lv_if_lt C.1.1 C.1.2.1 hd ht (fun q => kt q H locs ls hP hD hS hl) (fun q => kf q H locs ls hP hD hS hl)
theorem g_ifx_ge (C : CX p s m args meth c cc nL Ts own D tys A H0 ret) {x : Int32} {off : Int} (tgt : Nat) (hd : decode cc pc = .ok (.ifCond .ge off, 3)) (ht : (pc : Int) + off = (tgt : Int)) (kt : 0 ≤ x → GG p l e R s m args below meth c Q nL D A H0 ws cells slots tgt lv st) (kf : ¬ 0 ≤ x → GG p l e R s m args below meth c Q nL D A H0 ws cells slots (pc + 3) lv st) : GG p l e R s m args below meth c Q nL D A H0 ws cells slots pc lv (.int x :: st) := fun H locs ls hP hD hS hl => lv_if_ge C.1.1 C.1.2.1 hd ht (fun q => kt q H locs ls hP hD hS hl) (fun q => kf q H locs ls hP hD hS hl)
theorem g_ifx_gt (C : CX p s m args meth c cc nL Ts own D tys A H0 ret) {x : Int32} {off : Int} (tgt : Nat) (hd : decode cc pc = .ok (.ifCond .gt off, 3)) (ht : (pc : Int) + off = (tgt : Int)) (kt : 0 < x → GG p l e R s m args below meth c Q nL D A H0 ws cells slots tgt lv st) (kf : ¬ 0 < x → GG p l e R s m args below meth c Q nL D A H0 ws cells slots (pc + 3) lv st) : GG p l e R s m args below meth c Q nL D A H0 ws cells slots pc lv (.int x :: st) := fun H locs ls hP hD hS hl => lv_if_gt C.1.1 C.1.2.1 hd ht (fun q => kt q H locs ls hP hD hS hl) (fun q => kf q H locs ls hP hD hS hl)
theorem g_ifx_le (C : CX p s m args meth c cc nL Ts own D tys A H0 ret) {x : Int32} {off : Int} (tgt : Nat) (hd : decode cc pc = .ok (.ifCond .le off, 3)) (ht : (pc : Int) + off = (tgt : Int)) (kt : x ≤ 0 → GG p l e R s m args below meth c Q nL D A H0 ws cells slots tgt lv st) (kf : ¬ x ≤ 0 → GG p l e R s m args below meth c Q nL D A H0 ws cells slots (pc + 3) lv st) : GG p l e R s m args below meth c Q nL D A H0 ws cells slots pc lv (.int x :: st) := fun H locs ls hP hD hS hl => lv_if_le C.1.1 C.1.2.1 hd ht (fun q => kt q H locs ls hP hD hS hl) (fun q => kf q H locs ls hP hD hS hl)
theorem g_icmp_eq (C : CX p s m args meth c cc nL Ts own D tys A H0 ret) {a b : Nat} {off : Int} (tgt : Nat) (hd : decode cc pc = .ok (.if_icmp .eq off, 3)) (ht : (pc : Int) + off = (tgt : Int)) (ha : a < 2 ^ 31) (hb : b < 2 ^ 31) (kt : a = b → GG p l e R s m args below meth c Q nL D A H0 ws cells slots tgt lv st) (kf : ¬ a = b → GG p l e R s m args below meth c Q nL D A H0 ws cells slots (pc + 3) lv st) : GG p l e R s m args below meth c Q nL D A H0 ws cells slots pc lv (.int (nI b) :: .int (nI a) :: st) := g_icmpx_eq C tgt hd ht (fun q => kt ((nI_eq ha hb).mp q)) (fun q => kf (fun z => q ((nI_eq ha hb).mpr z)))
theorem g_icmp_ne (C : CX p s m args meth c cc nL Ts own D tys A H0 ret) {a b : Nat} {off : Int} (tgt : Nat) (hd : decode cc pc = .ok (.if_icmp .ne off, 3)) (ht : (pc : Int) + off = (tgt : Int)) (ha : a < 2 ^ 31) (hb : b < 2 ^ 31) (kt : ¬ a = b → GG p l e R s m args below meth c Q nL D A H0 ws cells slots tgt lv st) (kf : a = b → GG p l e R s m args below meth c Q nL D A H0 ws cells slots (pc + 3) lv st) : GG p l e R s m args below meth c Q nL D A H0 ws cells slots pc lv (.int (nI b) :: .int (nI a) :: st) := g_icmpx_ne C tgt hd ht (fun q => kt (fun z => q ((nI_eq ha hb).mpr z))) (fun q => kf ((nI_eq ha hb).mp q))
theorem g_icmp_lt (C : CX p s m args meth c cc nL Ts own D tys A H0 ret) {a b : Nat} {off : Int} (tgt : Nat) (hd : decode cc pc = .ok (.if_icmp .lt off, 3)) (ht : (pc : Int) + off = (tgt : Int)) (ha : a < 2 ^ 31) (hb : b < 2 ^ 31) (kt : a < b → GG p l e R s m args below meth c Q nL D A H0 ws cells slots tgt lv st) (kf : b ≤ a → GG p l e R s m args below meth c Q nL D A H0 ws cells slots (pc + 3) lv st) : GG p l e R s m args below meth c Q nL D A H0 ws cells slots pc lv (.int (nI b) :: .int (nI a) :: st) := g_icmpx_lt C tgt hd ht (fun q => kt ((nI_ltI ha hb).mp q)) (fun q => kf (Nat.not_lt.mp (fun z => q ((nI_ltI ha hb).mpr z))))
theorem g_icmp_ge (C : CX p s m args meth c cc nL Ts own D tys A H0 ret) {a b : Nat} {off : Int} (tgt : Nat) (hd : decode cc pc = .ok (.if_icmp .ge off, 3)) (ht : (pc : Int) + off = (tgt : Int)) (ha : a < 2 ^ 31) (hb : b < 2 ^ 31) (kt : b ≤ a → GG p l e R s m args below meth c Q nL D A H0 ws cells slots tgt lv st) (kf : a < b → GG p l e R s m args below meth c Q nL D A H0 ws cells slots (pc + 3) lv st) : GG p l e R s m args below meth c Q nL D A H0 ws cells slots pc lv (.int (nI b) :: .int (nI a) :: st) := g_icmpx_ge C tgt hd ht (fun q => kt ((nI_leI hb ha).mp q)) (fun q => kf (Nat.not_le.mp (fun z => q ((nI_leI hb ha).mpr z))))
theorem g_icmp_gt (C : CX p s m args meth c cc nL Ts own D tys A H0 ret) {a b : Nat} {off : Int} (tgt : Nat) (hd : decode cc pc = .ok (.if_icmp .gt off, 3)) (ht : (pc : Int) + off = (tgt : Int)) (ha : a < 2 ^ 31) (hb : b < 2 ^ 31) (kt : b < a → GG p l e R s m args below meth c Q nL D A H0 ws cells slots tgt lv st) (kf : a ≤ b → GG p l e R s m args below meth c Q nL D A H0 ws cells slots (pc + 3) lv st) : GG p l e R s m args below meth c Q nL D A H0 ws cells slots pc lv (.int (nI b) :: .int (nI a) :: st) := g_icmpx_gt C tgt hd ht (fun q => kt ((nI_ltI hb ha).mp q)) (fun q => kf (Nat.not_lt.mp (fun z => q ((nI_ltI hb ha).mpr z))))
theorem g_icmp_le (C : CX p s m args meth c cc nL Ts own D tys A H0 ret) {a b : Nat} {off : Int} (tgt : Nat) (hd : decode cc pc = .ok (.if_icmp .le off, 3)) (ht : (pc : Int) + off = (tgt : Int)) (ha : a < 2 ^ 31) (hb : b < 2 ^ 31) (kt : a ≤ b → GG p l e R s m args below meth c Q nL D A H0 ws cells slots tgt lv st) (kf : b < a → GG p l e R s m args below meth c Q nL D A H0 ws cells slots (pc + 3) lv st) : GG p l e R s m args below meth c Q nL D A H0 ws cells slots pc lv (.int (nI b) :: .int (nI a) :: st) := g_icmpx_le C tgt hd ht (fun q => kt ((nI_leI ha hb).mp q)) (fun q => kf (Nat.not_le.mp (fun z => q ((nI_leI ha hb).mpr z))))
theorem g_if_eq (C : CX p s m args meth c cc nL Ts own D tys A H0 ret) {a : Nat} {off : Int} (tgt : Nat) (hd : decode cc pc = .ok (.ifCond .eq off, 3)) (ht : (pc : Int) + off = (tgt : Int)) (ha : a < 2 ^ 31) (kt : a = 0 → GG p l e R s m args below meth c Q nL D A H0 ws cells slots tgt lv st) (kf : 0 < a → GG p l e R s m args below meth c Q nL D A H0 ws cells slots (pc + 3) lv st) : GG p l e R s m args below meth c Q nL D A H0 ws cells slots pc lv (.int (nI a) :: st) := g_ifx_eq C tgt hd ht (fun q => by
  rcases Nat.eq_zero_or_pos a with z | z
  · exact kt z
  · exact absurd q (nI_ne0 z ha)) (fun q => kf (Nat.pos_of_ne_zero (fun z => q (by rw [z]; rfl))))
theorem g_if_ne (C : CX p s m args meth c cc nL Ts own D tys A H0 ret) {a : Nat} {off : Int} (tgt : Nat) (hd : decode cc pc = .ok (.ifCond .ne off, 3)) (ht : (pc : Int) + off = (tgt : Int)) (ha : a < 2 ^ 31) (kt : 0 < a → GG p l e R s m args below meth c Q nL D A H0 ws cells slots tgt lv st) (kf : a = 0 → GG p l e R s m args below meth c Q nL D A H0 ws cells slots (pc + 3) lv st) : GG p l e R s m args below meth c Q nL D A H0 ws cells slots pc lv (.int (nI a) :: st) := g_ifx_ne C tgt hd ht (fun q => kt (Nat.pos_of_ne_zero (fun z => q (by rw [z]; rfl)))) (fun q => by
  rcases Nat.eq_zero_or_pos a with z | z
  · exact kf z
  · exact absurd q (nI_ne0 z ha))
theorem g_if_gt (C : CX p s m args meth c cc nL Ts own D tys A H0 ret) {a : Nat} {off : Int} (tgt : Nat) (hd : decode cc pc = .ok (.ifCond .gt off, 3)) (ht : (pc : Int) + off = (tgt : Int)) (ha : a < 2 ^ 31) (kt : 0 < a → GG p l e R s m args below meth c Q nL D A H0 ws cells slots tgt lv st) (kf : a = 0 → GG p l e R s m args below meth c Q nL D A H0 ws cells slots (pc + 3) lv st) : GG p l e R s m args below meth c Q nL D A H0 ws cells slots pc lv (.int (nI a) :: st) := g_ifx_gt C tgt hd ht (fun q => kt (by
  rcases Nat.eq_zero_or_pos a with z | z
  · subst z; exact absurd q (by decide)
  · exact z)) (fun q => kf (by
  rcases Nat.eq_zero_or_pos a with z | z
  · exact z
  · exact absurd ((nI_ltI (a := 0) (by decide) ha).mpr z) q))
theorem g_if_le (C : CX p s m args meth c cc nL Ts own D tys A H0 ret) {a : Nat} {off : Int} (tgt : Nat) (hd : decode cc pc = .ok (.ifCond .le off, 3)) (ht : (pc : Int) + off = (tgt : Int)) (ha : a < 2 ^ 31) (kt : a = 0 → GG p l e R s m args below meth c Q nL D A H0 ws cells slots tgt lv st) (kf : 0 < a → GG p l e R s m args below meth c Q nL D A H0 ws cells slots (pc + 3) lv st) : GG p l e R s m args below meth c Q nL D A H0 ws cells slots pc lv (.int (nI a) :: st) := g_ifx_le C tgt hd ht (fun q => kt (by
  rcases Nat.eq_zero_or_pos a with z | z
  · exact z
  · exact absurd q (nI_nle z ha))) (fun q => kf (by
  rcases Nat.eq_zero_or_pos a with z | z
  · subst z; exact absurd (by decide) q
  · exact z))
theorem g_if_lt (C : CX p s m args meth c cc nL Ts own D tys A H0 ret) {a : Nat} {off : Int} (hd : decode cc pc = .ok (.ifCond .lt off, 3)) (tgt : Nat) (ht : (pc : Int) + off = (tgt : Int)) (ha : a < 2 ^ 31) (kf : GG p l e R s m args below meth c Q nL D A H0 ws cells slots (pc + 3) lv st) : GG p l e R s m args below meth c Q nL D A H0 ws cells slots pc lv (.int (nI a) :: st) := g_ifx_lt C tgt hd ht (fun q => absurd q (nI_pos ha)) (fun _ => kf)
theorem g_if_ge (C : CX p s m args meth c cc nL Ts own D tys A H0 ret) {a : Nat} {off : Int} (tgt : Nat) (hd : decode cc pc = .ok (.ifCond .ge off, 3)) (ht : (pc : Int) + off = (tgt : Int)) (ha : a < 2 ^ 31) (kt : GG p l e R s m args below meth c Q nL D A H0 ws cells slots tgt lv st) : GG p l e R s m args below meth c Q nL D A H0 ws cells slots pc lv (.int (nI a) :: st) := g_ifx_ge C tgt hd ht (fun _ => kt) (fun q => absurd (nI_pos' ha) q)
theorem g_ifnull (C : CX p s m args meth c cc nL Ts own D tys A H0 ret) {r : Option Nat} {off : Int} (tgt : Nat) (hd : decode cc pc = .ok (.ifnull off, 3)) (ht : (pc : Int) + off = (tgt : Int)) (kt : r = none → GG p l e R s m args below meth c Q nL D A H0 ws cells slots tgt lv st) (kf : ∀ a : Nat, r = some a → GG p l e R s m args below meth c Q nL D A H0 ws cells slots (pc + 3) lv st) : GG p l e R s m args below meth c Q nL D A H0 ws cells slots pc lv (va_rf r :: st) := by
  cases r with
  | none => exact fun H locs ls hP hD hS hl => lv_ifnullN C.1.1 C.1.2.1 hd ht (kt rfl H locs ls hP hD hS hl)
  | some a => exact fun H locs ls hP hD hS hl => lv_ifnull C.1.1 C.1.2.1 hd (kf a rfl H locs ls hP hD hS hl)
theorem g_ifnonnull (C : CX p s m args meth c cc nL Ts own D tys A H0 ret) {r : Option Nat} {off : Int} (tgt : Nat) (hd : decode cc pc = .ok (.ifnonnull off, 3)) (ht : (pc : Int) + off = (tgt : Int)) (kt : ∀ a : Nat, r = some a → GG p l e R s m args below meth c Q nL D A H0 ws cells slots tgt lv st) (kf : r = none → GG p l e R s m args below meth c Q nL D A H0 ws cells slots (pc + 3) lv st) : GG p l e R s m args below meth c Q nL D A H0 ws cells slots pc lv (va_rf r :: st) := by
  cases r with
  | none => exact fun H locs ls hP hD hS hl => lv_ifnonnullN C.1.1 C.1.2.1 hd (kf rfl H locs ls hP hD hS hl)
  | some a => exact fun H locs ls hP hD hS hl => lv_ifnonnull C.1.1 C.1.2.1 hd ht (kt a rfl H locs ls hP hD hS hl)
theorem g_acmp_eq (C : CX p s m args meth c cc nL Ts own D tys A H0 ret) {off : Int} (rx ry : Option Nat) (tgt : Nat) (hd : decode cc pc = .ok (.if_acmp .eq off, 3)) (ht : (pc : Int) + off = (tgt : Int)) (kt : rx = ry → GG p l e R s m args below meth c Q nL D A H0 ws cells slots tgt lv st) (kf : ¬ rx = ry → GG p l e R s m args below meth c Q nL D A H0 ws cells slots (pc + 3) lv st) : GG p l e R s m args below meth c Q nL D A H0 ws cells slots pc lv (va_rf ry :: va_rf rx :: st) := fun H locs ls hP hD hS hl => lv_acmp_eq C.1.1 C.1.2.1 hd ht (fun q => kt q H locs ls hP hD hS hl) (fun q => kf q H locs ls hP hD hS hl)
theorem g_acmp_ne (C : CX p s m args meth c cc nL Ts own D tys A H0 ret) {off : Int} (rx ry : Option Nat) (tgt : Nat) (hd : decode cc pc = .ok (.if_acmp .ne off, 3)) (ht : (pc : Int) + off = (tgt : Int)) (kt : ¬ rx = ry → GG p l e R s m args below meth c Q nL D A H0 ws cells slots tgt lv st) (kf : rx = ry → GG p l e R s m args below meth c Q nL D A H0 ws cells slots (pc + 3) lv st) : GG p l e R s m args below meth c Q nL D A H0 ws cells slots pc lv (va_rf ry :: va_rf rx :: st) := fun H locs ls hP hD hS hl => lv_acmp_ne C.1.1 C.1.2.1 hd ht (fun q => kt q H locs ls hP hD hS hl) (fun q => kf q H locs ls hP hD hS hl)
theorem g_tableIn (C : CX p s m args meth c cc nL Ts own D tys A H0 ret) {dflt lo hi : Int} {offs : Array Int} {len : Nat} {x : Int32} {off : Int} (tgt : Nat) (hd : decode cc pc = .ok (.tableswitch dflt lo hi offs, len)) (h1 : ¬ x.toInt < lo) (h2 : ¬ hi < x.toInt) (ho : offs[(x.toInt - lo).toNat]? = some off) (ht : (pc : Int) + off = (tgt : Int)) (kk : GG p l e R s m args below meth c Q nL D A H0 ws cells slots tgt lv st) : GG p l e R s m args below meth c Q nL D A H0 ws cells slots pc lv (.int x :: st) := fun H locs ls hP hD hS hl => lv_tableIn C.1.1 C.1.2.1 hd h1 h2 ho ht (kk H locs ls hP hD hS hl)
theorem g_tableOut (C : CX p s m args meth c cc nL Ts own D tys A H0 ret) {dflt lo hi : Int} {offs : Array Int} {len : Nat} {x : Int32} (tgt : Nat) (hd : decode cc pc = .ok (.tableswitch dflt lo hi offs, len)) (h1 : x.toInt < lo ∨ hi < x.toInt) (ht : (pc : Int) + dflt = (tgt : Int)) (kk : GG p l e R s m args below meth c Q nL D A H0 ws cells slots tgt lv st) : GG p l e R s m args below meth c Q nL D A H0 ws cells slots pc lv (.int x :: st) := fun H locs ls hP hD hS hl => lv_tableOut C.1.1 C.1.2.1 hd h1 ht (kk H locs ls hP hD hS hl)
theorem g_lv {lv' : List (Nat × Value)} (hs : ∀ q ∈ lv', q ∈ lv) (kk : GG p l e R s m args below meth c Q nL D A H0 ws cells slots pc (lv') st) : GG p l e R s m args below meth c Q nL D A H0 ws cells slots pc lv st := fun H locs ls hP hD hS hl => kk H locs ls hP hD hS (hl.sub hs)
theorem g_widen {k n : Nat} (h1 : cells ≤ k) (h2 : slots ≤ n) (kk : GG p l e R s m args below meth c Q nL D A H0 ws k n pc lv st) : GG p l e R s m args below meth c Q nL D A H0 ws cells slots pc lv st := fun H locs ls hP hD hS hl => W.widen h1 h2 (kk H locs ls hP hD hS hl)
theorem g_ws {ws' : va_W} (h : ws = ws') (kk : GG p l e R s m args below meth c Q nL D A H0 (ws') cells slots pc lv st) : GG p l e R s m args below meth c Q nL D A H0 ws cells slots pc lv st := by subst h; exact kk
theorem g_iret (C : CX p s m args meth c cc nL Ts own D tys A s.heap ret) {v : Int32} {Qp : Option Value → va_W → Prop} {mc ms : Nat} (hd : decode cc pc = .ok (.ireturn, 1)) (hr : ret = some .int) (hq : Qp (some (.int v)) ws) (hc : cells ≤ mc := by omega) (hs : slots ≤ ms := by omega) : GG p l e R s m args below meth c (MQ below (kPost D tys A Qp) args s mc ms A) nL D A s.heap ws cells slots pc lv ([.int v]) := fun H locs ls hP hD hS hl => by
  have hlocks : meth.locks = false := C.2.2.2.1
  exact W.widen hc hs (W.iret (v := v) C.1.1 C.1.2.1 (C.2.2.2.2.trans hr) (fun t ht hW => ⟨_, ws, rfl, hq, by rw [ht]; exact hP, va_K.moved hW.alike C.2.1, hD, hS.F ht⟩) hS.2.2 hd)
theorem g_zret (C : CX p s m args meth c cc nL Ts own D tys A s.heap ret) {v : Int32} {ty : FieldType} {Qp : Option Value → va_W → Prop} {mc ms : Nat} (hd : decode cc pc = .ok (.ireturn, 1)) (hr : ret = some ty) (hn : narrow ty (.int v) = .int v) (hq : Qp (some (.int v)) ws) (hc : cells ≤ mc := by omega) (hs : slots ≤ ms := by omega) : GG p l e R s m args below meth c (MQ below (kPost D tys A Qp) args s mc ms A) nL D A s.heap ws cells slots pc lv ([.int v]) := fun H locs ls hP hD hS hl => by
  have hlocks : meth.locks = false := C.2.2.2.1
  exact W.widen hc hs (W.zret (v := v) C.1.1 C.1.2.1 (C.2.2.2.2.trans hr) hn (fun t ht hW => ⟨_, ws, rfl, hq, by rw [ht]; exact hP, va_K.moved hW.alike C.2.1, hD, hS.F ht⟩) hS.2.2 hd)
theorem g_vret (C : CX p s m args meth c cc nL Ts own D tys A s.heap ret)  {Qp : Option Value → va_W → Prop} {mc ms : Nat} (hd : decode cc pc = .ok (.return_, 1)) (hr : ret = none) (hq : Qp (none) ws) (hc : cells ≤ mc := by omega) (hs : slots ≤ ms := by omega) : GG p l e R s m args below meth c (MQ below (kPost D tys A Qp) args s mc ms A) nL D A s.heap ws cells slots pc lv ([]) := fun H locs ls hP hD hS hl => by
  have hlocks : meth.locks = false := C.2.2.2.1
  exact W.widen hc hs (W.vret C.1.1 C.1.2.1 (C.2.2.2.2.trans hr) (fun t ht hW => ⟨_, ws, rfl, hq, by rw [ht]; exact hP, va_K.moved hW.alike C.2.1, hD, hS.F ht⟩) hS.2.2 hd)
theorem g_aret (C : CX p s m args meth c cc nL Ts own D tys A s.heap ret) {r : Option Nat} {nm : String} {Qp : Option Value → va_W → Prop} {mc ms : Nat} (hd : decode cc pc = .ok (.areturn, 1)) (hr : ret = some (.object nm)) (hq : Qp (some (va_rf r)) ws) (hc : cells ≤ mc := by omega) (hs : slots ≤ ms := by omega) : GG p l e R s m args below meth c (MQ below (kPost D tys A Qp) args s mc ms A) nL D A s.heap ws cells slots pc lv ([va_rf r]) := fun H locs ls hP hD hS hl => by
  have hlocks : meth.locks = false := C.2.2.2.1
  exact W.widen hc hs (W.aret (v := va_rf r) C.1.1 C.1.2.1 (C.2.2.2.2.trans hr) (Or.inl ⟨nm, rfl⟩) (by cases r with | none => exact Or.inl rfl | some a => exact Or.inr ⟨a, rfl⟩) (fun t ht hW => ⟨_, ws, rfl, hq, by rw [ht]; exact hP, va_K.moved hW.alike C.2.1, hD, hS.F ht⟩) hS.2.2 hd)
theorem g_ofRun (C : CX p s m args meth c cc nL Ts own D tys A H0 ret) {mc ms : Nat} {rest st0 : List Value} {a : Array Value} {Qy : Option Value → va_W → Prop} {W1 : va_W}
    (hr : ∀ (H : Heap) (locs : List Loc) (ls : Array Slot), va_P D vwCl W1 H → va_D A W1 → va_S A H0 H locs → LVh ls nL lv → va_Run p l e R s m args below meth c H locs cells slots mc ms (F0 m pc ls st0) rest (kPost D tys A Qy a) A)
    (kk : ∀ (r : Option Value) (w : va_W), Qy r w → GG p l e R s m args below meth c Q nL D A H0 w (cells + mc) (slots + ms) (pc + 3) lv (r.toList ++ rest)) : GG p l e R s m args below meth c Q nL D A H0 W1 cells slots pc lv st0 := by
  intro H locs ls hP hD hS hl T hT X
  obtain ⟨v, st₀, t, T', L, h0, X', hL, e1, e2, ⟨r, w, hv, hq, hP1, hK1, hD1, hz, hk⟩, st⟩ := hr H locs ls hP hD hS hl T hT X
  cases hv
  rw [h0] at hz hk
  obtain ⟨t2, a1, b1⟩ := kk v w hq T'.heap (locs ++ L) ls (by rw [e1]; exact hP1) hD1
    ⟨Nat.le_trans hS.1 (by rw [e1]; exact hz), fun q h1 h2 => by rw [e1, hk q (Nat.lt_of_lt_of_le h1 hS.1) h2]; exact hS.2.1 q h1 h2, fun q hq => by
      rcases List.mem_append.mp hq with h | h
      · exact hS.2.2 q h
      · exact hL q h⟩ hl T' rfl X'
  exact ⟨t2, st t2 a1, b1⟩
theorem g_callV (C : CX p s m args meth c cc nL Ts own D tys A H0 ret) {y : MethodName} {wy wy' : List Cond} {rm : Room} {mc ms maxL index n ci : Nat} {bytes : ByteArray} {rt : Option FieldType} {Cl : String} {b : Nat} {As rest : List Value} {W1 : va_W} {Qy : Option Value → va_W → Prop} {fs : List Value} {rc : vw_C}
    (hM : Met l y wy rm (kPre D tys A (Value.ref b :: As) W1) (kPost D tys A Qy) mc ms A) (hG : GoodIn Ts (wsV own index Cl y wy)) (hw : wy = Cond.code y bytes maxL rt :: wy') (hrc : rm.cells = mc) (hrs : rm.slots = ms)
    (hdy : y.cls = Cl ∧ y.cls ≠ "java/lang/invoke/MethodHandle" ∧ y.cls ≠ "java/lang/invoke/VarHandle" ∧ (parseMethodDescriptor y.desc).map (fun d => d.parameters.length) = some n) (hR : rm.frames + 1 ≤ R.frames ∧ 8 + (maxL + 11) + rm.locals ≤ R.locals)
    (hb : (b, .inr (ci, fs)) ∈ W1) (hci : vwCl[ci]? = some rc) (hrcl : rc.1 = Cl) (hn : As.length = n) (hst : st = As.reverse ++ .ref b :: rest) (hcat : (rest.map fun v => v.category).sum ≤ 8) (hd : decode cc pc = .ok (.invokevirtual index, 3)) (hf : cells + mc ≤ R.cells ∧ slots + ms ≤ R.slots)
    (kk : ∀ (r : Option Value) (w : va_W), Qy r w → GG p l e R s m args below meth c Q nL D A H0 w (cells + mc) (slots + ms) (pc + 3) lv (r.toList ++ rest)) : GG p l e R s m args below meth c Q nL D A H0 W1 cells slots pc lv st := by
  refine g_ofRun C (a := (Value.ref b :: As).toArray) (fun H locs ls hP hD hS hl => ?_) kk
  obtain ⟨q0, hq0⟩ := List.getElem?_of_mem hb
  exact va_runV (C := Cl) (n := n) C.1 hM (cwV n C.1.2.2.2.2 hG hw hrc hrs hdy hR) ⟨kPre_blind, by rw [← hrcl]; exact va_recv C.2.1 hP (q0 := q0) hci hq0, fun U hU hW => ⟨rfl, fun q hq => C.2.2.1 q (by rw [hU] at hq; exact Nat.le_trans hS.1 hq), by rw [hU]; exact hP, va_K.moved hW.alike C.2.1, hD⟩⟩ rfl hn hl.1.1 hst (lv_room hcat) hd hf
theorem g_callS (C : CX p s m args meth c cc nL Ts own D tys A H0 ret) {y : MethodName} {wy wy' : List Cond} {rm : Room} {mc ms maxL index n : Nat} {bytes : ByteArray} {rt : Option FieldType} {As rest : List Value} {W1 : va_W} {Qy : Option Value → va_W → Prop}
    (hM : Met l y wy rm (kPre D tys A As W1) (kPost D tys A Qy) mc ms A) (hG : GoodIn Ts (va_wsS own index y wy)) (hw : wy = Cond.code y bytes maxL rt :: wy') (hrc : rm.cells = mc) (hrs : rm.slots = ms)
    (hdy : y.cls ≠ "java/lang/invoke/MethodHandle" ∧ y.cls ≠ "java/lang/invoke/VarHandle" ∧ (parseMethodDescriptor y.desc).map (fun d => d.parameters.length) = some n) (hR : rm.frames + 1 ≤ R.frames ∧ 8 + (maxL + 11) + rm.locals ≤ R.locals)
    (hn : As.length = n) (hst : st = As.reverse ++ rest) (hcat : (rest.map fun v => v.category).sum ≤ 8) (hd : decode cc pc = .ok (.invokestatic index, 3)) (hf : cells + mc ≤ R.cells ∧ slots + ms ≤ R.slots)
    (kk : ∀ (r : Option Value) (w : va_W), Qy r w → GG p l e R s m args below meth c Q nL D A H0 w (cells + mc) (slots + ms) (pc + 3) lv (r.toList ++ rest)) : GG p l e R s m args below meth c Q nL D A H0 W1 cells slots pc lv st := by
  refine g_ofRun C (a := As.toArray) (fun H locs ls hP hD hS hl => ?_) kk
  have ok : ∀ w ∈ va_wsS own index y wy, w.before args s = true := fun w h => C.1.2.2.2.2 w (hG w h).1
  exact va_runS (n := n) C.1 hM ⟨callB_of n C.1.2.2.2.2 (fun w h => hG w (by unfold va_wsS; exact List.mem_append_right _ h)) hw hrc hrs (ok _ (by simp [va_wsS])) (ok _ (by simp [va_wsS])) hdy hR, ok _ (by simp [va_wsS])⟩ ⟨kPre_blind, fun U hU hW => ⟨rfl, fun q hq => C.2.2.1 q (by rw [hU] at hq; exact Nat.le_trans hS.1 hq), by rw [hU]; exact hP, va_K.moved hW.alike C.2.1, hD⟩⟩ rfl hn hl.1.1 hst (lv_room hcat) hd hf
theorem g_callI (C : CX p s m args meth c cc nL Ts own D tys A H0 ret) {y : MethodName} {wy wy' : List Cond} {rm : Room} {mc ms maxL index n : Nat} {bytes : ByteArray} {b : Nat} {As rest : List Value} {W1 : va_W} {Qy : Option Value → va_W → Prop}
    (hM : Met l y wy rm (kPre D tys A (Value.ref b :: As) W1) (kPost D tys A Qy) mc ms A) (hG : GoodIn Ts wy) (hw : wy = Cond.code y bytes maxL none :: wy') (hrc : rm.cells = mc) (hrs : rm.slots = ms)
    (hini : Cond.initialized y.cls ∈ Ts) (hlk : Cond.methodLink own index y ∈ Ts) (hinst : Cond.instanceMethod y ∈ Ts) (hyn : y.name = "<init>")
    (hdy : y.cls ≠ "java/lang/invoke/MethodHandle" ∧ y.cls ≠ "java/lang/invoke/VarHandle" ∧ (parseMethodDescriptor y.desc).map (fun d => d.parameters.length) = some n) (hR : rm.frames + 1 ≤ R.frames ∧ 8 + (maxL + 11) + rm.locals ≤ R.locals)
    (hn : As.length = n) (hst : st = As.reverse ++ .ref b :: rest) (hcat : (rest.map fun v => v.category).sum ≤ 8) (hd : decode cc pc = .ok (.invokespecial index, 3)) (hf : cells + mc ≤ R.cells ∧ slots + ms ≤ R.slots)
    (kk : ∀ (r : Option Value) (w : va_W), Qy r w → GG p l e R s m args below meth c Q nL D A H0 w (cells + mc) (slots + ms) (pc + 3) lv (r.toList ++ rest)) : GG p l e R s m args below meth c Q nL D A H0 W1 cells slots pc lv st := by
  refine g_ofRun C (a := (Value.ref b :: As).toArray) (fun H locs ls hP hD hS hl => ?_) kk
  exact va_runI (n := n) C.1 hM ⟨callB_of n C.1.2.2.2.2 hG hw hrc hrs (C.1.2.2.2.2 _ hini) (C.1.2.2.2.2 _ hlk) hdy hR, hyn, C.1.2.2.2.2 _ hinst⟩ ⟨kPre_blind, fun U hU hW => ⟨rfl, fun q hq => C.2.2.1 q (by rw [hU] at hq; exact Nat.le_trans hS.1 hq), by rw [hU]; exact hP, va_K.moved hW.alike C.2.1, hD⟩⟩ rfl hn hl.1.1 hst (lv_room hcat) hd hf
end GB
theorem lvh_entry (av : List Value) {n : Nat} (h : (lg_sl av).length ≤ n) (hc : ∀ q ∈ lv_args 0 av, q.2.category = 1) : LVh ((lg_sl av ++ List.replicate (n - (lg_sl av).length) Slot.unset).toArray) n (lv_args 0 av) := ⟨lv_entry av h, hc⟩
theorem k_ofW {l : Launch} {y : MethodName} {wy wy' : List Cond} {rm : Room} {mc ms : Nat} {cc : ByteArray} {maxL : Nat} {ret : Option FieldType} {D : va_G} {tys : List (ClassId × FieldType)} {A : Nat → Prop} {av : List Value} {W0 : va_W} {Qp : Option Value → va_W → Prop} (lv : List (Nat × Value))
    (hy : plainName y.cls = true) (hw : wy = Cond.code y cc maxL ret :: wy') (hn : (lg_sl av).length ≤ maxL) (hlv : lv_args 0 av = lv) (hc : ∀ q ∈ lv, q.2.category = 1)
    (body : ∀ (p : Program) (e : Env) (s : State) (m : MethodId) (args : Array Value) (below : List Frame) (meth : Method) (c : Code), CX p s m args meth c cc maxL wy y.cls D tys A s.heap ret →
      GG p l e rm s m args below meth c (MQ below (kPost D tys A Qp) args s mc ms A) maxL D A s.heap W0 0 0 0 lv []) : Met l y wy rm (kPre D tys A av W0) (kPost D tys A Qp) mc ms A := by
  refine Met.ofW (cc := cc) (maxL := maxL) (ret := ret) hy hw ?_
  intro p e s m args below meth c s₁ B hml hv
  obtain ⟨rfl, hA, hP, hK, hD⟩ := hv
  have hts := atoms_spec (ws := wy) B.pre
  have hown : s.vm.findClass y.cls = some m.cls := findClass_of_methodNamed B.named
  rw [lg_entry_eq]
  exact body p e s m av.toArray below meth c ⟨⟨B.exec, B.bytes, hml, hown, hts⟩, hK, hA, B.notSynchronized, B.returns⟩ s.heap [] _ hP hD va_S.rf (by rw [← hlv]; exact lvh_entry av hn (by rw [hlv]; exact hc))
end
section
def tyG (g : Nat → ClassId) : List (ClassId × FieldType) := [(g 0, .int), (g 1, .boolean), (g 2, .object "VersionTrans$Row"), (g 3, .object "VersionTrans$Transaction"), (g 4, .long)]
/-- maps of maps of numbers, changed at one place -/
def u2 {α : Type} (V : Nat → Nat → α) (k i : Nat) (v : α) : Nat → Nat → α := fun k' => if k' = k then va_up (V k) i v else V k'
theorem u2_eq {α : Type} (V : Nat → Nat → α) (k i : Nat) (v : α) (k' i' : Nat) : u2 V k i v k' i' = if k' = k ∧ i' = i then v else V k' i' := by
  unfold u2 va_up
  by_cases h : k' = k
  · subst h
    by_cases h2 : i' = i <;> simp [h2]
  · simp [h]
theorem u2_same {α : Type} (V : Nat → Nat → α) (k i : Nat) (v : α) : u2 V k i v k i = v := by simp [u2_eq]
theorem u2_nk {α : Type} (V : Nat → Nat → α) {k k' : Nat} (i : Nat) (v : α) (i' : Nat) (h : k' ≠ k) : u2 V k i v k' i' = V k' i' := by simp [u2_eq, h]
theorem u2_ni {α : Type} (V : Nat → Nat → α) {i i' : Nat} (k : Nat) (v : α) (k' : Nat) (h : i' ≠ i) : u2 V k i v k' i' = V k' i' := by simp [u2_eq, h]
theorem u2_self {α : Type} (V : Nat → Nat → α) (k i : Nat) : u2 V k i (V k i) = V := by
  funext a b
  rw [u2_eq]
  by_cases h : a = k ∧ b = i
  · rw [if_pos h, h.1, h.2]
  · rw [if_neg h]
/-- what an array of the reference holds; with one taken off, where -1 stands for none -/
def mA (V : Nat → Nat → Nat) (k : Nat) : Nat → Int32 := fun i => nI (V k i)
def mB (V : Nat → Nat → Nat) (k : Nat) : Nat → Int32 := fun i => nI (V k i) - 1
theorem mA_up (V : Nat → Nat → Nat) (k i v : Nat) : upd (mA V k) i (nI v) = mA (u2 V k i v) k := by
  funext j
  unfold mA upd
  rw [u2_eq]
  by_cases h : j = i
  · simp [h]
  · simp [h]
theorem mB_up (V : Nat → Nat → Nat) (k i v : Nat) : upd (mB V k) i (nI v - 1) = mB (u2 V k i v) k := by
  funext j
  unfold mB upd
  rw [u2_eq]
  by_cases h : j = i
  · simp [h]
  · simp [h]
theorem nar_bool {v : Nat} (h : v ≤ 1) : vp_nar .boolean (nI v) = nI v := by
  rcases (show v = 0 ∨ v = 1 by omega) with rfl | rfl <;> decide +kernel
theorem nar_boolV {v : Nat} (h : v ≤ 1) : narrow .boolean (.int (nI v)) = .int (nI v) := by
  rcases (show v = 0 ∨ v = 1 by omega) with rfl | rfl <;> decide +kernel
theorem fit_boolV {v : Nat} (h : v ≤ 1) : fits .boolean (.int (nI v)) = true := by
  rcases (show v = 0 ∨ v = 1 by omega) with rfl | rfl <;> decide +kernel
/-- the reference's object and its arrays, all told by V -/
def mW (g : Nat → ClassId) (xm : Nat → Nat) (V : Nat → Nat → Nat) : va_W := [(xm 0, .inr (3, [.ref (xm 1), .ref (xm 2), .ref (xm 3), .int (nI (V 3 0)), .int (nI (V 4 0)), .ref (xm 4), .ref (xm 5), .ref (xm 6), .ref (xm 7), .ref (xm 8), .ref (xm 9), .ref (xm 10), .ref (xm 11), .ref (xm 12), .ref (xm 13), .int (nI (V 15 0)), .int (nI (V 16 0)), .ref (xm 14), .ref (xm 15), .int (nI (V 19 0)), .int (nI (V 20 0)), .ref (xm 16), .int (nI (V 22 0)), .ref (xm 17), .ref (xm 18), .int (nI (V 25 0)), .ref (xm 19)])), (xm 1, .inl (g 0, 13000, .inl (mA V 0))), (xm 2, .inl (g 0, 13000, .inl (mA V 1))), (xm 3, .inl (g 1, 13000, .inl (mA V 2))), (xm 4, .inl (g 0, 64, .inl (mA V 5))), (xm 5, .inl (g 1, 60, .inl (mA V 6))), (xm 6, .inl (g 0, 60, .inl (mA V 7))), (xm 7, .inl (g 0, 60, .inl (mA V 8))), (xm 8, .inl (g 0, 60, .inl (mA V 9))), (xm 9, .inl (g 0, 12000, .inl (mA V 10))), (xm 10, .inl (g 0, 60, .inl (mB V 11))), (xm 11, .inl (g 0, 60, .inl (mA V 12))), (xm 12, .inl (g 1, 60, .inl (mA V 13))), (xm 13, .inl (g 0, 60, .inl (mA V 14))), (xm 14, .inl (g 0, 200, .inl (mB V 17))), (xm 15, .inl (g 0, 4000, .inl (mA V 18))), (xm 16, .inl (g 0, 60, .inl (mA V 21))), (xm 17, .inl (g 0, 200, .inl (mA V 23))), (xm 18, .inl (g 0, 4, .inl (mA V 24))), (xm 19, .inl (g 0, 200, .inl (mB V 26)))]
section MWR
variable {p : Program} {l : Launch} {e : Env} {R : Room} {s : State} {m : MethodId} {args : Array Value} {below : List Frame} {meth : Method} {c : Code} {Q : State → Prop} {cc : ByteArray} {nL : Nat} {Ts : List Cond} {own : String} {D : va_G} {A : Nat → Prop} {H0 : Heap} {ret : Option FieldType} {cells slots pc : Nat} {lv : List (Nat × Value)} {st : List Value} {g : Nat → ClassId} {xm : Nat → Nat} {V : Nat → Nat → Nat}
theorem mg_rowTriples (C : CX p s m args meth c cc nL Ts own D (tyG g) A H0 ret) {idx : Nat} (hin : ∀ w ∈ wsX30, w ∈ Ts) (hlk : Cond.fieldLink own idx "VersionTransModel" "rowTriples" "[I" ∈ Ts) (hd : decode cc pc = .ok (.getfield idx, 3)) (kk : GG p l e R s m args below meth c Q nL D A H0 (mW g xm V) cells slots (pc + 3) lv (.ref (xm 1) :: st)) : GG p l e R s m args below meth c Q nL D A H0 (mW g xm V) cells slots pc lv (.ref (xm 0) :: st) := fun H locs ls hP hD hS hl => va_get (D := D) (ci := 3) (v := .ref (xm 1)) (C := RX3) (T := TX3) (N := 27) C.1.1 C.1.2.1 C.1.2.2.2.2 hin C.1.2.2.2.1 C.2.1 hP 0 rfl rfl 0 (by decide) (C.1.2.2.2.2 _ hlk) (fun _ h9 => h9) rfl hd (kk H locs ls hP hD hS hl)
theorem ml_rowTriples (C : CX p s m args meth c cc nL Ts own D (tyG g) A H0 ret) {i : Nat} (hd : decode cc pc = .ok (.iaload, 1)) (hi : i < 13000) (kk : GG p l e R s m args below meth c Q nL D A H0 (mW g xm V) cells slots (pc + 1) lv (.int (nI (V 0 i)) :: st)) : GG p l e R s m args below meth c Q nL D A H0 (mW g xm V) cells slots pc lv (.int (nI i) :: .ref (xm 1) :: st) := fun H locs ls hP hD hS hl => va_iald C.1.1 C.1.2.1 C.2.1 hP 1 0 rfl rfl (vp_in_nI hi (by decide)) hd (by rw [nI_clamp (Nat.lt_trans hi (by decide))]; exact (kk H locs ls hP hD hS hl))
theorem ms_rowTriples (C : CX p s m args meth c cc nL Ts own D (tyG g) A H0 ret) {i v : Nat} (hd : decode cc pc = .ok (.iastore, 1)) (hi : i < 13000) (kk : GG p l e R s m args below meth c Q nL D A H0 (mW g xm (u2 V 0 i v)) cells slots (pc + 1) lv st) : GG p l e R s m args below meth c Q nL D A H0 (mW g xm V) cells slots pc lv (.int (nI v) :: .int (nI i) :: .ref (xm 1) :: st) := fun H locs ls hP hD hS hl => va_iast C.1.1 C.1.2.1 C.2.1 hP hD hS 1 0 rfl rfl (vp_in_nI hi (by decide)) hd (by
  rw [nI_clamp (Nat.lt_trans hi (by decide)), mA_up]
  exact fun H1 locs1 hP1 hD1 hS1 => kk H1 locs1 ls hP1 hD1 hS1 hl)
theorem mg_rowVersions (C : CX p s m args meth c cc nL Ts own D (tyG g) A H0 ret) {idx : Nat} (hin : ∀ w ∈ wsX30, w ∈ Ts) (hlk : Cond.fieldLink own idx "VersionTransModel" "rowVersions" "[I" ∈ Ts) (hd : decode cc pc = .ok (.getfield idx, 3)) (kk : GG p l e R s m args below meth c Q nL D A H0 (mW g xm V) cells slots (pc + 3) lv (.ref (xm 2) :: st)) : GG p l e R s m args below meth c Q nL D A H0 (mW g xm V) cells slots pc lv (.ref (xm 0) :: st) := fun H locs ls hP hD hS hl => va_get (D := D) (ci := 3) (v := .ref (xm 2)) (C := RX3) (T := TX3) (N := 27) C.1.1 C.1.2.1 C.1.2.2.2.2 hin C.1.2.2.2.1 C.2.1 hP 0 rfl rfl 1 (by decide) (C.1.2.2.2.2 _ hlk) (fun _ h9 => h9) rfl hd (kk H locs ls hP hD hS hl)
theorem ml_rowVersions (C : CX p s m args meth c cc nL Ts own D (tyG g) A H0 ret) {i : Nat} (hd : decode cc pc = .ok (.iaload, 1)) (hi : i < 13000) (kk : GG p l e R s m args below meth c Q nL D A H0 (mW g xm V) cells slots (pc + 1) lv (.int (nI (V 1 i)) :: st)) : GG p l e R s m args below meth c Q nL D A H0 (mW g xm V) cells slots pc lv (.int (nI i) :: .ref (xm 2) :: st) := fun H locs ls hP hD hS hl => va_iald C.1.1 C.1.2.1 C.2.1 hP 2 0 rfl rfl (vp_in_nI hi (by decide)) hd (by rw [nI_clamp (Nat.lt_trans hi (by decide))]; exact (kk H locs ls hP hD hS hl))
theorem ms_rowVersions (C : CX p s m args meth c cc nL Ts own D (tyG g) A H0 ret) {i v : Nat} (hd : decode cc pc = .ok (.iastore, 1)) (hi : i < 13000) (kk : GG p l e R s m args below meth c Q nL D A H0 (mW g xm (u2 V 1 i v)) cells slots (pc + 1) lv st) : GG p l e R s m args below meth c Q nL D A H0 (mW g xm V) cells slots pc lv (.int (nI v) :: .int (nI i) :: .ref (xm 2) :: st) := fun H locs ls hP hD hS hl => va_iast C.1.1 C.1.2.1 C.2.1 hP hD hS 2 0 rfl rfl (vp_in_nI hi (by decide)) hd (by
  rw [nI_clamp (Nat.lt_trans hi (by decide)), mA_up]
  exact fun H1 locs1 hP1 hD1 hS1 => kk H1 locs1 ls hP1 hD1 hS1 hl)
theorem mg_rowTells (C : CX p s m args meth c cc nL Ts own D (tyG g) A H0 ret) {idx : Nat} (hin : ∀ w ∈ wsX30, w ∈ Ts) (hlk : Cond.fieldLink own idx "VersionTransModel" "rowTells" "[Z" ∈ Ts) (hd : decode cc pc = .ok (.getfield idx, 3)) (kk : GG p l e R s m args below meth c Q nL D A H0 (mW g xm V) cells slots (pc + 3) lv (.ref (xm 3) :: st)) : GG p l e R s m args below meth c Q nL D A H0 (mW g xm V) cells slots pc lv (.ref (xm 0) :: st) := fun H locs ls hP hD hS hl => va_get (D := D) (ci := 3) (v := .ref (xm 3)) (C := RX3) (T := TX3) (N := 27) C.1.1 C.1.2.1 C.1.2.2.2.2 hin C.1.2.2.2.1 C.2.1 hP 0 rfl rfl 2 (by decide) (C.1.2.2.2.2 _ hlk) (fun _ h9 => h9) rfl hd (kk H locs ls hP hD hS hl)
theorem ml_rowTells (C : CX p s m args meth c cc nL Ts own D (tyG g) A H0 ret) {i : Nat} (hd : decode cc pc = .ok (.baload, 1)) (hi : i < 13000) (kk : GG p l e R s m args below meth c Q nL D A H0 (mW g xm V) cells slots (pc + 1) lv (.int (nI (V 2 i)) :: st)) : GG p l e R s m args below meth c Q nL D A H0 (mW g xm V) cells slots pc lv (.int (nI i) :: .ref (xm 3) :: st) := fun H locs ls hP hD hS hl => va_zald C.1.1 C.1.2.1 C.2.1 hP 3 1 rfl rfl (vp_in_nI hi (by decide)) hd (by rw [nI_clamp (Nat.lt_trans hi (by decide))]; exact (kk H locs ls hP hD hS hl))
theorem ms_rowTells (C : CX p s m args meth c cc nL Ts own D (tyG g) A H0 ret) {i v : Nat} (hv9 : v ≤ 1) (hd : decode cc pc = .ok (.bastore, 1)) (hi : i < 13000) (kk : GG p l e R s m args below meth c Q nL D A H0 (mW g xm (u2 V 2 i v)) cells slots (pc + 1) lv st) : GG p l e R s m args below meth c Q nL D A H0 (mW g xm V) cells slots pc lv (.int (nI v) :: .int (nI i) :: .ref (xm 3) :: st) := fun H locs ls hP hD hS hl => va_zast C.1.1 C.1.2.1 C.2.1 hP hD hS 3 1 rfl rfl (vp_in_nI hi (by decide)) hd (by
  rw [nI_clamp (Nat.lt_trans hi (by decide)), nar_bool hv9, mA_up]
  exact fun H1 locs1 hP1 hD1 hS1 => kk H1 locs1 ls hP1 hD1 hS1 hl)
theorem mg_rows (C : CX p s m args meth c cc nL Ts own D (tyG g) A H0 ret) {idx : Nat} (hin : ∀ w ∈ wsX30, w ∈ Ts) (hlk : Cond.fieldLink own idx "VersionTransModel" "rows" "I" ∈ Ts) (hd : decode cc pc = .ok (.getfield idx, 3)) (kk : GG p l e R s m args below meth c Q nL D A H0 (mW g xm V) cells slots (pc + 3) lv (.int (nI (V 3 0)) :: st)) : GG p l e R s m args below meth c Q nL D A H0 (mW g xm V) cells slots pc lv (.ref (xm 0) :: st) := fun H locs ls hP hD hS hl => va_get (D := D) (ci := 3) (v := .int (nI (V 3 0))) (C := RX3) (T := TX3) (N := 27) C.1.1 C.1.2.1 C.1.2.2.2.2 hin C.1.2.2.2.1 C.2.1 hP 0 rfl rfl 3 (by decide) (C.1.2.2.2.2 _ hlk) (fun _ h9 => h9) rfl hd (kk H locs ls hP hD hS hl)
theorem mp_rows (C : CX p s m args meth c cc nL Ts own D (tyG g) A H0 ret) {idx v : Nat} (hin : ∀ w ∈ wsX30, w ∈ Ts) (hlk : Cond.fieldLink own idx "VersionTransModel" "rows" "I" ∈ Ts) (hd : decode cc pc = .ok (.putfield idx, 3)) (kk : GG p l e R s m args below meth c Q nL D A H0 (mW g xm (u2 V 3 0 v)) cells slots (pc + 3) lv st) : GG p l e R s m args below meth c Q nL D A H0 (mW g xm V) cells slots pc lv (.int (nI v) :: .ref (xm 0) :: st) := fun H locs ls hP hD hS hl => va_put (D := D) (ci := 3) (v := .int (nI v)) (ty := .int) (C := RX3) (T := TX3) (N := 27) C.1.1 C.1.2.1 C.1.2.2.2.2 hin tyX3 tyX3_ok nmX3 C.1.2.2.2.1 C.2.1 hP hD hS 0 rfl rfl 3 (by decide) (C.1.2.2.2.2 _ hlk) (fun _ h9 => h9) rfl (by decide +kernel) rfl rfl (Nat.le_of_ble_eq_true rfl) hd (fun H1 locs1 hP1 hD1 hS1 => kk H1 locs1 ls hP1 hD1 hS1 hl)
theorem mg_latest (C : CX p s m args meth c cc nL Ts own D (tyG g) A H0 ret) {idx : Nat} (hin : ∀ w ∈ wsX30, w ∈ Ts) (hlk : Cond.fieldLink own idx "VersionTransModel" "latest" "I" ∈ Ts) (hd : decode cc pc = .ok (.getfield idx, 3)) (kk : GG p l e R s m args below meth c Q nL D A H0 (mW g xm V) cells slots (pc + 3) lv (.int (nI (V 4 0)) :: st)) : GG p l e R s m args below meth c Q nL D A H0 (mW g xm V) cells slots pc lv (.ref (xm 0) :: st) := fun H locs ls hP hD hS hl => va_get (D := D) (ci := 3) (v := .int (nI (V 4 0))) (C := RX3) (T := TX3) (N := 27) C.1.1 C.1.2.1 C.1.2.2.2.2 hin C.1.2.2.2.1 C.2.1 hP 0 rfl rfl 4 (by decide) (C.1.2.2.2.2 _ hlk) (fun _ h9 => h9) rfl hd (kk H locs ls hP hD hS hl)
theorem mp_latest (C : CX p s m args meth c cc nL Ts own D (tyG g) A H0 ret) {idx v : Nat} (hin : ∀ w ∈ wsX30, w ∈ Ts) (hlk : Cond.fieldLink own idx "VersionTransModel" "latest" "I" ∈ Ts) (hd : decode cc pc = .ok (.putfield idx, 3)) (kk : GG p l e R s m args below meth c Q nL D A H0 (mW g xm (u2 V 4 0 v)) cells slots (pc + 3) lv st) : GG p l e R s m args below meth c Q nL D A H0 (mW g xm V) cells slots pc lv (.int (nI v) :: .ref (xm 0) :: st) := fun H locs ls hP hD hS hl => va_put (D := D) (ci := 3) (v := .int (nI v)) (ty := .int) (C := RX3) (T := TX3) (N := 27) C.1.1 C.1.2.1 C.1.2.2.2.2 hin tyX3 tyX3_ok nmX3 C.1.2.2.2.1 C.2.1 hP hD hS 0 rfl rfl 4 (by decide) (C.1.2.2.2.2 _ hlk) (fun _ h9 => h9) rfl (by decide +kernel) rfl rfl (Nat.le_of_ble_eq_true rfl) hd (fun H1 locs1 hP1 hD1 hS1 => kk H1 locs1 ls hP1 hD1 hS1 hl)
theorem mg_pins (C : CX p s m args meth c cc nL Ts own D (tyG g) A H0 ret) {idx : Nat} (hin : ∀ w ∈ wsX30, w ∈ Ts) (hlk : Cond.fieldLink own idx "VersionTransModel" "pins" "[I" ∈ Ts) (hd : decode cc pc = .ok (.getfield idx, 3)) (kk : GG p l e R s m args below meth c Q nL D A H0 (mW g xm V) cells slots (pc + 3) lv (.ref (xm 4) :: st)) : GG p l e R s m args below meth c Q nL D A H0 (mW g xm V) cells slots pc lv (.ref (xm 0) :: st) := fun H locs ls hP hD hS hl => va_get (D := D) (ci := 3) (v := .ref (xm 4)) (C := RX3) (T := TX3) (N := 27) C.1.1 C.1.2.1 C.1.2.2.2.2 hin C.1.2.2.2.1 C.2.1 hP 0 rfl rfl 5 (by decide) (C.1.2.2.2.2 _ hlk) (fun _ h9 => h9) rfl hd (kk H locs ls hP hD hS hl)
theorem ml_pins (C : CX p s m args meth c cc nL Ts own D (tyG g) A H0 ret) {i : Nat} (hd : decode cc pc = .ok (.iaload, 1)) (hi : i < 64) (kk : GG p l e R s m args below meth c Q nL D A H0 (mW g xm V) cells slots (pc + 1) lv (.int (nI (V 5 i)) :: st)) : GG p l e R s m args below meth c Q nL D A H0 (mW g xm V) cells slots pc lv (.int (nI i) :: .ref (xm 4) :: st) := fun H locs ls hP hD hS hl => va_iald C.1.1 C.1.2.1 C.2.1 hP 4 0 rfl rfl (vp_in_nI hi (by decide)) hd (by rw [nI_clamp (Nat.lt_trans hi (by decide))]; exact (kk H locs ls hP hD hS hl))
theorem ms_pins (C : CX p s m args meth c cc nL Ts own D (tyG g) A H0 ret) {i v : Nat} (hd : decode cc pc = .ok (.iastore, 1)) (hi : i < 64) (kk : GG p l e R s m args below meth c Q nL D A H0 (mW g xm (u2 V 5 i v)) cells slots (pc + 1) lv st) : GG p l e R s m args below meth c Q nL D A H0 (mW g xm V) cells slots pc lv (.int (nI v) :: .int (nI i) :: .ref (xm 4) :: st) := fun H locs ls hP hD hS hl => va_iast C.1.1 C.1.2.1 C.2.1 hP hD hS 4 0 rfl rfl (vp_in_nI hi (by decide)) hd (by
  rw [nI_clamp (Nat.lt_trans hi (by decide)), mA_up]
  exact fun H1 locs1 hP1 hD1 hS1 => kk H1 locs1 ls hP1 hD1 hS1 hl)
theorem mg_writers (C : CX p s m args meth c cc nL Ts own D (tyG g) A H0 ret) {idx : Nat} (hin : ∀ w ∈ wsX30, w ∈ Ts) (hlk : Cond.fieldLink own idx "VersionTransModel" "writers" "[Z" ∈ Ts) (hd : decode cc pc = .ok (.getfield idx, 3)) (kk : GG p l e R s m args below meth c Q nL D A H0 (mW g xm V) cells slots (pc + 3) lv (.ref (xm 5) :: st)) : GG p l e R s m args below meth c Q nL D A H0 (mW g xm V) cells slots pc lv (.ref (xm 0) :: st) := fun H locs ls hP hD hS hl => va_get (D := D) (ci := 3) (v := .ref (xm 5)) (C := RX3) (T := TX3) (N := 27) C.1.1 C.1.2.1 C.1.2.2.2.2 hin C.1.2.2.2.1 C.2.1 hP 0 rfl rfl 6 (by decide) (C.1.2.2.2.2 _ hlk) (fun _ h9 => h9) rfl hd (kk H locs ls hP hD hS hl)
theorem ml_writers (C : CX p s m args meth c cc nL Ts own D (tyG g) A H0 ret) {i : Nat} (hd : decode cc pc = .ok (.baload, 1)) (hi : i < 60) (kk : GG p l e R s m args below meth c Q nL D A H0 (mW g xm V) cells slots (pc + 1) lv (.int (nI (V 6 i)) :: st)) : GG p l e R s m args below meth c Q nL D A H0 (mW g xm V) cells slots pc lv (.int (nI i) :: .ref (xm 5) :: st) := fun H locs ls hP hD hS hl => va_zald C.1.1 C.1.2.1 C.2.1 hP 5 1 rfl rfl (vp_in_nI hi (by decide)) hd (by rw [nI_clamp (Nat.lt_trans hi (by decide))]; exact (kk H locs ls hP hD hS hl))
theorem ms_writers (C : CX p s m args meth c cc nL Ts own D (tyG g) A H0 ret) {i v : Nat} (hv9 : v ≤ 1) (hd : decode cc pc = .ok (.bastore, 1)) (hi : i < 60) (kk : GG p l e R s m args below meth c Q nL D A H0 (mW g xm (u2 V 6 i v)) cells slots (pc + 1) lv st) : GG p l e R s m args below meth c Q nL D A H0 (mW g xm V) cells slots pc lv (.int (nI v) :: .int (nI i) :: .ref (xm 5) :: st) := fun H locs ls hP hD hS hl => va_zast C.1.1 C.1.2.1 C.2.1 hP hD hS 5 1 rfl rfl (vp_in_nI hi (by decide)) hd (by
  rw [nI_clamp (Nat.lt_trans hi (by decide)), nar_bool hv9, mA_up]
  exact fun H1 locs1 hP1 hD1 hS1 => kk H1 locs1 ls hP1 hD1 hS1 hl)
theorem mg_sees (C : CX p s m args meth c cc nL Ts own D (tyG g) A H0 ret) {idx : Nat} (hin : ∀ w ∈ wsX30, w ∈ Ts) (hlk : Cond.fieldLink own idx "VersionTransModel" "sees" "[I" ∈ Ts) (hd : decode cc pc = .ok (.getfield idx, 3)) (kk : GG p l e R s m args below meth c Q nL D A H0 (mW g xm V) cells slots (pc + 3) lv (.ref (xm 6) :: st)) : GG p l e R s m args below meth c Q nL D A H0 (mW g xm V) cells slots pc lv (.ref (xm 0) :: st) := fun H locs ls hP hD hS hl => va_get (D := D) (ci := 3) (v := .ref (xm 6)) (C := RX3) (T := TX3) (N := 27) C.1.1 C.1.2.1 C.1.2.2.2.2 hin C.1.2.2.2.1 C.2.1 hP 0 rfl rfl 7 (by decide) (C.1.2.2.2.2 _ hlk) (fun _ h9 => h9) rfl hd (kk H locs ls hP hD hS hl)
theorem ml_sees (C : CX p s m args meth c cc nL Ts own D (tyG g) A H0 ret) {i : Nat} (hd : decode cc pc = .ok (.iaload, 1)) (hi : i < 60) (kk : GG p l e R s m args below meth c Q nL D A H0 (mW g xm V) cells slots (pc + 1) lv (.int (nI (V 7 i)) :: st)) : GG p l e R s m args below meth c Q nL D A H0 (mW g xm V) cells slots pc lv (.int (nI i) :: .ref (xm 6) :: st) := fun H locs ls hP hD hS hl => va_iald C.1.1 C.1.2.1 C.2.1 hP 6 0 rfl rfl (vp_in_nI hi (by decide)) hd (by rw [nI_clamp (Nat.lt_trans hi (by decide))]; exact (kk H locs ls hP hD hS hl))
theorem ms_sees (C : CX p s m args meth c cc nL Ts own D (tyG g) A H0 ret) {i v : Nat} (hd : decode cc pc = .ok (.iastore, 1)) (hi : i < 60) (kk : GG p l e R s m args below meth c Q nL D A H0 (mW g xm (u2 V 7 i v)) cells slots (pc + 1) lv st) : GG p l e R s m args below meth c Q nL D A H0 (mW g xm V) cells slots pc lv (.int (nI v) :: .int (nI i) :: .ref (xm 6) :: st) := fun H locs ls hP hD hS hl => va_iast C.1.1 C.1.2.1 C.2.1 hP hD hS 6 0 rfl rfl (vp_in_nI hi (by decide)) hd (by
  rw [nI_clamp (Nat.lt_trans hi (by decide)), mA_up]
  exact fun H1 locs1 hP1 hD1 hS1 => kk H1 locs1 ls hP1 hD1 hS1 hl)
theorem mg_states (C : CX p s m args meth c cc nL Ts own D (tyG g) A H0 ret) {idx : Nat} (hin : ∀ w ∈ wsX30, w ∈ Ts) (hlk : Cond.fieldLink own idx "VersionTransModel" "states" "[I" ∈ Ts) (hd : decode cc pc = .ok (.getfield idx, 3)) (kk : GG p l e R s m args below meth c Q nL D A H0 (mW g xm V) cells slots (pc + 3) lv (.ref (xm 7) :: st)) : GG p l e R s m args below meth c Q nL D A H0 (mW g xm V) cells slots pc lv (.ref (xm 0) :: st) := fun H locs ls hP hD hS hl => va_get (D := D) (ci := 3) (v := .ref (xm 7)) (C := RX3) (T := TX3) (N := 27) C.1.1 C.1.2.1 C.1.2.2.2.2 hin C.1.2.2.2.1 C.2.1 hP 0 rfl rfl 8 (by decide) (C.1.2.2.2.2 _ hlk) (fun _ h9 => h9) rfl hd (kk H locs ls hP hD hS hl)
theorem ml_states (C : CX p s m args meth c cc nL Ts own D (tyG g) A H0 ret) {i : Nat} (hd : decode cc pc = .ok (.iaload, 1)) (hi : i < 60) (kk : GG p l e R s m args below meth c Q nL D A H0 (mW g xm V) cells slots (pc + 1) lv (.int (nI (V 8 i)) :: st)) : GG p l e R s m args below meth c Q nL D A H0 (mW g xm V) cells slots pc lv (.int (nI i) :: .ref (xm 7) :: st) := fun H locs ls hP hD hS hl => va_iald C.1.1 C.1.2.1 C.2.1 hP 7 0 rfl rfl (vp_in_nI hi (by decide)) hd (by rw [nI_clamp (Nat.lt_trans hi (by decide))]; exact (kk H locs ls hP hD hS hl))
theorem ms_states (C : CX p s m args meth c cc nL Ts own D (tyG g) A H0 ret) {i v : Nat} (hd : decode cc pc = .ok (.iastore, 1)) (hi : i < 60) (kk : GG p l e R s m args below meth c Q nL D A H0 (mW g xm (u2 V 8 i v)) cells slots (pc + 1) lv st) : GG p l e R s m args below meth c Q nL D A H0 (mW g xm V) cells slots pc lv (.int (nI v) :: .int (nI i) :: .ref (xm 7) :: st) := fun H locs ls hP hD hS hl => va_iast C.1.1 C.1.2.1 C.2.1 hP hD hS 7 0 rfl rfl (vp_in_nI hi (by decide)) hd (by
  rw [nI_clamp (Nat.lt_trans hi (by decide)), mA_up]
  exact fun H1 locs1 hP1 hD1 hS1 => kk H1 locs1 ls hP1 hD1 hS1 hl)
theorem mg_notes (C : CX p s m args meth c cc nL Ts own D (tyG g) A H0 ret) {idx : Nat} (hin : ∀ w ∈ wsX30, w ∈ Ts) (hlk : Cond.fieldLink own idx "VersionTransModel" "notes" "[I" ∈ Ts) (hd : decode cc pc = .ok (.getfield idx, 3)) (kk : GG p l e R s m args below meth c Q nL D A H0 (mW g xm V) cells slots (pc + 3) lv (.ref (xm 8) :: st)) : GG p l e R s m args below meth c Q nL D A H0 (mW g xm V) cells slots pc lv (.ref (xm 0) :: st) := fun H locs ls hP hD hS hl => va_get (D := D) (ci := 3) (v := .ref (xm 8)) (C := RX3) (T := TX3) (N := 27) C.1.1 C.1.2.1 C.1.2.2.2.2 hin C.1.2.2.2.1 C.2.1 hP 0 rfl rfl 9 (by decide) (C.1.2.2.2.2 _ hlk) (fun _ h9 => h9) rfl hd (kk H locs ls hP hD hS hl)
theorem ml_notes (C : CX p s m args meth c cc nL Ts own D (tyG g) A H0 ret) {i : Nat} (hd : decode cc pc = .ok (.iaload, 1)) (hi : i < 60) (kk : GG p l e R s m args below meth c Q nL D A H0 (mW g xm V) cells slots (pc + 1) lv (.int (nI (V 9 i)) :: st)) : GG p l e R s m args below meth c Q nL D A H0 (mW g xm V) cells slots pc lv (.int (nI i) :: .ref (xm 8) :: st) := fun H locs ls hP hD hS hl => va_iald C.1.1 C.1.2.1 C.2.1 hP 8 0 rfl rfl (vp_in_nI hi (by decide)) hd (by rw [nI_clamp (Nat.lt_trans hi (by decide))]; exact (kk H locs ls hP hD hS hl))
theorem ms_notes (C : CX p s m args meth c cc nL Ts own D (tyG g) A H0 ret) {i v : Nat} (hd : decode cc pc = .ok (.iastore, 1)) (hi : i < 60) (kk : GG p l e R s m args below meth c Q nL D A H0 (mW g xm (u2 V 9 i v)) cells slots (pc + 1) lv st) : GG p l e R s m args below meth c Q nL D A H0 (mW g xm V) cells slots pc lv (.int (nI v) :: .int (nI i) :: .ref (xm 8) :: st) := fun H locs ls hP hD hS hl => va_iast C.1.1 C.1.2.1 C.2.1 hP hD hS 8 0 rfl rfl (vp_in_nI hi (by decide)) hd (by
  rw [nI_clamp (Nat.lt_trans hi (by decide)), mA_up]
  exact fun H1 locs1 hP1 hD1 hS1 => kk H1 locs1 ls hP1 hD1 hS1 hl)
theorem mg_wrote (C : CX p s m args meth c cc nL Ts own D (tyG g) A H0 ret) {idx : Nat} (hin : ∀ w ∈ wsX30, w ∈ Ts) (hlk : Cond.fieldLink own idx "VersionTransModel" "wrote" "[I" ∈ Ts) (hd : decode cc pc = .ok (.getfield idx, 3)) (kk : GG p l e R s m args below meth c Q nL D A H0 (mW g xm V) cells slots (pc + 3) lv (.ref (xm 9) :: st)) : GG p l e R s m args below meth c Q nL D A H0 (mW g xm V) cells slots pc lv (.ref (xm 0) :: st) := fun H locs ls hP hD hS hl => va_get (D := D) (ci := 3) (v := .ref (xm 9)) (C := RX3) (T := TX3) (N := 27) C.1.1 C.1.2.1 C.1.2.2.2.2 hin C.1.2.2.2.1 C.2.1 hP 0 rfl rfl 10 (by decide) (C.1.2.2.2.2 _ hlk) (fun _ h9 => h9) rfl hd (kk H locs ls hP hD hS hl)
theorem ml_wrote (C : CX p s m args meth c cc nL Ts own D (tyG g) A H0 ret) {i : Nat} (hd : decode cc pc = .ok (.iaload, 1)) (hi : i < 12000) (kk : GG p l e R s m args below meth c Q nL D A H0 (mW g xm V) cells slots (pc + 1) lv (.int (nI (V 10 i)) :: st)) : GG p l e R s m args below meth c Q nL D A H0 (mW g xm V) cells slots pc lv (.int (nI i) :: .ref (xm 9) :: st) := fun H locs ls hP hD hS hl => va_iald C.1.1 C.1.2.1 C.2.1 hP 9 0 rfl rfl (vp_in_nI hi (by decide)) hd (by rw [nI_clamp (Nat.lt_trans hi (by decide))]; exact (kk H locs ls hP hD hS hl))
theorem ms_wrote (C : CX p s m args meth c cc nL Ts own D (tyG g) A H0 ret) {i v : Nat} (hd : decode cc pc = .ok (.iastore, 1)) (hi : i < 12000) (kk : GG p l e R s m args below meth c Q nL D A H0 (mW g xm (u2 V 10 i v)) cells slots (pc + 1) lv st) : GG p l e R s m args below meth c Q nL D A H0 (mW g xm V) cells slots pc lv (.int (nI v) :: .int (nI i) :: .ref (xm 9) :: st) := fun H locs ls hP hD hS hl => va_iast C.1.1 C.1.2.1 C.2.1 hP hD hS 9 0 rfl rfl (vp_in_nI hi (by decide)) hd (by
  rw [nI_clamp (Nat.lt_trans hi (by decide)), mA_up]
  exact fun H1 locs1 hP1 hD1 hS1 => kk H1 locs1 ls hP1 hD1 hS1 hl)
theorem mg_waitsFor (C : CX p s m args meth c cc nL Ts own D (tyG g) A H0 ret) {idx : Nat} (hin : ∀ w ∈ wsX30, w ∈ Ts) (hlk : Cond.fieldLink own idx "VersionTransModel" "waitsFor" "[I" ∈ Ts) (hd : decode cc pc = .ok (.getfield idx, 3)) (kk : GG p l e R s m args below meth c Q nL D A H0 (mW g xm V) cells slots (pc + 3) lv (.ref (xm 10) :: st)) : GG p l e R s m args below meth c Q nL D A H0 (mW g xm V) cells slots pc lv (.ref (xm 0) :: st) := fun H locs ls hP hD hS hl => va_get (D := D) (ci := 3) (v := .ref (xm 10)) (C := RX3) (T := TX3) (N := 27) C.1.1 C.1.2.1 C.1.2.2.2.2 hin C.1.2.2.2.1 C.2.1 hP 0 rfl rfl 11 (by decide) (C.1.2.2.2.2 _ hlk) (fun _ h9 => h9) rfl hd (kk H locs ls hP hD hS hl)
theorem ml_waitsFor (C : CX p s m args meth c cc nL Ts own D (tyG g) A H0 ret) {i : Nat} (hd : decode cc pc = .ok (.iaload, 1)) (hi : i < 60) (kk : GG p l e R s m args below meth c Q nL D A H0 (mW g xm V) cells slots (pc + 1) lv (.int (nI (V 11 i) - 1) :: st)) : GG p l e R s m args below meth c Q nL D A H0 (mW g xm V) cells slots pc lv (.int (nI i) :: .ref (xm 10) :: st) := fun H locs ls hP hD hS hl => va_iald C.1.1 C.1.2.1 C.2.1 hP 10 0 rfl rfl (vp_in_nI hi (by decide)) hd (by rw [nI_clamp (Nat.lt_trans hi (by decide))]; exact (kk H locs ls hP hD hS hl))
theorem ms_waitsFor (C : CX p s m args meth c cc nL Ts own D (tyG g) A H0 ret) {i : Nat} {x : Int32} (v : Nat) (hx9 : x = nI v - 1) (hd : decode cc pc = .ok (.iastore, 1)) (hi : i < 60) (kk : GG p l e R s m args below meth c Q nL D A H0 (mW g xm (u2 V 11 i v)) cells slots (pc + 1) lv st) : GG p l e R s m args below meth c Q nL D A H0 (mW g xm V) cells slots pc lv (.int x :: .int (nI i) :: .ref (xm 10) :: st) := fun H locs ls hP hD hS hl => va_iast C.1.1 C.1.2.1 C.2.1 hP hD hS 10 0 rfl rfl (vp_in_nI hi (by decide)) hd (by
  rw [nI_clamp (Nat.lt_trans hi (by decide)), hx9, mB_up]
  exact fun H1 locs1 hP1 hD1 hS1 => kk H1 locs1 ls hP1 hD1 hS1 hl)
theorem mg_waitTriples (C : CX p s m args meth c cc nL Ts own D (tyG g) A H0 ret) {idx : Nat} (hin : ∀ w ∈ wsX30, w ∈ Ts) (hlk : Cond.fieldLink own idx "VersionTransModel" "waitTriples" "[I" ∈ Ts) (hd : decode cc pc = .ok (.getfield idx, 3)) (kk : GG p l e R s m args below meth c Q nL D A H0 (mW g xm V) cells slots (pc + 3) lv (.ref (xm 11) :: st)) : GG p l e R s m args below meth c Q nL D A H0 (mW g xm V) cells slots pc lv (.ref (xm 0) :: st) := fun H locs ls hP hD hS hl => va_get (D := D) (ci := 3) (v := .ref (xm 11)) (C := RX3) (T := TX3) (N := 27) C.1.1 C.1.2.1 C.1.2.2.2.2 hin C.1.2.2.2.1 C.2.1 hP 0 rfl rfl 12 (by decide) (C.1.2.2.2.2 _ hlk) (fun _ h9 => h9) rfl hd (kk H locs ls hP hD hS hl)
theorem ml_waitTriples (C : CX p s m args meth c cc nL Ts own D (tyG g) A H0 ret) {i : Nat} (hd : decode cc pc = .ok (.iaload, 1)) (hi : i < 60) (kk : GG p l e R s m args below meth c Q nL D A H0 (mW g xm V) cells slots (pc + 1) lv (.int (nI (V 12 i)) :: st)) : GG p l e R s m args below meth c Q nL D A H0 (mW g xm V) cells slots pc lv (.int (nI i) :: .ref (xm 11) :: st) := fun H locs ls hP hD hS hl => va_iald C.1.1 C.1.2.1 C.2.1 hP 11 0 rfl rfl (vp_in_nI hi (by decide)) hd (by rw [nI_clamp (Nat.lt_trans hi (by decide))]; exact (kk H locs ls hP hD hS hl))
theorem ms_waitTriples (C : CX p s m args meth c cc nL Ts own D (tyG g) A H0 ret) {i v : Nat} (hd : decode cc pc = .ok (.iastore, 1)) (hi : i < 60) (kk : GG p l e R s m args below meth c Q nL D A H0 (mW g xm (u2 V 12 i v)) cells slots (pc + 1) lv st) : GG p l e R s m args below meth c Q nL D A H0 (mW g xm V) cells slots pc lv (.int (nI v) :: .int (nI i) :: .ref (xm 11) :: st) := fun H locs ls hP hD hS hl => va_iast C.1.1 C.1.2.1 C.2.1 hP hD hS 11 0 rfl rfl (vp_in_nI hi (by decide)) hd (by
  rw [nI_clamp (Nat.lt_trans hi (by decide)), mA_up]
  exact fun H1 locs1 hP1 hD1 hS1 => kk H1 locs1 ls hP1 hD1 hS1 hl)
theorem mg_waitTells (C : CX p s m args meth c cc nL Ts own D (tyG g) A H0 ret) {idx : Nat} (hin : ∀ w ∈ wsX30, w ∈ Ts) (hlk : Cond.fieldLink own idx "VersionTransModel" "waitTells" "[Z" ∈ Ts) (hd : decode cc pc = .ok (.getfield idx, 3)) (kk : GG p l e R s m args below meth c Q nL D A H0 (mW g xm V) cells slots (pc + 3) lv (.ref (xm 12) :: st)) : GG p l e R s m args below meth c Q nL D A H0 (mW g xm V) cells slots pc lv (.ref (xm 0) :: st) := fun H locs ls hP hD hS hl => va_get (D := D) (ci := 3) (v := .ref (xm 12)) (C := RX3) (T := TX3) (N := 27) C.1.1 C.1.2.1 C.1.2.2.2.2 hin C.1.2.2.2.1 C.2.1 hP 0 rfl rfl 13 (by decide) (C.1.2.2.2.2 _ hlk) (fun _ h9 => h9) rfl hd (kk H locs ls hP hD hS hl)
theorem ml_waitTells (C : CX p s m args meth c cc nL Ts own D (tyG g) A H0 ret) {i : Nat} (hd : decode cc pc = .ok (.baload, 1)) (hi : i < 60) (kk : GG p l e R s m args below meth c Q nL D A H0 (mW g xm V) cells slots (pc + 1) lv (.int (nI (V 13 i)) :: st)) : GG p l e R s m args below meth c Q nL D A H0 (mW g xm V) cells slots pc lv (.int (nI i) :: .ref (xm 12) :: st) := fun H locs ls hP hD hS hl => va_zald C.1.1 C.1.2.1 C.2.1 hP 12 1 rfl rfl (vp_in_nI hi (by decide)) hd (by rw [nI_clamp (Nat.lt_trans hi (by decide))]; exact (kk H locs ls hP hD hS hl))
theorem ms_waitTells (C : CX p s m args meth c cc nL Ts own D (tyG g) A H0 ret) {i v : Nat} (hv9 : v ≤ 1) (hd : decode cc pc = .ok (.bastore, 1)) (hi : i < 60) (kk : GG p l e R s m args below meth c Q nL D A H0 (mW g xm (u2 V 13 i v)) cells slots (pc + 1) lv st) : GG p l e R s m args below meth c Q nL D A H0 (mW g xm V) cells slots pc lv (.int (nI v) :: .int (nI i) :: .ref (xm 12) :: st) := fun H locs ls hP hD hS hl => va_zast C.1.1 C.1.2.1 C.2.1 hP hD hS 12 1 rfl rfl (vp_in_nI hi (by decide)) hd (by
  rw [nI_clamp (Nat.lt_trans hi (by decide)), nar_bool hv9, mA_up]
  exact fun H1 locs1 hP1 hD1 hS1 => kk H1 locs1 ls hP1 hD1 hS1 hl)
theorem mg_since (C : CX p s m args meth c cc nL Ts own D (tyG g) A H0 ret) {idx : Nat} (hin : ∀ w ∈ wsX30, w ∈ Ts) (hlk : Cond.fieldLink own idx "VersionTransModel" "since" "[I" ∈ Ts) (hd : decode cc pc = .ok (.getfield idx, 3)) (kk : GG p l e R s m args below meth c Q nL D A H0 (mW g xm V) cells slots (pc + 3) lv (.ref (xm 13) :: st)) : GG p l e R s m args below meth c Q nL D A H0 (mW g xm V) cells slots pc lv (.ref (xm 0) :: st) := fun H locs ls hP hD hS hl => va_get (D := D) (ci := 3) (v := .ref (xm 13)) (C := RX3) (T := TX3) (N := 27) C.1.1 C.1.2.1 C.1.2.2.2.2 hin C.1.2.2.2.1 C.2.1 hP 0 rfl rfl 14 (by decide) (C.1.2.2.2.2 _ hlk) (fun _ h9 => h9) rfl hd (kk H locs ls hP hD hS hl)
theorem ml_since (C : CX p s m args meth c cc nL Ts own D (tyG g) A H0 ret) {i : Nat} (hd : decode cc pc = .ok (.iaload, 1)) (hi : i < 60) (kk : GG p l e R s m args below meth c Q nL D A H0 (mW g xm V) cells slots (pc + 1) lv (.int (nI (V 14 i)) :: st)) : GG p l e R s m args below meth c Q nL D A H0 (mW g xm V) cells slots pc lv (.int (nI i) :: .ref (xm 13) :: st) := fun H locs ls hP hD hS hl => va_iald C.1.1 C.1.2.1 C.2.1 hP 13 0 rfl rfl (vp_in_nI hi (by decide)) hd (by rw [nI_clamp (Nat.lt_trans hi (by decide))]; exact (kk H locs ls hP hD hS hl))
theorem ms_since (C : CX p s m args meth c cc nL Ts own D (tyG g) A H0 ret) {i v : Nat} (hd : decode cc pc = .ok (.iastore, 1)) (hi : i < 60) (kk : GG p l e R s m args below meth c Q nL D A H0 (mW g xm (u2 V 14 i v)) cells slots (pc + 1) lv st) : GG p l e R s m args below meth c Q nL D A H0 (mW g xm V) cells slots pc lv (.int (nI v) :: .int (nI i) :: .ref (xm 13) :: st) := fun H locs ls hP hD hS hl => va_iast C.1.1 C.1.2.1 C.2.1 hP hD hS 13 0 rfl rfl (vp_in_nI hi (by decide)) hd (by
  rw [nI_clamp (Nat.lt_trans hi (by decide)), mA_up]
  exact fun H1 locs1 hP1 hD1 hS1 => kk H1 locs1 ls hP1 hD1 hS1 hl)
theorem mg_clock (C : CX p s m args meth c cc nL Ts own D (tyG g) A H0 ret) {idx : Nat} (hin : ∀ w ∈ wsX30, w ∈ Ts) (hlk : Cond.fieldLink own idx "VersionTransModel" "clock" "I" ∈ Ts) (hd : decode cc pc = .ok (.getfield idx, 3)) (kk : GG p l e R s m args below meth c Q nL D A H0 (mW g xm V) cells slots (pc + 3) lv (.int (nI (V 15 0)) :: st)) : GG p l e R s m args below meth c Q nL D A H0 (mW g xm V) cells slots pc lv (.ref (xm 0) :: st) := fun H locs ls hP hD hS hl => va_get (D := D) (ci := 3) (v := .int (nI (V 15 0))) (C := RX3) (T := TX3) (N := 27) C.1.1 C.1.2.1 C.1.2.2.2.2 hin C.1.2.2.2.1 C.2.1 hP 0 rfl rfl 15 (by decide) (C.1.2.2.2.2 _ hlk) (fun _ h9 => h9) rfl hd (kk H locs ls hP hD hS hl)
theorem mp_clock (C : CX p s m args meth c cc nL Ts own D (tyG g) A H0 ret) {idx v : Nat} (hin : ∀ w ∈ wsX30, w ∈ Ts) (hlk : Cond.fieldLink own idx "VersionTransModel" "clock" "I" ∈ Ts) (hd : decode cc pc = .ok (.putfield idx, 3)) (kk : GG p l e R s m args below meth c Q nL D A H0 (mW g xm (u2 V 15 0 v)) cells slots (pc + 3) lv st) : GG p l e R s m args below meth c Q nL D A H0 (mW g xm V) cells slots pc lv (.int (nI v) :: .ref (xm 0) :: st) := fun H locs ls hP hD hS hl => va_put (D := D) (ci := 3) (v := .int (nI v)) (ty := .int) (C := RX3) (T := TX3) (N := 27) C.1.1 C.1.2.1 C.1.2.2.2.2 hin tyX3 tyX3_ok nmX3 C.1.2.2.2.1 C.2.1 hP hD hS 0 rfl rfl 15 (by decide) (C.1.2.2.2.2 _ hlk) (fun _ h9 => h9) rfl (by decide +kernel) rfl rfl (Nat.le_of_ble_eq_true rfl) hd (fun H1 locs1 hP1 hD1 hS1 => kk H1 locs1 ls hP1 hD1 hS1 hl)
theorem mg_count (C : CX p s m args meth c cc nL Ts own D (tyG g) A H0 ret) {idx : Nat} (hin : ∀ w ∈ wsX30, w ∈ Ts) (hlk : Cond.fieldLink own idx "VersionTransModel" "count" "I" ∈ Ts) (hd : decode cc pc = .ok (.getfield idx, 3)) (kk : GG p l e R s m args below meth c Q nL D A H0 (mW g xm V) cells slots (pc + 3) lv (.int (nI (V 16 0)) :: st)) : GG p l e R s m args below meth c Q nL D A H0 (mW g xm V) cells slots pc lv (.ref (xm 0) :: st) := fun H locs ls hP hD hS hl => va_get (D := D) (ci := 3) (v := .int (nI (V 16 0))) (C := RX3) (T := TX3) (N := 27) C.1.1 C.1.2.1 C.1.2.2.2.2 hin C.1.2.2.2.1 C.2.1 hP 0 rfl rfl 16 (by decide) (C.1.2.2.2.2 _ hlk) (fun _ h9 => h9) rfl hd (kk H locs ls hP hD hS hl)
theorem mp_count (C : CX p s m args meth c cc nL Ts own D (tyG g) A H0 ret) {idx v : Nat} (hin : ∀ w ∈ wsX30, w ∈ Ts) (hlk : Cond.fieldLink own idx "VersionTransModel" "count" "I" ∈ Ts) (hd : decode cc pc = .ok (.putfield idx, 3)) (kk : GG p l e R s m args below meth c Q nL D A H0 (mW g xm (u2 V 16 0 v)) cells slots (pc + 3) lv st) : GG p l e R s m args below meth c Q nL D A H0 (mW g xm V) cells slots pc lv (.int (nI v) :: .ref (xm 0) :: st) := fun H locs ls hP hD hS hl => va_put (D := D) (ci := 3) (v := .int (nI v)) (ty := .int) (C := RX3) (T := TX3) (N := 27) C.1.1 C.1.2.1 C.1.2.2.2.2 hin tyX3 tyX3_ok nmX3 C.1.2.2.2.1 C.2.1 hP hD hS 0 rfl rfl 16 (by decide) (C.1.2.2.2.2 _ hlk) (fun _ h9 => h9) rfl (by decide +kernel) rfl rfl (Nat.le_of_ble_eq_true rfl) hd (fun H1 locs1 hP1 hD1 hS1 => kk H1 locs1 ls hP1 hD1 hS1 hl)
theorem mg_holders (C : CX p s m args meth c cc nL Ts own D (tyG g) A H0 ret) {idx : Nat} (hin : ∀ w ∈ wsX30, w ∈ Ts) (hlk : Cond.fieldLink own idx "VersionTransModel" "holders" "[I" ∈ Ts) (hd : decode cc pc = .ok (.getfield idx, 3)) (kk : GG p l e R s m args below meth c Q nL D A H0 (mW g xm V) cells slots (pc + 3) lv (.ref (xm 14) :: st)) : GG p l e R s m args below meth c Q nL D A H0 (mW g xm V) cells slots pc lv (.ref (xm 0) :: st) := fun H locs ls hP hD hS hl => va_get (D := D) (ci := 3) (v := .ref (xm 14)) (C := RX3) (T := TX3) (N := 27) C.1.1 C.1.2.1 C.1.2.2.2.2 hin C.1.2.2.2.1 C.2.1 hP 0 rfl rfl 17 (by decide) (C.1.2.2.2.2 _ hlk) (fun _ h9 => h9) rfl hd (kk H locs ls hP hD hS hl)
theorem ml_holders (C : CX p s m args meth c cc nL Ts own D (tyG g) A H0 ret) {i : Nat} (hd : decode cc pc = .ok (.iaload, 1)) (hi : i < 200) (kk : GG p l e R s m args below meth c Q nL D A H0 (mW g xm V) cells slots (pc + 1) lv (.int (nI (V 17 i) - 1) :: st)) : GG p l e R s m args below meth c Q nL D A H0 (mW g xm V) cells slots pc lv (.int (nI i) :: .ref (xm 14) :: st) := fun H locs ls hP hD hS hl => va_iald C.1.1 C.1.2.1 C.2.1 hP 14 0 rfl rfl (vp_in_nI hi (by decide)) hd (by rw [nI_clamp (Nat.lt_trans hi (by decide))]; exact (kk H locs ls hP hD hS hl))
theorem ms_holders (C : CX p s m args meth c cc nL Ts own D (tyG g) A H0 ret) {i : Nat} {x : Int32} (v : Nat) (hx9 : x = nI v - 1) (hd : decode cc pc = .ok (.iastore, 1)) (hi : i < 200) (kk : GG p l e R s m args below meth c Q nL D A H0 (mW g xm (u2 V 17 i v)) cells slots (pc + 1) lv st) : GG p l e R s m args below meth c Q nL D A H0 (mW g xm V) cells slots pc lv (.int x :: .int (nI i) :: .ref (xm 14) :: st) := fun H locs ls hP hD hS hl => va_iast C.1.1 C.1.2.1 C.2.1 hP hD hS 14 0 rfl rfl (vp_in_nI hi (by decide)) hd (by
  rw [nI_clamp (Nat.lt_trans hi (by decide)), hx9, mB_up]
  exact fun H1 locs1 hP1 hD1 hS1 => kk H1 locs1 ls hP1 hD1 hS1 hl)
theorem mg_queue (C : CX p s m args meth c cc nL Ts own D (tyG g) A H0 ret) {idx : Nat} (hin : ∀ w ∈ wsX30, w ∈ Ts) (hlk : Cond.fieldLink own idx "VersionTransModel" "queue" "[I" ∈ Ts) (hd : decode cc pc = .ok (.getfield idx, 3)) (kk : GG p l e R s m args below meth c Q nL D A H0 (mW g xm V) cells slots (pc + 3) lv (.ref (xm 15) :: st)) : GG p l e R s m args below meth c Q nL D A H0 (mW g xm V) cells slots pc lv (.ref (xm 0) :: st) := fun H locs ls hP hD hS hl => va_get (D := D) (ci := 3) (v := .ref (xm 15)) (C := RX3) (T := TX3) (N := 27) C.1.1 C.1.2.1 C.1.2.2.2.2 hin C.1.2.2.2.1 C.2.1 hP 0 rfl rfl 18 (by decide) (C.1.2.2.2.2 _ hlk) (fun _ h9 => h9) rfl hd (kk H locs ls hP hD hS hl)
theorem ml_queue (C : CX p s m args meth c cc nL Ts own D (tyG g) A H0 ret) {i : Nat} (hd : decode cc pc = .ok (.iaload, 1)) (hi : i < 4000) (kk : GG p l e R s m args below meth c Q nL D A H0 (mW g xm V) cells slots (pc + 1) lv (.int (nI (V 18 i)) :: st)) : GG p l e R s m args below meth c Q nL D A H0 (mW g xm V) cells slots pc lv (.int (nI i) :: .ref (xm 15) :: st) := fun H locs ls hP hD hS hl => va_iald C.1.1 C.1.2.1 C.2.1 hP 15 0 rfl rfl (vp_in_nI hi (by decide)) hd (by rw [nI_clamp (Nat.lt_trans hi (by decide))]; exact (kk H locs ls hP hD hS hl))
theorem ms_queue (C : CX p s m args meth c cc nL Ts own D (tyG g) A H0 ret) {i v : Nat} (hd : decode cc pc = .ok (.iastore, 1)) (hi : i < 4000) (kk : GG p l e R s m args below meth c Q nL D A H0 (mW g xm (u2 V 18 i v)) cells slots (pc + 1) lv st) : GG p l e R s m args below meth c Q nL D A H0 (mW g xm V) cells slots pc lv (.int (nI v) :: .int (nI i) :: .ref (xm 15) :: st) := fun H locs ls hP hD hS hl => va_iast C.1.1 C.1.2.1 C.2.1 hP hD hS 15 0 rfl rfl (vp_in_nI hi (by decide)) hd (by
  rw [nI_clamp (Nat.lt_trans hi (by decide)), mA_up]
  exact fun H1 locs1 hP1 hD1 hS1 => kk H1 locs1 ls hP1 hD1 hS1 hl)
theorem mg_queueFrom (C : CX p s m args meth c cc nL Ts own D (tyG g) A H0 ret) {idx : Nat} (hin : ∀ w ∈ wsX30, w ∈ Ts) (hlk : Cond.fieldLink own idx "VersionTransModel" "queueFrom" "I" ∈ Ts) (hd : decode cc pc = .ok (.getfield idx, 3)) (kk : GG p l e R s m args below meth c Q nL D A H0 (mW g xm V) cells slots (pc + 3) lv (.int (nI (V 19 0)) :: st)) : GG p l e R s m args below meth c Q nL D A H0 (mW g xm V) cells slots pc lv (.ref (xm 0) :: st) := fun H locs ls hP hD hS hl => va_get (D := D) (ci := 3) (v := .int (nI (V 19 0))) (C := RX3) (T := TX3) (N := 27) C.1.1 C.1.2.1 C.1.2.2.2.2 hin C.1.2.2.2.1 C.2.1 hP 0 rfl rfl 19 (by decide) (C.1.2.2.2.2 _ hlk) (fun _ h9 => h9) rfl hd (kk H locs ls hP hD hS hl)
theorem mp_queueFrom (C : CX p s m args meth c cc nL Ts own D (tyG g) A H0 ret) {idx v : Nat} (hin : ∀ w ∈ wsX30, w ∈ Ts) (hlk : Cond.fieldLink own idx "VersionTransModel" "queueFrom" "I" ∈ Ts) (hd : decode cc pc = .ok (.putfield idx, 3)) (kk : GG p l e R s m args below meth c Q nL D A H0 (mW g xm (u2 V 19 0 v)) cells slots (pc + 3) lv st) : GG p l e R s m args below meth c Q nL D A H0 (mW g xm V) cells slots pc lv (.int (nI v) :: .ref (xm 0) :: st) := fun H locs ls hP hD hS hl => va_put (D := D) (ci := 3) (v := .int (nI v)) (ty := .int) (C := RX3) (T := TX3) (N := 27) C.1.1 C.1.2.1 C.1.2.2.2.2 hin tyX3 tyX3_ok nmX3 C.1.2.2.2.1 C.2.1 hP hD hS 0 rfl rfl 19 (by decide) (C.1.2.2.2.2 _ hlk) (fun _ h9 => h9) rfl (by decide +kernel) rfl rfl (Nat.le_of_ble_eq_true rfl) hd (fun H1 locs1 hP1 hD1 hS1 => kk H1 locs1 ls hP1 hD1 hS1 hl)
theorem mg_queueTo (C : CX p s m args meth c cc nL Ts own D (tyG g) A H0 ret) {idx : Nat} (hin : ∀ w ∈ wsX30, w ∈ Ts) (hlk : Cond.fieldLink own idx "VersionTransModel" "queueTo" "I" ∈ Ts) (hd : decode cc pc = .ok (.getfield idx, 3)) (kk : GG p l e R s m args below meth c Q nL D A H0 (mW g xm V) cells slots (pc + 3) lv (.int (nI (V 20 0)) :: st)) : GG p l e R s m args below meth c Q nL D A H0 (mW g xm V) cells slots pc lv (.ref (xm 0) :: st) := fun H locs ls hP hD hS hl => va_get (D := D) (ci := 3) (v := .int (nI (V 20 0))) (C := RX3) (T := TX3) (N := 27) C.1.1 C.1.2.1 C.1.2.2.2.2 hin C.1.2.2.2.1 C.2.1 hP 0 rfl rfl 20 (by decide) (C.1.2.2.2.2 _ hlk) (fun _ h9 => h9) rfl hd (kk H locs ls hP hD hS hl)
theorem mp_queueTo (C : CX p s m args meth c cc nL Ts own D (tyG g) A H0 ret) {idx v : Nat} (hin : ∀ w ∈ wsX30, w ∈ Ts) (hlk : Cond.fieldLink own idx "VersionTransModel" "queueTo" "I" ∈ Ts) (hd : decode cc pc = .ok (.putfield idx, 3)) (kk : GG p l e R s m args below meth c Q nL D A H0 (mW g xm (u2 V 20 0 v)) cells slots (pc + 3) lv st) : GG p l e R s m args below meth c Q nL D A H0 (mW g xm V) cells slots pc lv (.int (nI v) :: .ref (xm 0) :: st) := fun H locs ls hP hD hS hl => va_put (D := D) (ci := 3) (v := .int (nI v)) (ty := .int) (C := RX3) (T := TX3) (N := 27) C.1.1 C.1.2.1 C.1.2.2.2.2 hin tyX3 tyX3_ok nmX3 C.1.2.2.2.1 C.2.1 hP hD hS 0 rfl rfl 20 (by decide) (C.1.2.2.2.2 _ hlk) (fun _ h9 => h9) rfl (by decide +kernel) rfl rfl (Nat.le_of_ble_eq_true rfl) hd (fun H1 locs1 hP1 hD1 hS1 => kk H1 locs1 ls hP1 hD1 hS1 hl)
theorem mg_ring (C : CX p s m args meth c cc nL Ts own D (tyG g) A H0 ret) {idx : Nat} (hin : ∀ w ∈ wsX30, w ∈ Ts) (hlk : Cond.fieldLink own idx "VersionTransModel" "ring" "[I" ∈ Ts) (hd : decode cc pc = .ok (.getfield idx, 3)) (kk : GG p l e R s m args below meth c Q nL D A H0 (mW g xm V) cells slots (pc + 3) lv (.ref (xm 16) :: st)) : GG p l e R s m args below meth c Q nL D A H0 (mW g xm V) cells slots pc lv (.ref (xm 0) :: st) := fun H locs ls hP hD hS hl => va_get (D := D) (ci := 3) (v := .ref (xm 16)) (C := RX3) (T := TX3) (N := 27) C.1.1 C.1.2.1 C.1.2.2.2.2 hin C.1.2.2.2.1 C.2.1 hP 0 rfl rfl 21 (by decide) (C.1.2.2.2.2 _ hlk) (fun _ h9 => h9) rfl hd (kk H locs ls hP hD hS hl)
theorem ml_ring (C : CX p s m args meth c cc nL Ts own D (tyG g) A H0 ret) {i : Nat} (hd : decode cc pc = .ok (.iaload, 1)) (hi : i < 60) (kk : GG p l e R s m args below meth c Q nL D A H0 (mW g xm V) cells slots (pc + 1) lv (.int (nI (V 21 i)) :: st)) : GG p l e R s m args below meth c Q nL D A H0 (mW g xm V) cells slots pc lv (.int (nI i) :: .ref (xm 16) :: st) := fun H locs ls hP hD hS hl => va_iald C.1.1 C.1.2.1 C.2.1 hP 16 0 rfl rfl (vp_in_nI hi (by decide)) hd (by rw [nI_clamp (Nat.lt_trans hi (by decide))]; exact (kk H locs ls hP hD hS hl))
theorem ms_ring (C : CX p s m args meth c cc nL Ts own D (tyG g) A H0 ret) {i v : Nat} (hd : decode cc pc = .ok (.iastore, 1)) (hi : i < 60) (kk : GG p l e R s m args below meth c Q nL D A H0 (mW g xm (u2 V 21 i v)) cells slots (pc + 1) lv st) : GG p l e R s m args below meth c Q nL D A H0 (mW g xm V) cells slots pc lv (.int (nI v) :: .int (nI i) :: .ref (xm 16) :: st) := fun H locs ls hP hD hS hl => va_iast C.1.1 C.1.2.1 C.2.1 hP hD hS 16 0 rfl rfl (vp_in_nI hi (by decide)) hd (by
  rw [nI_clamp (Nat.lt_trans hi (by decide)), mA_up]
  exact fun H1 locs1 hP1 hD1 hS1 => kk H1 locs1 ls hP1 hD1 hS1 hl)
theorem mg_ringSize (C : CX p s m args meth c cc nL Ts own D (tyG g) A H0 ret) {idx : Nat} (hin : ∀ w ∈ wsX30, w ∈ Ts) (hlk : Cond.fieldLink own idx "VersionTransModel" "ringSize" "I" ∈ Ts) (hd : decode cc pc = .ok (.getfield idx, 3)) (kk : GG p l e R s m args below meth c Q nL D A H0 (mW g xm V) cells slots (pc + 3) lv (.int (nI (V 22 0)) :: st)) : GG p l e R s m args below meth c Q nL D A H0 (mW g xm V) cells slots pc lv (.ref (xm 0) :: st) := fun H locs ls hP hD hS hl => va_get (D := D) (ci := 3) (v := .int (nI (V 22 0))) (C := RX3) (T := TX3) (N := 27) C.1.1 C.1.2.1 C.1.2.2.2.2 hin C.1.2.2.2.1 C.2.1 hP 0 rfl rfl 22 (by decide) (C.1.2.2.2.2 _ hlk) (fun _ h9 => h9) rfl hd (kk H locs ls hP hD hS hl)
theorem mp_ringSize (C : CX p s m args meth c cc nL Ts own D (tyG g) A H0 ret) {idx v : Nat} (hin : ∀ w ∈ wsX30, w ∈ Ts) (hlk : Cond.fieldLink own idx "VersionTransModel" "ringSize" "I" ∈ Ts) (hd : decode cc pc = .ok (.putfield idx, 3)) (kk : GG p l e R s m args below meth c Q nL D A H0 (mW g xm (u2 V 22 0 v)) cells slots (pc + 3) lv st) : GG p l e R s m args below meth c Q nL D A H0 (mW g xm V) cells slots pc lv (.int (nI v) :: .ref (xm 0) :: st) := fun H locs ls hP hD hS hl => va_put (D := D) (ci := 3) (v := .int (nI v)) (ty := .int) (C := RX3) (T := TX3) (N := 27) C.1.1 C.1.2.1 C.1.2.2.2.2 hin tyX3 tyX3_ok nmX3 C.1.2.2.2.1 C.2.1 hP hD hS 0 rfl rfl 22 (by decide) (C.1.2.2.2.2 _ hlk) (fun _ h9 => h9) rfl (by decide +kernel) rfl rfl (Nat.le_of_ble_eq_true rfl) hd (fun H1 locs1 hP1 hD1 hS1 => kk H1 locs1 ls hP1 hD1 hS1 hl)
theorem mg_failures (C : CX p s m args meth c cc nL Ts own D (tyG g) A H0 ret) {idx : Nat} (hin : ∀ w ∈ wsX30, w ∈ Ts) (hlk : Cond.fieldLink own idx "VersionTransModel" "failures" "[I" ∈ Ts) (hd : decode cc pc = .ok (.getfield idx, 3)) (kk : GG p l e R s m args below meth c Q nL D A H0 (mW g xm V) cells slots (pc + 3) lv (.ref (xm 17) :: st)) : GG p l e R s m args below meth c Q nL D A H0 (mW g xm V) cells slots pc lv (.ref (xm 0) :: st) := fun H locs ls hP hD hS hl => va_get (D := D) (ci := 3) (v := .ref (xm 17)) (C := RX3) (T := TX3) (N := 27) C.1.1 C.1.2.1 C.1.2.2.2.2 hin C.1.2.2.2.1 C.2.1 hP 0 rfl rfl 23 (by decide) (C.1.2.2.2.2 _ hlk) (fun _ h9 => h9) rfl hd (kk H locs ls hP hD hS hl)
theorem ml_failures (C : CX p s m args meth c cc nL Ts own D (tyG g) A H0 ret) {i : Nat} (hd : decode cc pc = .ok (.iaload, 1)) (hi : i < 200) (kk : GG p l e R s m args below meth c Q nL D A H0 (mW g xm V) cells slots (pc + 1) lv (.int (nI (V 23 i)) :: st)) : GG p l e R s m args below meth c Q nL D A H0 (mW g xm V) cells slots pc lv (.int (nI i) :: .ref (xm 17) :: st) := fun H locs ls hP hD hS hl => va_iald C.1.1 C.1.2.1 C.2.1 hP 17 0 rfl rfl (vp_in_nI hi (by decide)) hd (by rw [nI_clamp (Nat.lt_trans hi (by decide))]; exact (kk H locs ls hP hD hS hl))
theorem ms_failures (C : CX p s m args meth c cc nL Ts own D (tyG g) A H0 ret) {i v : Nat} (hd : decode cc pc = .ok (.iastore, 1)) (hi : i < 200) (kk : GG p l e R s m args below meth c Q nL D A H0 (mW g xm (u2 V 23 i v)) cells slots (pc + 1) lv st) : GG p l e R s m args below meth c Q nL D A H0 (mW g xm V) cells slots pc lv (.int (nI v) :: .int (nI i) :: .ref (xm 17) :: st) := fun H locs ls hP hD hS hl => va_iast C.1.1 C.1.2.1 C.2.1 hP hD hS 17 0 rfl rfl (vp_in_nI hi (by decide)) hd (by
  rw [nI_clamp (Nat.lt_trans hi (by decide)), mA_up]
  exact fun H1 locs1 hP1 hD1 hS1 => kk H1 locs1 ls hP1 hD1 hS1 hl)
theorem mg_refusals (C : CX p s m args meth c cc nL Ts own D (tyG g) A H0 ret) {idx : Nat} (hin : ∀ w ∈ wsX30, w ∈ Ts) (hlk : Cond.fieldLink own idx "VersionTransModel" "refusals" "[I" ∈ Ts) (hd : decode cc pc = .ok (.getfield idx, 3)) (kk : GG p l e R s m args below meth c Q nL D A H0 (mW g xm V) cells slots (pc + 3) lv (.ref (xm 18) :: st)) : GG p l e R s m args below meth c Q nL D A H0 (mW g xm V) cells slots pc lv (.ref (xm 0) :: st) := fun H locs ls hP hD hS hl => va_get (D := D) (ci := 3) (v := .ref (xm 18)) (C := RX3) (T := TX3) (N := 27) C.1.1 C.1.2.1 C.1.2.2.2.2 hin C.1.2.2.2.1 C.2.1 hP 0 rfl rfl 24 (by decide) (C.1.2.2.2.2 _ hlk) (fun _ h9 => h9) rfl hd (kk H locs ls hP hD hS hl)
theorem ml_refusals (C : CX p s m args meth c cc nL Ts own D (tyG g) A H0 ret) {i : Nat} (hd : decode cc pc = .ok (.iaload, 1)) (hi : i < 4) (kk : GG p l e R s m args below meth c Q nL D A H0 (mW g xm V) cells slots (pc + 1) lv (.int (nI (V 24 i)) :: st)) : GG p l e R s m args below meth c Q nL D A H0 (mW g xm V) cells slots pc lv (.int (nI i) :: .ref (xm 18) :: st) := fun H locs ls hP hD hS hl => va_iald C.1.1 C.1.2.1 C.2.1 hP 18 0 rfl rfl (vp_in_nI hi (by decide)) hd (by rw [nI_clamp (Nat.lt_trans hi (by decide))]; exact (kk H locs ls hP hD hS hl))
theorem ms_refusals (C : CX p s m args meth c cc nL Ts own D (tyG g) A H0 ret) {i v : Nat} (hd : decode cc pc = .ok (.iastore, 1)) (hi : i < 4) (kk : GG p l e R s m args below meth c Q nL D A H0 (mW g xm (u2 V 24 i v)) cells slots (pc + 1) lv st) : GG p l e R s m args below meth c Q nL D A H0 (mW g xm V) cells slots pc lv (.int (nI v) :: .int (nI i) :: .ref (xm 18) :: st) := fun H locs ls hP hD hS hl => va_iast C.1.1 C.1.2.1 C.2.1 hP hD hS 18 0 rfl rfl (vp_in_nI hi (by decide)) hd (by
  rw [nI_clamp (Nat.lt_trans hi (by decide)), mA_up]
  exact fun H1 locs1 hP1 hD1 hS1 => kk H1 locs1 ls hP1 hD1 hS1 hl)
theorem mg_thrown (C : CX p s m args meth c cc nL Ts own D (tyG g) A H0 ret) {idx : Nat} (hin : ∀ w ∈ wsX30, w ∈ Ts) (hlk : Cond.fieldLink own idx "VersionTransModel" "thrown" "I" ∈ Ts) (hd : decode cc pc = .ok (.getfield idx, 3)) (kk : GG p l e R s m args below meth c Q nL D A H0 (mW g xm V) cells slots (pc + 3) lv (.int (nI (V 25 0)) :: st)) : GG p l e R s m args below meth c Q nL D A H0 (mW g xm V) cells slots pc lv (.ref (xm 0) :: st) := fun H locs ls hP hD hS hl => va_get (D := D) (ci := 3) (v := .int (nI (V 25 0))) (C := RX3) (T := TX3) (N := 27) C.1.1 C.1.2.1 C.1.2.2.2.2 hin C.1.2.2.2.1 C.2.1 hP 0 rfl rfl 25 (by decide) (C.1.2.2.2.2 _ hlk) (fun _ h9 => h9) rfl hd (kk H locs ls hP hD hS hl)
theorem mp_thrown (C : CX p s m args meth c cc nL Ts own D (tyG g) A H0 ret) {idx v : Nat} (hin : ∀ w ∈ wsX30, w ∈ Ts) (hlk : Cond.fieldLink own idx "VersionTransModel" "thrown" "I" ∈ Ts) (hd : decode cc pc = .ok (.putfield idx, 3)) (kk : GG p l e R s m args below meth c Q nL D A H0 (mW g xm (u2 V 25 0 v)) cells slots (pc + 3) lv st) : GG p l e R s m args below meth c Q nL D A H0 (mW g xm V) cells slots pc lv (.int (nI v) :: .ref (xm 0) :: st) := fun H locs ls hP hD hS hl => va_put (D := D) (ci := 3) (v := .int (nI v)) (ty := .int) (C := RX3) (T := TX3) (N := 27) C.1.1 C.1.2.1 C.1.2.2.2.2 hin tyX3 tyX3_ok nmX3 C.1.2.2.2.1 C.2.1 hP hD hS 0 rfl rfl 25 (by decide) (C.1.2.2.2.2 _ hlk) (fun _ h9 => h9) rfl (by decide +kernel) rfl rfl (Nat.le_of_ble_eq_true rfl) hd (fun H1 locs1 hP1 hD1 hS1 => kk H1 locs1 ls hP1 hD1 hS1 hl)
theorem mg_best (C : CX p s m args meth c cc nL Ts own D (tyG g) A H0 ret) {idx : Nat} (hin : ∀ w ∈ wsX30, w ∈ Ts) (hlk : Cond.fieldLink own idx "VersionTransModel" "best" "[I" ∈ Ts) (hd : decode cc pc = .ok (.getfield idx, 3)) (kk : GG p l e R s m args below meth c Q nL D A H0 (mW g xm V) cells slots (pc + 3) lv (.ref (xm 19) :: st)) : GG p l e R s m args below meth c Q nL D A H0 (mW g xm V) cells slots pc lv (.ref (xm 0) :: st) := fun H locs ls hP hD hS hl => va_get (D := D) (ci := 3) (v := .ref (xm 19)) (C := RX3) (T := TX3) (N := 27) C.1.1 C.1.2.1 C.1.2.2.2.2 hin C.1.2.2.2.1 C.2.1 hP 0 rfl rfl 26 (by decide) (C.1.2.2.2.2 _ hlk) (fun _ h9 => h9) rfl hd (kk H locs ls hP hD hS hl)
theorem ml_best (C : CX p s m args meth c cc nL Ts own D (tyG g) A H0 ret) {i : Nat} (hd : decode cc pc = .ok (.iaload, 1)) (hi : i < 200) (kk : GG p l e R s m args below meth c Q nL D A H0 (mW g xm V) cells slots (pc + 1) lv (.int (nI (V 26 i) - 1) :: st)) : GG p l e R s m args below meth c Q nL D A H0 (mW g xm V) cells slots pc lv (.int (nI i) :: .ref (xm 19) :: st) := fun H locs ls hP hD hS hl => va_iald C.1.1 C.1.2.1 C.2.1 hP 19 0 rfl rfl (vp_in_nI hi (by decide)) hd (by rw [nI_clamp (Nat.lt_trans hi (by decide))]; exact (kk H locs ls hP hD hS hl))
theorem ms_best (C : CX p s m args meth c cc nL Ts own D (tyG g) A H0 ret) {i : Nat} {x : Int32} (v : Nat) (hx9 : x = nI v - 1) (hd : decode cc pc = .ok (.iastore, 1)) (hi : i < 200) (kk : GG p l e R s m args below meth c Q nL D A H0 (mW g xm (u2 V 26 i v)) cells slots (pc + 1) lv st) : GG p l e R s m args below meth c Q nL D A H0 (mW g xm V) cells slots pc lv (.int x :: .int (nI i) :: .ref (xm 19) :: st) := fun H locs ls hP hD hS hl => va_iast C.1.1 C.1.2.1 C.2.1 hP hD hS 19 0 rfl rfl (vp_in_nI hi (by decide)) hd (by
  rw [nI_clamp (Nat.lt_trans hi (by decide)), hx9, mB_up]
  exact fun H1 locs1 hP1 hD1 hS1 => kk H1 locs1 ls hP1 hD1 hS1 hl)
end MWR
end
section
/-- the class's object and its arrays -/
def cX (g : Nat → ClassId) (xa : Nat → Nat) (I : Nat → Nat → Nat) (O : Nat → Nat → Option Nat) : va_W := [(xa 0, .inr (2, [.ref (xa 1), .int (nI (I 0 0)), .ref (xa 2), .int (nI (I 1 0)), .int (nI (I 2 0)), .ref (xa 3), .ref (xa 4), .ref (xa 5), .ref (xa 6), .ref (xa 7), .ref (xa 8), .int (nI (I 3 0)), va_rf (O 0 0), va_rf (O 1 0), .int (nI (I 4 0))])), (xa 1, .inl (g 3, 60, .inr (.inr (.inr (.inr (O 2)))))), (xa 2, .inl (g 2, 200, .inr (.inr (.inr (.inr (O 3)))))), (xa 3, .inl (g 0, 61, .inl (mA I 5))), (xa 4, .inl (g 3, 200, .inr (.inr (.inr (.inr (O 4)))))), (xa 5, .inl (g 1, 200, .inl (mA I 6))), (xa 6, .inl (g 0, 200, .inl (mA I 7))), (xa 7, .inl (g 0, 4, .inl (mA I 8))), (xa 8, .inl (g 0, 60, .inl (mA I 9)))]
/-- what lies at an address of the pool: kind 0 a row, 1 a transaction, else the noted graphs of one -/
def pf (g : Nat → ClassId) (I : Nat → Nat → Nat) (O : Nat → Nat → Option Nat) (K : Nat → Nat) : Nat → va_E := fun a => if K a = 0 then .inr (0, [.int (nI (I 10 a)), .int (nI (I 11 a)), va_rf (O 5 a)]) else if K a = 1 then .inr (1, [.int (nI (I 12 a)), .int (nI (I 13 a)), .int (nI (I 14 a)), va_rf (O 6 a), .int (nI (I 15 a)), .int (nI (I 16 a)), va_rf (O 7 a), .int (nI (I 17 a)), .int (nI (I 18 a)), .int (nI (I 19 a)), va_rf (O 8 a)]) else .inl (g 1, 4, .inl (fun j => nI (I (20 + j) a)))
def cW (g : Nat → ClassId) (xa : Nat → Nat) (I : Nat → Nat → Nat) (O : Nat → Nat → Option Nat) (L : List Nat) (K : Nat → Nat) : va_W := cX g xa I O ++ va_pl L (pf g I O K)
theorem pf_row {g : Nat → ClassId} {I : Nat → Nat → Nat} {O : Nat → Nat → Option Nat} {K : Nat → Nat} {a : Nat} (h : K a = 0) : pf g I O K a = .inr (0, [.int (nI (I 10 a)), .int (nI (I 11 a)), va_rf (O 5 a)]) := by simp [pf, h]
theorem pf_tx {g : Nat → ClassId} {I : Nat → Nat → Nat} {O : Nat → Nat → Option Nat} {K : Nat → Nat} {a : Nat} (h : K a = 1) : pf g I O K a = .inr (1, [.int (nI (I 12 a)), .int (nI (I 13 a)), .int (nI (I 14 a)), va_rf (O 6 a), .int (nI (I 15 a)), .int (nI (I 16 a)), va_rf (O 7 a), .int (nI (I 17 a)), .int (nI (I 18 a)), .int (nI (I 19 a)), va_rf (O 8 a)]) := by simp [pf, h]
theorem pf_no {g : Nat → ClassId} {I : Nat → Nat → Nat} {O : Nat → Nat → Option Nat} {K : Nat → Nat} {a : Nat} (h : K a = 2) : pf g I O K a = .inl (g 1, 4, .inl (fun j => nI (I (20 + j) a))) := by simp [pf, h]
theorem pf_uI {g : Nat → ClassId} {I : Nat → Nat → Nat} {O : Nat → Nat → Option Nat} {K : Nat → Nat} {k i v : Nat} (hk : k < 10) : pf g (u2 I k i v) O K = pf g I O K := by
  funext a
  have h : ∀ k', 10 ≤ k' → u2 I k i v k' a = I k' a := fun k' h' => u2_nk I i v a (by omega)
  have h2 : (fun j => nI (u2 I k i v (20 + j) a)) = fun j => nI (I (20 + j) a) := by funext j; rw [h (20 + j) (by omega)]
  unfold pf
  rw [h2, h 10 (by decide), h 11 (by decide), h 12 (by decide), h 13 (by decide), h 14 (by decide), h 15 (by decide), h 16 (by decide), h 17 (by decide), h 18 (by decide), h 19 (by decide)]
theorem cw_uI {g : Nat → ClassId} {xa : Nat → Nat} {I : Nat → Nat → Nat} {O : Nat → Nat → Option Nat} {L : List Nat} {K : Nat → Nat} {k i v : Nat} (hk : k < 10) : cX g xa (u2 I k i v) O ++ va_pl L (pf g I O K) = cW g xa (u2 I k i v) O L K := by
  unfold cW
  rw [pf_uI hk]
theorem fitq (r : Option Nat) (nm : String) : narrow (.object nm) (va_rf r) = va_rf r ∧ fits (.object nm) (va_rf r) = true := by cases r <;> exact ⟨rfl, rfl⟩
section CWR
variable {p : Program} {l : Launch} {e : Env} {R : Room} {s : State} {m : MethodId} {args : Array Value} {below : List Frame} {meth : Method} {c : Code} {Q : State → Prop} {cc : ByteArray} {nL : Nat} {Ts : List Cond} {own : String} {D : va_G} {A : Nat → Prop} {H0 : Heap} {ret : Option FieldType} {cells slots pc : Nat} {lv : List (Nat × Value)} {st : List Value} {g : Nat → ClassId} {xa : Nat → Nat} {I : Nat → Nat → Nat} {O : Nat → Nat → Option Nat} {L : List Nat} {Kd : Nat → Nat}
theorem cg_transactions (C : CX p s m args meth c cc nL Ts own D (tyG g) A H0 ret) {idx : Nat} (hin : ∀ w ∈ wsX20, w ∈ Ts) (hlk : Cond.fieldLink own idx "VersionTrans" "transactions" "[LVersionTrans$Transaction;" ∈ Ts) (hd : decode cc pc = .ok (.getfield idx, 3)) (kk : GG p l e R s m args below meth c Q nL D A H0 (cW g xa I O L Kd) cells slots (pc + 3) lv (.ref (xa 1) :: st)) : GG p l e R s m args below meth c Q nL D A H0 (cW g xa I O L Kd) cells slots pc lv (.ref (xa 0) :: st) := fun H locs ls hP hD hS hl => va_get (D := D) (ci := 2) (v := .ref (xa 1)) (C := RX2) (T := TX2) (N := 15) C.1.1 C.1.2.1 C.1.2.2.2.2 hin C.1.2.2.2.1 C.2.1 hP 0 rfl rfl 0 (by decide) (C.1.2.2.2.2 _ hlk) (fun _ h9 => h9) rfl hd (kk H locs ls hP hD hS hl)
theorem cl_transactions (C : CX p s m args meth c cc nL Ts own D (tyG g) A H0 ret) {i : Nat} (hd : decode cc pc = .ok (.aaload, 1)) (hi : i < 60) (kk : GG p l e R s m args below meth c Q nL D A H0 (cW g xa I O L Kd) cells slots (pc + 1) lv (va_rf (O 2 i) :: st)) : GG p l e R s m args below meth c Q nL D A H0 (cW g xa I O L Kd) cells slots pc lv (.int (nI i) :: .ref (xa 1) :: st) := fun H locs ls hP hD hS hl => va_aldq C.1.1 C.1.2.1 C.2.1 hP 1 3 rfl rfl (vp_in_nI hi (by decide)) hd (by rw [nI_clamp (Nat.lt_trans hi (by decide))]; exact (kk H locs ls hP hD hS hl))
theorem csn_transactions (C : CX p s m args meth c cc nL Ts own D (tyG g) A H0 ret) {i : Nat} (hd : decode cc pc = .ok (.aastore, 1)) (hi : i < 60) (kk : GG p l e R s m args below meth c Q nL D A H0 (cW g xa I (u2 O 2 i none) L Kd) cells slots (pc + 1) lv st) : GG p l e R s m args below meth c Q nL D A H0 (cW g xa I O L Kd) cells slots pc lv (va_rf none :: .int (nI i) :: .ref (xa 1) :: st) := fun H locs ls hP hD hS hl => va_astqN C.1.1 C.1.2.1 C.2.1 hP hD hS 1 3 rfl rfl (vp_in_nI hi (by decide)) hd (by
  rw [nI_clamp (Nat.lt_trans hi (by decide))]
  exact fun H1 locs1 hP1 hD1 hS1 => kk H1 locs1 ls hP1 hD1 hS1 hl)
theorem css_transactions (C : CX p s m args meth c cc nL Ts own D (tyG g) A H0 ret) {i a : Nat} (haL : a ∈ L) (haK : Kd a = 1) (hd : decode cc pc = .ok (.aastore, 1)) (hi : i < 60) (kk : GG p l e R s m args below meth c Q nL D A H0 (cW g xa I (u2 O 2 i (some a)) L Kd) cells slots (pc + 1) lv st) : GG p l e R s m args below meth c Q nL D A H0 (cW g xa I O L Kd) cells slots pc lv (.ref a :: .int (nI i) :: .ref (xa 1) :: st) := fun H locs ls hP hD hS hl => by
  obtain ⟨qk, hqk⟩ := va_pl_get (X := cX g xa I O) (f := pf g I O Kd) haL
  rw [pf_tx haK] at hqk
  exact va_astq C.1.1 C.1.2.1 C.2.1 hP hD hS 1 3 qk 1 rfl rfl hqk rfl (vp_in_nI hi (by decide)) hd (by
    rw [nI_clamp (Nat.lt_trans hi (by decide))]
    exact fun H1 locs1 hP1 hD1 hS1 => kk H1 locs1 ls hP1 hD1 hS1 hl)
theorem cg_begun (C : CX p s m args meth c cc nL Ts own D (tyG g) A H0 ret) {idx : Nat} (hin : ∀ w ∈ wsX20, w ∈ Ts) (hlk : Cond.fieldLink own idx "VersionTrans" "begun" "I" ∈ Ts) (hd : decode cc pc = .ok (.getfield idx, 3)) (kk : GG p l e R s m args below meth c Q nL D A H0 (cW g xa I O L Kd) cells slots (pc + 3) lv (.int (nI (I 0 0)) :: st)) : GG p l e R s m args below meth c Q nL D A H0 (cW g xa I O L Kd) cells slots pc lv (.ref (xa 0) :: st) := fun H locs ls hP hD hS hl => va_get (D := D) (ci := 2) (v := .int (nI (I 0 0))) (C := RX2) (T := TX2) (N := 15) C.1.1 C.1.2.1 C.1.2.2.2.2 hin C.1.2.2.2.1 C.2.1 hP 0 rfl rfl 1 (by decide) (C.1.2.2.2.2 _ hlk) (fun _ h9 => h9) rfl hd (kk H locs ls hP hD hS hl)
theorem cp_begun (C : CX p s m args meth c cc nL Ts own D (tyG g) A H0 ret) {idx v : Nat} (hin : ∀ w ∈ wsX20, w ∈ Ts) (hlk : Cond.fieldLink own idx "VersionTrans" "begun" "I" ∈ Ts) (hd : decode cc pc = .ok (.putfield idx, 3)) (kk : GG p l e R s m args below meth c Q nL D A H0 (cW g xa (u2 I 0 0 v) O L Kd) cells slots (pc + 3) lv st) : GG p l e R s m args below meth c Q nL D A H0 (cW g xa I O L Kd) cells slots pc lv (.int (nI v) :: .ref (xa 0) :: st) := fun H locs ls hP hD hS hl => va_put (D := D) (ci := 2) (v := .int (nI v)) (ty := .int) (C := RX2) (T := TX2) (N := 15) C.1.1 C.1.2.1 C.1.2.2.2.2 hin tyX2 tyX2_ok nmX2 C.1.2.2.2.1 C.2.1 hP hD hS 0 rfl rfl 1 (by decide) (C.1.2.2.2.2 _ hlk) (fun _ h9 => h9) rfl (by decide +kernel) rfl rfl (Nat.le_of_ble_eq_true rfl) hd (fun H1 locs1 hP1 hD1 hS1 => kk H1 locs1 ls (cw_uI (k := 0) (i := 0) (v := v) (by decide) ▸ (show va_P D vwCl (cX g xa (u2 I 0 0 v) O ++ va_pl L (pf g I O Kd)) H1 from hP1)) (cw_uI (k := 0) (i := 0) (v := v) (by decide) ▸ (show va_D A (cX g xa (u2 I 0 0 v) O ++ va_pl L (pf g I O Kd)) from hD1)) hS1 hl)
theorem cg_newest (C : CX p s m args meth c cc nL Ts own D (tyG g) A H0 ret) {idx : Nat} (hin : ∀ w ∈ wsX20, w ∈ Ts) (hlk : Cond.fieldLink own idx "VersionTrans" "newest" "[LVersionTrans$Row;" ∈ Ts) (hd : decode cc pc = .ok (.getfield idx, 3)) (kk : GG p l e R s m args below meth c Q nL D A H0 (cW g xa I O L Kd) cells slots (pc + 3) lv (.ref (xa 2) :: st)) : GG p l e R s m args below meth c Q nL D A H0 (cW g xa I O L Kd) cells slots pc lv (.ref (xa 0) :: st) := fun H locs ls hP hD hS hl => va_get (D := D) (ci := 2) (v := .ref (xa 2)) (C := RX2) (T := TX2) (N := 15) C.1.1 C.1.2.1 C.1.2.2.2.2 hin C.1.2.2.2.1 C.2.1 hP 0 rfl rfl 2 (by decide) (C.1.2.2.2.2 _ hlk) (fun _ h9 => h9) rfl hd (kk H locs ls hP hD hS hl)
theorem cl_newest (C : CX p s m args meth c cc nL Ts own D (tyG g) A H0 ret) {i : Nat} (hd : decode cc pc = .ok (.aaload, 1)) (hi : i < 200) (kk : GG p l e R s m args below meth c Q nL D A H0 (cW g xa I O L Kd) cells slots (pc + 1) lv (va_rf (O 3 i) :: st)) : GG p l e R s m args below meth c Q nL D A H0 (cW g xa I O L Kd) cells slots pc lv (.int (nI i) :: .ref (xa 2) :: st) := fun H locs ls hP hD hS hl => va_aldq C.1.1 C.1.2.1 C.2.1 hP 2 2 rfl rfl (vp_in_nI hi (by decide)) hd (by rw [nI_clamp (Nat.lt_trans hi (by decide))]; exact (kk H locs ls hP hD hS hl))
theorem csn_newest (C : CX p s m args meth c cc nL Ts own D (tyG g) A H0 ret) {i : Nat} (hd : decode cc pc = .ok (.aastore, 1)) (hi : i < 200) (kk : GG p l e R s m args below meth c Q nL D A H0 (cW g xa I (u2 O 3 i none) L Kd) cells slots (pc + 1) lv st) : GG p l e R s m args below meth c Q nL D A H0 (cW g xa I O L Kd) cells slots pc lv (va_rf none :: .int (nI i) :: .ref (xa 2) :: st) := fun H locs ls hP hD hS hl => va_astqN C.1.1 C.1.2.1 C.2.1 hP hD hS 2 2 rfl rfl (vp_in_nI hi (by decide)) hd (by
  rw [nI_clamp (Nat.lt_trans hi (by decide))]
  exact fun H1 locs1 hP1 hD1 hS1 => kk H1 locs1 ls hP1 hD1 hS1 hl)
theorem css_newest (C : CX p s m args meth c cc nL Ts own D (tyG g) A H0 ret) {i a : Nat} (haL : a ∈ L) (haK : Kd a = 0) (hd : decode cc pc = .ok (.aastore, 1)) (hi : i < 200) (kk : GG p l e R s m args below meth c Q nL D A H0 (cW g xa I (u2 O 3 i (some a)) L Kd) cells slots (pc + 1) lv st) : GG p l e R s m args below meth c Q nL D A H0 (cW g xa I O L Kd) cells slots pc lv (.ref a :: .int (nI i) :: .ref (xa 2) :: st) := fun H locs ls hP hD hS hl => by
  obtain ⟨qk, hqk⟩ := va_pl_get (X := cX g xa I O) (f := pf g I O Kd) haL
  rw [pf_row haK] at hqk
  exact va_astq C.1.1 C.1.2.1 C.2.1 hP hD hS 2 2 qk 0 rfl rfl hqk rfl (vp_in_nI hi (by decide)) hd (by
    rw [nI_clamp (Nat.lt_trans hi (by decide))]
    exact fun H1 locs1 hP1 hD1 hS1 => kk H1 locs1 ls hP1 hD1 hS1 hl)
theorem cg_rowCount (C : CX p s m args meth c cc nL Ts own D (tyG g) A H0 ret) {idx : Nat} (hin : ∀ w ∈ wsX20, w ∈ Ts) (hlk : Cond.fieldLink own idx "VersionTrans" "rowCount" "I" ∈ Ts) (hd : decode cc pc = .ok (.getfield idx, 3)) (kk : GG p l e R s m args below meth c Q nL D A H0 (cW g xa I O L Kd) cells slots (pc + 3) lv (.int (nI (I 1 0)) :: st)) : GG p l e R s m args below meth c Q nL D A H0 (cW g xa I O L Kd) cells slots pc lv (.ref (xa 0) :: st) := fun H locs ls hP hD hS hl => va_get (D := D) (ci := 2) (v := .int (nI (I 1 0))) (C := RX2) (T := TX2) (N := 15) C.1.1 C.1.2.1 C.1.2.2.2.2 hin C.1.2.2.2.1 C.2.1 hP 0 rfl rfl 3 (by decide) (C.1.2.2.2.2 _ hlk) (fun _ h9 => h9) rfl hd (kk H locs ls hP hD hS hl)
theorem cp_rowCount (C : CX p s m args meth c cc nL Ts own D (tyG g) A H0 ret) {idx v : Nat} (hin : ∀ w ∈ wsX20, w ∈ Ts) (hlk : Cond.fieldLink own idx "VersionTrans" "rowCount" "I" ∈ Ts) (hd : decode cc pc = .ok (.putfield idx, 3)) (kk : GG p l e R s m args below meth c Q nL D A H0 (cW g xa (u2 I 1 0 v) O L Kd) cells slots (pc + 3) lv st) : GG p l e R s m args below meth c Q nL D A H0 (cW g xa I O L Kd) cells slots pc lv (.int (nI v) :: .ref (xa 0) :: st) := fun H locs ls hP hD hS hl => va_put (D := D) (ci := 2) (v := .int (nI v)) (ty := .int) (C := RX2) (T := TX2) (N := 15) C.1.1 C.1.2.1 C.1.2.2.2.2 hin tyX2 tyX2_ok nmX2 C.1.2.2.2.1 C.2.1 hP hD hS 0 rfl rfl 3 (by decide) (C.1.2.2.2.2 _ hlk) (fun _ h9 => h9) rfl (by decide +kernel) rfl rfl (Nat.le_of_ble_eq_true rfl) hd (fun H1 locs1 hP1 hD1 hS1 => kk H1 locs1 ls (cw_uI (k := 1) (i := 0) (v := v) (by decide) ▸ (show va_P D vwCl (cX g xa (u2 I 1 0 v) O ++ va_pl L (pf g I O Kd)) H1 from hP1)) (cw_uI (k := 1) (i := 0) (v := v) (by decide) ▸ (show va_D A (cX g xa (u2 I 1 0 v) O ++ va_pl L (pf g I O Kd)) from hD1)) hS1 hl)
theorem cg_latestVersion (C : CX p s m args meth c cc nL Ts own D (tyG g) A H0 ret) {idx : Nat} (hin : ∀ w ∈ wsX20, w ∈ Ts) (hlk : Cond.fieldLink own idx "VersionTrans" "latestVersion" "I" ∈ Ts) (hd : decode cc pc = .ok (.getfield idx, 3)) (kk : GG p l e R s m args below meth c Q nL D A H0 (cW g xa I O L Kd) cells slots (pc + 3) lv (.int (nI (I 2 0)) :: st)) : GG p l e R s m args below meth c Q nL D A H0 (cW g xa I O L Kd) cells slots pc lv (.ref (xa 0) :: st) := fun H locs ls hP hD hS hl => va_get (D := D) (ci := 2) (v := .int (nI (I 2 0))) (C := RX2) (T := TX2) (N := 15) C.1.1 C.1.2.1 C.1.2.2.2.2 hin C.1.2.2.2.1 C.2.1 hP 0 rfl rfl 4 (by decide) (C.1.2.2.2.2 _ hlk) (fun _ h9 => h9) rfl hd (kk H locs ls hP hD hS hl)
theorem cp_latestVersion (C : CX p s m args meth c cc nL Ts own D (tyG g) A H0 ret) {idx v : Nat} (hin : ∀ w ∈ wsX20, w ∈ Ts) (hlk : Cond.fieldLink own idx "VersionTrans" "latestVersion" "I" ∈ Ts) (hd : decode cc pc = .ok (.putfield idx, 3)) (kk : GG p l e R s m args below meth c Q nL D A H0 (cW g xa (u2 I 2 0 v) O L Kd) cells slots (pc + 3) lv st) : GG p l e R s m args below meth c Q nL D A H0 (cW g xa I O L Kd) cells slots pc lv (.int (nI v) :: .ref (xa 0) :: st) := fun H locs ls hP hD hS hl => va_put (D := D) (ci := 2) (v := .int (nI v)) (ty := .int) (C := RX2) (T := TX2) (N := 15) C.1.1 C.1.2.1 C.1.2.2.2.2 hin tyX2 tyX2_ok nmX2 C.1.2.2.2.1 C.2.1 hP hD hS 0 rfl rfl 4 (by decide) (C.1.2.2.2.2 _ hlk) (fun _ h9 => h9) rfl (by decide +kernel) rfl rfl (Nat.le_of_ble_eq_true rfl) hd (fun H1 locs1 hP1 hD1 hS1 => kk H1 locs1 ls (cw_uI (k := 2) (i := 0) (v := v) (by decide) ▸ (show va_P D vwCl (cX g xa (u2 I 2 0 v) O ++ va_pl L (pf g I O Kd)) H1 from hP1)) (cw_uI (k := 2) (i := 0) (v := v) (by decide) ▸ (show va_D A (cX g xa (u2 I 2 0 v) O ++ va_pl L (pf g I O Kd)) from hD1)) hS1 hl)
theorem cg_pins (C : CX p s m args meth c cc nL Ts own D (tyG g) A H0 ret) {idx : Nat} (hin : ∀ w ∈ wsX20, w ∈ Ts) (hlk : Cond.fieldLink own idx "VersionTrans" "pins" "[I" ∈ Ts) (hd : decode cc pc = .ok (.getfield idx, 3)) (kk : GG p l e R s m args below meth c Q nL D A H0 (cW g xa I O L Kd) cells slots (pc + 3) lv (.ref (xa 3) :: st)) : GG p l e R s m args below meth c Q nL D A H0 (cW g xa I O L Kd) cells slots pc lv (.ref (xa 0) :: st) := fun H locs ls hP hD hS hl => va_get (D := D) (ci := 2) (v := .ref (xa 3)) (C := RX2) (T := TX2) (N := 15) C.1.1 C.1.2.1 C.1.2.2.2.2 hin C.1.2.2.2.1 C.2.1 hP 0 rfl rfl 5 (by decide) (C.1.2.2.2.2 _ hlk) (fun _ h9 => h9) rfl hd (kk H locs ls hP hD hS hl)
theorem cl_pins (C : CX p s m args meth c cc nL Ts own D (tyG g) A H0 ret) {i : Nat} (hd : decode cc pc = .ok (.iaload, 1)) (hi : i < 61) (kk : GG p l e R s m args below meth c Q nL D A H0 (cW g xa I O L Kd) cells slots (pc + 1) lv (.int (nI (I 5 i)) :: st)) : GG p l e R s m args below meth c Q nL D A H0 (cW g xa I O L Kd) cells slots pc lv (.int (nI i) :: .ref (xa 3) :: st) := fun H locs ls hP hD hS hl => va_iald C.1.1 C.1.2.1 C.2.1 hP 3 0 rfl rfl (vp_in_nI hi (by decide)) hd (by rw [nI_clamp (Nat.lt_trans hi (by decide))]; exact (kk H locs ls hP hD hS hl))
theorem cs_pins (C : CX p s m args meth c cc nL Ts own D (tyG g) A H0 ret) {i v : Nat} (hd : decode cc pc = .ok (.iastore, 1)) (hi : i < 61) (kk : GG p l e R s m args below meth c Q nL D A H0 (cW g xa (u2 I 5 i v) O L Kd) cells slots (pc + 1) lv st) : GG p l e R s m args below meth c Q nL D A H0 (cW g xa I O L Kd) cells slots pc lv (.int (nI v) :: .int (nI i) :: .ref (xa 3) :: st) := fun H locs ls hP hD hS hl => va_iast C.1.1 C.1.2.1 C.2.1 hP hD hS 3 0 rfl rfl (vp_in_nI hi (by decide)) hd (by
  rw [nI_clamp (Nat.lt_trans hi (by decide)), mA_up]
  exact fun H1 locs1 hP1 hD1 hS1 => kk H1 locs1 ls (cw_uI (k := 5) (i := i) (v := v) (by decide) ▸ (show va_P D vwCl (cX g xa (u2 I 5 i v) O ++ va_pl L (pf g I O Kd)) H1 from hP1)) (cw_uI (k := 5) (i := i) (v := v) (by decide) ▸ (show va_D A (cX g xa (u2 I 5 i v) O ++ va_pl L (pf g I O Kd)) from hD1)) hS1 hl)
theorem cg_holder (C : CX p s m args meth c cc nL Ts own D (tyG g) A H0 ret) {idx : Nat} (hin : ∀ w ∈ wsX20, w ∈ Ts) (hlk : Cond.fieldLink own idx "VersionTrans" "holder" "[LVersionTrans$Transaction;" ∈ Ts) (hd : decode cc pc = .ok (.getfield idx, 3)) (kk : GG p l e R s m args below meth c Q nL D A H0 (cW g xa I O L Kd) cells slots (pc + 3) lv (.ref (xa 4) :: st)) : GG p l e R s m args below meth c Q nL D A H0 (cW g xa I O L Kd) cells slots pc lv (.ref (xa 0) :: st) := fun H locs ls hP hD hS hl => va_get (D := D) (ci := 2) (v := .ref (xa 4)) (C := RX2) (T := TX2) (N := 15) C.1.1 C.1.2.1 C.1.2.2.2.2 hin C.1.2.2.2.1 C.2.1 hP 0 rfl rfl 6 (by decide) (C.1.2.2.2.2 _ hlk) (fun _ h9 => h9) rfl hd (kk H locs ls hP hD hS hl)
theorem cl_holder (C : CX p s m args meth c cc nL Ts own D (tyG g) A H0 ret) {i : Nat} (hd : decode cc pc = .ok (.aaload, 1)) (hi : i < 200) (kk : GG p l e R s m args below meth c Q nL D A H0 (cW g xa I O L Kd) cells slots (pc + 1) lv (va_rf (O 4 i) :: st)) : GG p l e R s m args below meth c Q nL D A H0 (cW g xa I O L Kd) cells slots pc lv (.int (nI i) :: .ref (xa 4) :: st) := fun H locs ls hP hD hS hl => va_aldq C.1.1 C.1.2.1 C.2.1 hP 4 3 rfl rfl (vp_in_nI hi (by decide)) hd (by rw [nI_clamp (Nat.lt_trans hi (by decide))]; exact (kk H locs ls hP hD hS hl))
theorem csn_holder (C : CX p s m args meth c cc nL Ts own D (tyG g) A H0 ret) {i : Nat} (hd : decode cc pc = .ok (.aastore, 1)) (hi : i < 200) (kk : GG p l e R s m args below meth c Q nL D A H0 (cW g xa I (u2 O 4 i none) L Kd) cells slots (pc + 1) lv st) : GG p l e R s m args below meth c Q nL D A H0 (cW g xa I O L Kd) cells slots pc lv (va_rf none :: .int (nI i) :: .ref (xa 4) :: st) := fun H locs ls hP hD hS hl => va_astqN C.1.1 C.1.2.1 C.2.1 hP hD hS 4 3 rfl rfl (vp_in_nI hi (by decide)) hd (by
  rw [nI_clamp (Nat.lt_trans hi (by decide))]
  exact fun H1 locs1 hP1 hD1 hS1 => kk H1 locs1 ls hP1 hD1 hS1 hl)
theorem css_holder (C : CX p s m args meth c cc nL Ts own D (tyG g) A H0 ret) {i a : Nat} (haL : a ∈ L) (haK : Kd a = 1) (hd : decode cc pc = .ok (.aastore, 1)) (hi : i < 200) (kk : GG p l e R s m args below meth c Q nL D A H0 (cW g xa I (u2 O 4 i (some a)) L Kd) cells slots (pc + 1) lv st) : GG p l e R s m args below meth c Q nL D A H0 (cW g xa I O L Kd) cells slots pc lv (.ref a :: .int (nI i) :: .ref (xa 4) :: st) := fun H locs ls hP hD hS hl => by
  obtain ⟨qk, hqk⟩ := va_pl_get (X := cX g xa I O) (f := pf g I O Kd) haL
  rw [pf_tx haK] at hqk
  exact va_astq C.1.1 C.1.2.1 C.2.1 hP hD hS 4 3 qk 1 rfl rfl hqk rfl (vp_in_nI hi (by decide)) hd (by
    rw [nI_clamp (Nat.lt_trans hi (by decide))]
    exact fun H1 locs1 hP1 hD1 hS1 => kk H1 locs1 ls hP1 hD1 hS1 hl)
theorem cg_written (C : CX p s m args meth c cc nL Ts own D (tyG g) A H0 ret) {idx : Nat} (hin : ∀ w ∈ wsX20, w ∈ Ts) (hlk : Cond.fieldLink own idx "VersionTrans" "written" "[Z" ∈ Ts) (hd : decode cc pc = .ok (.getfield idx, 3)) (kk : GG p l e R s m args below meth c Q nL D A H0 (cW g xa I O L Kd) cells slots (pc + 3) lv (.ref (xa 5) :: st)) : GG p l e R s m args below meth c Q nL D A H0 (cW g xa I O L Kd) cells slots pc lv (.ref (xa 0) :: st) := fun H locs ls hP hD hS hl => va_get (D := D) (ci := 2) (v := .ref (xa 5)) (C := RX2) (T := TX2) (N := 15) C.1.1 C.1.2.1 C.1.2.2.2.2 hin C.1.2.2.2.1 C.2.1 hP 0 rfl rfl 7 (by decide) (C.1.2.2.2.2 _ hlk) (fun _ h9 => h9) rfl hd (kk H locs ls hP hD hS hl)
theorem cl_written (C : CX p s m args meth c cc nL Ts own D (tyG g) A H0 ret) {i : Nat} (hd : decode cc pc = .ok (.baload, 1)) (hi : i < 200) (kk : GG p l e R s m args below meth c Q nL D A H0 (cW g xa I O L Kd) cells slots (pc + 1) lv (.int (nI (I 6 i)) :: st)) : GG p l e R s m args below meth c Q nL D A H0 (cW g xa I O L Kd) cells slots pc lv (.int (nI i) :: .ref (xa 5) :: st) := fun H locs ls hP hD hS hl => va_zald C.1.1 C.1.2.1 C.2.1 hP 5 1 rfl rfl (vp_in_nI hi (by decide)) hd (by rw [nI_clamp (Nat.lt_trans hi (by decide))]; exact (kk H locs ls hP hD hS hl))
theorem cs_written (C : CX p s m args meth c cc nL Ts own D (tyG g) A H0 ret) {i v : Nat} (hv9 : v ≤ 1) (hd : decode cc pc = .ok (.bastore, 1)) (hi : i < 200) (kk : GG p l e R s m args below meth c Q nL D A H0 (cW g xa (u2 I 6 i v) O L Kd) cells slots (pc + 1) lv st) : GG p l e R s m args below meth c Q nL D A H0 (cW g xa I O L Kd) cells slots pc lv (.int (nI v) :: .int (nI i) :: .ref (xa 5) :: st) := fun H locs ls hP hD hS hl => va_zast C.1.1 C.1.2.1 C.2.1 hP hD hS 5 1 rfl rfl (vp_in_nI hi (by decide)) hd (by
  rw [nI_clamp (Nat.lt_trans hi (by decide)), nar_bool hv9, mA_up]
  exact fun H1 locs1 hP1 hD1 hS1 => kk H1 locs1 ls (cw_uI (k := 6) (i := i) (v := v) (by decide) ▸ (show va_P D vwCl (cX g xa (u2 I 6 i v) O ++ va_pl L (pf g I O Kd)) H1 from hP1)) (cw_uI (k := 6) (i := i) (v := v) (by decide) ▸ (show va_D A (cX g xa (u2 I 6 i v) O ++ va_pl L (pf g I O Kd)) from hD1)) hS1 hl)
theorem cg_failedByTriple (C : CX p s m args meth c cc nL Ts own D (tyG g) A H0 ret) {idx : Nat} (hin : ∀ w ∈ wsX20, w ∈ Ts) (hlk : Cond.fieldLink own idx "VersionTrans" "failedByTriple" "[I" ∈ Ts) (hd : decode cc pc = .ok (.getfield idx, 3)) (kk : GG p l e R s m args below meth c Q nL D A H0 (cW g xa I O L Kd) cells slots (pc + 3) lv (.ref (xa 6) :: st)) : GG p l e R s m args below meth c Q nL D A H0 (cW g xa I O L Kd) cells slots pc lv (.ref (xa 0) :: st) := fun H locs ls hP hD hS hl => va_get (D := D) (ci := 2) (v := .ref (xa 6)) (C := RX2) (T := TX2) (N := 15) C.1.1 C.1.2.1 C.1.2.2.2.2 hin C.1.2.2.2.1 C.2.1 hP 0 rfl rfl 8 (by decide) (C.1.2.2.2.2 _ hlk) (fun _ h9 => h9) rfl hd (kk H locs ls hP hD hS hl)
theorem cl_failedByTriple (C : CX p s m args meth c cc nL Ts own D (tyG g) A H0 ret) {i : Nat} (hd : decode cc pc = .ok (.iaload, 1)) (hi : i < 200) (kk : GG p l e R s m args below meth c Q nL D A H0 (cW g xa I O L Kd) cells slots (pc + 1) lv (.int (nI (I 7 i)) :: st)) : GG p l e R s m args below meth c Q nL D A H0 (cW g xa I O L Kd) cells slots pc lv (.int (nI i) :: .ref (xa 6) :: st) := fun H locs ls hP hD hS hl => va_iald C.1.1 C.1.2.1 C.2.1 hP 6 0 rfl rfl (vp_in_nI hi (by decide)) hd (by rw [nI_clamp (Nat.lt_trans hi (by decide))]; exact (kk H locs ls hP hD hS hl))
theorem cs_failedByTriple (C : CX p s m args meth c cc nL Ts own D (tyG g) A H0 ret) {i v : Nat} (hd : decode cc pc = .ok (.iastore, 1)) (hi : i < 200) (kk : GG p l e R s m args below meth c Q nL D A H0 (cW g xa (u2 I 7 i v) O L Kd) cells slots (pc + 1) lv st) : GG p l e R s m args below meth c Q nL D A H0 (cW g xa I O L Kd) cells slots pc lv (.int (nI v) :: .int (nI i) :: .ref (xa 6) :: st) := fun H locs ls hP hD hS hl => va_iast C.1.1 C.1.2.1 C.2.1 hP hD hS 6 0 rfl rfl (vp_in_nI hi (by decide)) hd (by
  rw [nI_clamp (Nat.lt_trans hi (by decide)), mA_up]
  exact fun H1 locs1 hP1 hD1 hS1 => kk H1 locs1 ls (cw_uI (k := 7) (i := i) (v := v) (by decide) ▸ (show va_P D vwCl (cX g xa (u2 I 7 i v) O ++ va_pl L (pf g I O Kd)) H1 from hP1)) (cw_uI (k := 7) (i := i) (v := v) (by decide) ▸ (show va_D A (cX g xa (u2 I 7 i v) O ++ va_pl L (pf g I O Kd)) from hD1)) hS1 hl)
theorem cg_refusedForGraph (C : CX p s m args meth c cc nL Ts own D (tyG g) A H0 ret) {idx : Nat} (hin : ∀ w ∈ wsX20, w ∈ Ts) (hlk : Cond.fieldLink own idx "VersionTrans" "refusedForGraph" "[I" ∈ Ts) (hd : decode cc pc = .ok (.getfield idx, 3)) (kk : GG p l e R s m args below meth c Q nL D A H0 (cW g xa I O L Kd) cells slots (pc + 3) lv (.ref (xa 7) :: st)) : GG p l e R s m args below meth c Q nL D A H0 (cW g xa I O L Kd) cells slots pc lv (.ref (xa 0) :: st) := fun H locs ls hP hD hS hl => va_get (D := D) (ci := 2) (v := .ref (xa 7)) (C := RX2) (T := TX2) (N := 15) C.1.1 C.1.2.1 C.1.2.2.2.2 hin C.1.2.2.2.1 C.2.1 hP 0 rfl rfl 9 (by decide) (C.1.2.2.2.2 _ hlk) (fun _ h9 => h9) rfl hd (kk H locs ls hP hD hS hl)
theorem cl_refusedForGraph (C : CX p s m args meth c cc nL Ts own D (tyG g) A H0 ret) {i : Nat} (hd : decode cc pc = .ok (.iaload, 1)) (hi : i < 4) (kk : GG p l e R s m args below meth c Q nL D A H0 (cW g xa I O L Kd) cells slots (pc + 1) lv (.int (nI (I 8 i)) :: st)) : GG p l e R s m args below meth c Q nL D A H0 (cW g xa I O L Kd) cells slots pc lv (.int (nI i) :: .ref (xa 7) :: st) := fun H locs ls hP hD hS hl => va_iald C.1.1 C.1.2.1 C.2.1 hP 7 0 rfl rfl (vp_in_nI hi (by decide)) hd (by rw [nI_clamp (Nat.lt_trans hi (by decide))]; exact (kk H locs ls hP hD hS hl))
theorem cs_refusedForGraph (C : CX p s m args meth c cc nL Ts own D (tyG g) A H0 ret) {i v : Nat} (hd : decode cc pc = .ok (.iastore, 1)) (hi : i < 4) (kk : GG p l e R s m args below meth c Q nL D A H0 (cW g xa (u2 I 8 i v) O L Kd) cells slots (pc + 1) lv st) : GG p l e R s m args below meth c Q nL D A H0 (cW g xa I O L Kd) cells slots pc lv (.int (nI v) :: .int (nI i) :: .ref (xa 7) :: st) := fun H locs ls hP hD hS hl => va_iast C.1.1 C.1.2.1 C.2.1 hP hD hS 7 0 rfl rfl (vp_in_nI hi (by decide)) hd (by
  rw [nI_clamp (Nat.lt_trans hi (by decide)), mA_up]
  exact fun H1 locs1 hP1 hD1 hS1 => kk H1 locs1 ls (cw_uI (k := 8) (i := i) (v := v) (by decide) ▸ (show va_P D vwCl (cX g xa (u2 I 8 i v) O ++ va_pl L (pf g I O Kd)) H1 from hP1)) (cw_uI (k := 8) (i := i) (v := v) (by decide) ▸ (show va_D A (cX g xa (u2 I 8 i v) O ++ va_pl L (pf g I O Kd)) from hD1)) hS1 hl)
theorem cg_ringMembers (C : CX p s m args meth c cc nL Ts own D (tyG g) A H0 ret) {idx : Nat} (hin : ∀ w ∈ wsX20, w ∈ Ts) (hlk : Cond.fieldLink own idx "VersionTrans" "ringMembers" "[I" ∈ Ts) (hd : decode cc pc = .ok (.getfield idx, 3)) (kk : GG p l e R s m args below meth c Q nL D A H0 (cW g xa I O L Kd) cells slots (pc + 3) lv (.ref (xa 8) :: st)) : GG p l e R s m args below meth c Q nL D A H0 (cW g xa I O L Kd) cells slots pc lv (.ref (xa 0) :: st) := fun H locs ls hP hD hS hl => va_get (D := D) (ci := 2) (v := .ref (xa 8)) (C := RX2) (T := TX2) (N := 15) C.1.1 C.1.2.1 C.1.2.2.2.2 hin C.1.2.2.2.1 C.2.1 hP 0 rfl rfl 10 (by decide) (C.1.2.2.2.2 _ hlk) (fun _ h9 => h9) rfl hd (kk H locs ls hP hD hS hl)
theorem cl_ringMembers (C : CX p s m args meth c cc nL Ts own D (tyG g) A H0 ret) {i : Nat} (hd : decode cc pc = .ok (.iaload, 1)) (hi : i < 60) (kk : GG p l e R s m args below meth c Q nL D A H0 (cW g xa I O L Kd) cells slots (pc + 1) lv (.int (nI (I 9 i)) :: st)) : GG p l e R s m args below meth c Q nL D A H0 (cW g xa I O L Kd) cells slots pc lv (.int (nI i) :: .ref (xa 8) :: st) := fun H locs ls hP hD hS hl => va_iald C.1.1 C.1.2.1 C.2.1 hP 8 0 rfl rfl (vp_in_nI hi (by decide)) hd (by rw [nI_clamp (Nat.lt_trans hi (by decide))]; exact (kk H locs ls hP hD hS hl))
theorem cs_ringMembers (C : CX p s m args meth c cc nL Ts own D (tyG g) A H0 ret) {i v : Nat} (hd : decode cc pc = .ok (.iastore, 1)) (hi : i < 60) (kk : GG p l e R s m args below meth c Q nL D A H0 (cW g xa (u2 I 9 i v) O L Kd) cells slots (pc + 1) lv st) : GG p l e R s m args below meth c Q nL D A H0 (cW g xa I O L Kd) cells slots pc lv (.int (nI v) :: .int (nI i) :: .ref (xa 8) :: st) := fun H locs ls hP hD hS hl => va_iast C.1.1 C.1.2.1 C.2.1 hP hD hS 8 0 rfl rfl (vp_in_nI hi (by decide)) hd (by
  rw [nI_clamp (Nat.lt_trans hi (by decide)), mA_up]
  exact fun H1 locs1 hP1 hD1 hS1 => kk H1 locs1 ls (cw_uI (k := 9) (i := i) (v := v) (by decide) ▸ (show va_P D vwCl (cX g xa (u2 I 9 i v) O ++ va_pl L (pf g I O Kd)) H1 from hP1)) (cw_uI (k := 9) (i := i) (v := v) (by decide) ▸ (show va_D A (cX g xa (u2 I 9 i v) O ++ va_pl L (pf g I O Kd)) from hD1)) hS1 hl)
theorem cg_ringSize (C : CX p s m args meth c cc nL Ts own D (tyG g) A H0 ret) {idx : Nat} (hin : ∀ w ∈ wsX20, w ∈ Ts) (hlk : Cond.fieldLink own idx "VersionTrans" "ringSize" "I" ∈ Ts) (hd : decode cc pc = .ok (.getfield idx, 3)) (kk : GG p l e R s m args below meth c Q nL D A H0 (cW g xa I O L Kd) cells slots (pc + 3) lv (.int (nI (I 3 0)) :: st)) : GG p l e R s m args below meth c Q nL D A H0 (cW g xa I O L Kd) cells slots pc lv (.ref (xa 0) :: st) := fun H locs ls hP hD hS hl => va_get (D := D) (ci := 2) (v := .int (nI (I 3 0))) (C := RX2) (T := TX2) (N := 15) C.1.1 C.1.2.1 C.1.2.2.2.2 hin C.1.2.2.2.1 C.2.1 hP 0 rfl rfl 11 (by decide) (C.1.2.2.2.2 _ hlk) (fun _ h9 => h9) rfl hd (kk H locs ls hP hD hS hl)
theorem cp_ringSize (C : CX p s m args meth c cc nL Ts own D (tyG g) A H0 ret) {idx v : Nat} (hin : ∀ w ∈ wsX20, w ∈ Ts) (hlk : Cond.fieldLink own idx "VersionTrans" "ringSize" "I" ∈ Ts) (hd : decode cc pc = .ok (.putfield idx, 3)) (kk : GG p l e R s m args below meth c Q nL D A H0 (cW g xa (u2 I 3 0 v) O L Kd) cells slots (pc + 3) lv st) : GG p l e R s m args below meth c Q nL D A H0 (cW g xa I O L Kd) cells slots pc lv (.int (nI v) :: .ref (xa 0) :: st) := fun H locs ls hP hD hS hl => va_put (D := D) (ci := 2) (v := .int (nI v)) (ty := .int) (C := RX2) (T := TX2) (N := 15) C.1.1 C.1.2.1 C.1.2.2.2.2 hin tyX2 tyX2_ok nmX2 C.1.2.2.2.1 C.2.1 hP hD hS 0 rfl rfl 11 (by decide) (C.1.2.2.2.2 _ hlk) (fun _ h9 => h9) rfl (by decide +kernel) rfl rfl (Nat.le_of_ble_eq_true rfl) hd (fun H1 locs1 hP1 hD1 hS1 => kk H1 locs1 ls (cw_uI (k := 3) (i := 0) (v := v) (by decide) ▸ (show va_P D vwCl (cX g xa (u2 I 3 0 v) O ++ va_pl L (pf g I O Kd)) H1 from hP1)) (cw_uI (k := 3) (i := 0) (v := v) (by decide) ▸ (show va_D A (cX g xa (u2 I 3 0 v) O ++ va_pl L (pf g I O Kd)) from hD1)) hS1 hl)
theorem cg_firstInQueue (C : CX p s m args meth c cc nL Ts own D (tyG g) A H0 ret) {idx : Nat} (hin : ∀ w ∈ wsX20, w ∈ Ts) (hlk : Cond.fieldLink own idx "VersionTrans" "firstInQueue" "LVersionTrans$Transaction;" ∈ Ts) (hd : decode cc pc = .ok (.getfield idx, 3)) (kk : GG p l e R s m args below meth c Q nL D A H0 (cW g xa I O L Kd) cells slots (pc + 3) lv (va_rf (O 0 0) :: st)) : GG p l e R s m args below meth c Q nL D A H0 (cW g xa I O L Kd) cells slots pc lv (.ref (xa 0) :: st) := fun H locs ls hP hD hS hl => va_get (D := D) (ci := 2) (v := va_rf (O 0 0)) (C := RX2) (T := TX2) (N := 15) C.1.1 C.1.2.1 C.1.2.2.2.2 hin C.1.2.2.2.1 C.2.1 hP 0 rfl rfl 12 (by decide) (C.1.2.2.2.2 _ hlk) (fun _ h9 => h9) rfl hd (kk H locs ls hP hD hS hl)
theorem cp_firstInQueue (C : CX p s m args meth c cc nL Ts own D (tyG g) A H0 ret) {idx : Nat} {r : Option Nat} (hin : ∀ w ∈ wsX20, w ∈ Ts) (hlk : Cond.fieldLink own idx "VersionTrans" "firstInQueue" "LVersionTrans$Transaction;" ∈ Ts) (hd : decode cc pc = .ok (.putfield idx, 3)) (kk : GG p l e R s m args below meth c Q nL D A H0 (cW g xa I (u2 O 0 0 r) L Kd) cells slots (pc + 3) lv st) : GG p l e R s m args below meth c Q nL D A H0 (cW g xa I O L Kd) cells slots pc lv (va_rf r :: .ref (xa 0) :: st) := fun H locs ls hP hD hS hl => va_put (D := D) (ci := 2) (v := va_rf r) (ty := .object "VersionTrans$Transaction") (C := RX2) (T := TX2) (N := 15) C.1.1 C.1.2.1 C.1.2.2.2.2 hin tyX2 tyX2_ok nmX2 C.1.2.2.2.1 C.2.1 hP hD hS 0 rfl rfl 12 (by decide) (C.1.2.2.2.2 _ hlk) (fun _ h9 => h9) rfl (by decide +kernel) (fitq r _).1 (fitq r _).2 (Nat.le_of_ble_eq_true rfl) hd (fun H1 locs1 hP1 hD1 hS1 => kk H1 locs1 ls hP1 hD1 hS1 hl)
theorem cg_lastInQueue (C : CX p s m args meth c cc nL Ts own D (tyG g) A H0 ret) {idx : Nat} (hin : ∀ w ∈ wsX20, w ∈ Ts) (hlk : Cond.fieldLink own idx "VersionTrans" "lastInQueue" "LVersionTrans$Transaction;" ∈ Ts) (hd : decode cc pc = .ok (.getfield idx, 3)) (kk : GG p l e R s m args below meth c Q nL D A H0 (cW g xa I O L Kd) cells slots (pc + 3) lv (va_rf (O 1 0) :: st)) : GG p l e R s m args below meth c Q nL D A H0 (cW g xa I O L Kd) cells slots pc lv (.ref (xa 0) :: st) := fun H locs ls hP hD hS hl => va_get (D := D) (ci := 2) (v := va_rf (O 1 0)) (C := RX2) (T := TX2) (N := 15) C.1.1 C.1.2.1 C.1.2.2.2.2 hin C.1.2.2.2.1 C.2.1 hP 0 rfl rfl 13 (by decide) (C.1.2.2.2.2 _ hlk) (fun _ h9 => h9) rfl hd (kk H locs ls hP hD hS hl)
theorem cp_lastInQueue (C : CX p s m args meth c cc nL Ts own D (tyG g) A H0 ret) {idx : Nat} {r : Option Nat} (hin : ∀ w ∈ wsX20, w ∈ Ts) (hlk : Cond.fieldLink own idx "VersionTrans" "lastInQueue" "LVersionTrans$Transaction;" ∈ Ts) (hd : decode cc pc = .ok (.putfield idx, 3)) (kk : GG p l e R s m args below meth c Q nL D A H0 (cW g xa I (u2 O 1 0 r) L Kd) cells slots (pc + 3) lv st) : GG p l e R s m args below meth c Q nL D A H0 (cW g xa I O L Kd) cells slots pc lv (va_rf r :: .ref (xa 0) :: st) := fun H locs ls hP hD hS hl => va_put (D := D) (ci := 2) (v := va_rf r) (ty := .object "VersionTrans$Transaction") (C := RX2) (T := TX2) (N := 15) C.1.1 C.1.2.1 C.1.2.2.2.2 hin tyX2 tyX2_ok nmX2 C.1.2.2.2.1 C.2.1 hP hD hS 0 rfl rfl 13 (by decide) (C.1.2.2.2.2 _ hlk) (fun _ h9 => h9) rfl (by decide +kernel) (fitq r _).1 (fitq r _).2 (Nat.le_of_ble_eq_true rfl) hd (fun H1 locs1 hP1 hD1 hS1 => kk H1 locs1 ls hP1 hD1 hS1 hl)
theorem cg_waitsBegun (C : CX p s m args meth c cc nL Ts own D (tyG g) A H0 ret) {idx : Nat} (hin : ∀ w ∈ wsX20, w ∈ Ts) (hlk : Cond.fieldLink own idx "VersionTrans" "waitsBegun" "I" ∈ Ts) (hd : decode cc pc = .ok (.getfield idx, 3)) (kk : GG p l e R s m args below meth c Q nL D A H0 (cW g xa I O L Kd) cells slots (pc + 3) lv (.int (nI (I 4 0)) :: st)) : GG p l e R s m args below meth c Q nL D A H0 (cW g xa I O L Kd) cells slots pc lv (.ref (xa 0) :: st) := fun H locs ls hP hD hS hl => va_get (D := D) (ci := 2) (v := .int (nI (I 4 0))) (C := RX2) (T := TX2) (N := 15) C.1.1 C.1.2.1 C.1.2.2.2.2 hin C.1.2.2.2.1 C.2.1 hP 0 rfl rfl 14 (by decide) (C.1.2.2.2.2 _ hlk) (fun _ h9 => h9) rfl hd (kk H locs ls hP hD hS hl)
theorem cp_waitsBegun (C : CX p s m args meth c cc nL Ts own D (tyG g) A H0 ret) {idx v : Nat} (hin : ∀ w ∈ wsX20, w ∈ Ts) (hlk : Cond.fieldLink own idx "VersionTrans" "waitsBegun" "I" ∈ Ts) (hd : decode cc pc = .ok (.putfield idx, 3)) (kk : GG p l e R s m args below meth c Q nL D A H0 (cW g xa (u2 I 4 0 v) O L Kd) cells slots (pc + 3) lv st) : GG p l e R s m args below meth c Q nL D A H0 (cW g xa I O L Kd) cells slots pc lv (.int (nI v) :: .ref (xa 0) :: st) := fun H locs ls hP hD hS hl => va_put (D := D) (ci := 2) (v := .int (nI v)) (ty := .int) (C := RX2) (T := TX2) (N := 15) C.1.1 C.1.2.1 C.1.2.2.2.2 hin tyX2 tyX2_ok nmX2 C.1.2.2.2.1 C.2.1 hP hD hS 0 rfl rfl 14 (by decide) (C.1.2.2.2.2 _ hlk) (fun _ h9 => h9) rfl (by decide +kernel) rfl rfl (Nat.le_of_ble_eq_true rfl) hd (fun H1 locs1 hP1 hD1 hS1 => kk H1 locs1 ls (cw_uI (k := 4) (i := 0) (v := v) (by decide) ▸ (show va_P D vwCl (cX g xa (u2 I 4 0 v) O ++ va_pl L (pf g I O Kd)) H1 from hP1)) (cw_uI (k := 4) (i := 0) (v := v) (by decide) ▸ (show va_D A (cX g xa (u2 I 4 0 v) O ++ va_pl L (pf g I O Kd)) from hD1)) hS1 hl)
theorem tg_number (C : CX p s m args meth c cc nL Ts own D (tyG g) A H0 ret) {idx a : Nat} (haL : a ∈ L) (haK : Kd a = 1) (hin : ∀ w ∈ wsX10, w ∈ Ts) (hlk : Cond.fieldLink own idx "VersionTrans$Transaction" "number" "I" ∈ Ts) (hd : decode cc pc = .ok (.getfield idx, 3)) (kk : GG p l e R s m args below meth c Q nL D A H0 (cW g xa I O L Kd) cells slots (pc + 3) lv (.int (nI (I 12 a)) :: st)) : GG p l e R s m args below meth c Q nL D A H0 (cW g xa I O L Kd) cells slots pc lv (.ref a :: st) := fun H locs ls hP hD hS hl => by
  obtain ⟨qk, hqk⟩ := va_pl_get (X := cX g xa I O) (f := pf g I O Kd) haL
  rw [pf_tx haK] at hqk
  exact va_get (D := D) (ci := 1) (v := .int (nI (I 12 a))) (C := RX1) (T := TX1) (N := 11) C.1.1 C.1.2.1 C.1.2.2.2.2 hin C.1.2.2.2.1 C.2.1 hP qk hqk rfl 0 (by decide) (C.1.2.2.2.2 _ hlk) (fun _ h9 => h9) rfl hd (kk H locs ls hP hD hS hl)
theorem tu_number {v : Nat} {a : Nat} (haK : Kd a = 1) (b : Nat) : va_up (pf g I O Kd) a (.inr (1, [.int (nI v), .int (nI (I 13 a)), .int (nI (I 14 a)), va_rf (O 6 a), .int (nI (I 15 a)), .int (nI (I 16 a)), va_rf (O 7 a), .int (nI (I 17 a)), .int (nI (I 18 a)), .int (nI (I 19 a)), va_rf (O 8 a)])) b = pf g (u2 I 12 a v) O Kd b := by
  by_cases hb : b = a
  · subst hb
    rw [va_up_self, pf_tx haK]
    simp [u2_eq]
  · rw [va_up_ne _ _ hb]
    simp [pf, u2_eq, hb]
theorem tp_number (C : CX p s m args meth c cc nL Ts own D (tyG g) A H0 ret) {idx a : Nat} {v : Nat} (hin2 : meth.name = "<init>") (hdecl : own = "VersionTrans$Transaction") (haL : a ∈ L) (haK : Kd a = 1) (hin : ∀ w ∈ wsX10, w ∈ Ts) (hlk : Cond.fieldLink own idx "VersionTrans$Transaction" "number" "I" ∈ Ts) (hd : decode cc pc = .ok (.putfield idx, 3)) (kk : GG p l e R s m args below meth c Q nL D A H0 (cW g xa (u2 I 12 a v) O L Kd) cells slots (pc + 3) lv st) : GG p l e R s m args below meth c Q nL D A H0 (cW g xa I O L Kd) cells slots pc lv (.int (nI v) :: .ref a :: st) := fun H locs ls hP hD hS hl => by
  obtain ⟨qk, hqk0⟩ := va_pl_get (X := cX g xa I O) (f := pf g I O Kd) haL
  have hqk := hqk0
  rw [pf_tx haK] at hqk
  refine va_putF (D := D) (ci := 1) (v := .int (nI v)) (ty := .int) (C := RX1) (T := TX1) (N := 11) C.1.1 C.1.2.1 C.1.2.2.2.2 hin tyX1 tyX1_ok nmX1 C.1.2.2.2.1 C.2.1 hP hD hS qk hqk rfl 0 (by decide) (C.1.2.2.2.2 _ hlk) (fun _ h9 => h9) rfl hin2 hdecl.symm (by decide +kernel) rfl rfl (Nat.le_of_ble_eq_true rfl) hd (fun H1 locs1 hP1 hD1 hS1 => ?_)
  have hE : (cX g xa I O ++ va_pl L (pf g I O Kd)).set qk (a, .inr (1, [.int (nI v), .int (nI (I 13 a)), .int (nI (I 14 a)), va_rf (O 6 a), .int (nI (I 15 a)), .int (nI (I 16 a)), va_rf (O 7 a), .int (nI (I 17 a)), .int (nI (I 18 a)), .int (nI (I 19 a)), va_rf (O 8 a)])) = cW g xa (u2 I 12 a v) O L Kd := (va_pl_set hD haL hqk0).trans (congrArg (fun z => cX g xa I O ++ z) (va_pl_congr (tu_number haK)))
  exact kk H1 locs1 ls (hE ▸ hP1) (hE ▸ hD1) hS1 hl
theorem tg_writer (C : CX p s m args meth c cc nL Ts own D (tyG g) A H0 ret) {idx a : Nat} (haL : a ∈ L) (haK : Kd a = 1) (hin : ∀ w ∈ wsX10, w ∈ Ts) (hlk : Cond.fieldLink own idx "VersionTrans$Transaction" "writer" "Z" ∈ Ts) (hd : decode cc pc = .ok (.getfield idx, 3)) (kk : GG p l e R s m args below meth c Q nL D A H0 (cW g xa I O L Kd) cells slots (pc + 3) lv (.int (nI (I 13 a)) :: st)) : GG p l e R s m args below meth c Q nL D A H0 (cW g xa I O L Kd) cells slots pc lv (.ref a :: st) := fun H locs ls hP hD hS hl => by
  obtain ⟨qk, hqk⟩ := va_pl_get (X := cX g xa I O) (f := pf g I O Kd) haL
  rw [pf_tx haK] at hqk
  exact va_get (D := D) (ci := 1) (v := .int (nI (I 13 a))) (C := RX1) (T := TX1) (N := 11) C.1.1 C.1.2.1 C.1.2.2.2.2 hin C.1.2.2.2.1 C.2.1 hP qk hqk rfl 1 (by decide) (C.1.2.2.2.2 _ hlk) (fun _ h9 => h9) rfl hd (kk H locs ls hP hD hS hl)
theorem tu_writer {v : Nat} {a : Nat} (haK : Kd a = 1) (b : Nat) : va_up (pf g I O Kd) a (.inr (1, [.int (nI (I 12 a)), .int (nI v), .int (nI (I 14 a)), va_rf (O 6 a), .int (nI (I 15 a)), .int (nI (I 16 a)), va_rf (O 7 a), .int (nI (I 17 a)), .int (nI (I 18 a)), .int (nI (I 19 a)), va_rf (O 8 a)])) b = pf g (u2 I 13 a v) O Kd b := by
  by_cases hb : b = a
  · subst hb
    rw [va_up_self, pf_tx haK]
    simp [u2_eq]
  · rw [va_up_ne _ _ hb]
    simp [pf, u2_eq, hb]
theorem tp_writer (C : CX p s m args meth c cc nL Ts own D (tyG g) A H0 ret) {idx a : Nat} {v : Nat} (hv9 : v ≤ 1) (hin2 : meth.name = "<init>") (hdecl : own = "VersionTrans$Transaction") (haL : a ∈ L) (haK : Kd a = 1) (hin : ∀ w ∈ wsX10, w ∈ Ts) (hlk : Cond.fieldLink own idx "VersionTrans$Transaction" "writer" "Z" ∈ Ts) (hd : decode cc pc = .ok (.putfield idx, 3)) (kk : GG p l e R s m args below meth c Q nL D A H0 (cW g xa (u2 I 13 a v) O L Kd) cells slots (pc + 3) lv st) : GG p l e R s m args below meth c Q nL D A H0 (cW g xa I O L Kd) cells slots pc lv (.int (nI v) :: .ref a :: st) := fun H locs ls hP hD hS hl => by
  obtain ⟨qk, hqk0⟩ := va_pl_get (X := cX g xa I O) (f := pf g I O Kd) haL
  have hqk := hqk0
  rw [pf_tx haK] at hqk
  refine va_putF (D := D) (ci := 1) (v := .int (nI v)) (ty := .boolean) (C := RX1) (T := TX1) (N := 11) C.1.1 C.1.2.1 C.1.2.2.2.2 hin tyX1 tyX1_ok nmX1 C.1.2.2.2.1 C.2.1 hP hD hS qk hqk rfl 1 (by decide) (C.1.2.2.2.2 _ hlk) (fun _ h9 => h9) rfl hin2 hdecl.symm (by decide +kernel) (nar_boolV hv9) (fit_boolV hv9) (Nat.le_of_ble_eq_true rfl) hd (fun H1 locs1 hP1 hD1 hS1 => ?_)
  have hE : (cX g xa I O ++ va_pl L (pf g I O Kd)).set qk (a, .inr (1, [.int (nI (I 12 a)), .int (nI v), .int (nI (I 14 a)), va_rf (O 6 a), .int (nI (I 15 a)), .int (nI (I 16 a)), va_rf (O 7 a), .int (nI (I 17 a)), .int (nI (I 18 a)), .int (nI (I 19 a)), va_rf (O 8 a)])) = cW g xa (u2 I 13 a v) O L Kd := (va_pl_set hD haL hqk0).trans (congrArg (fun z => cX g xa I O ++ z) (va_pl_congr (tu_writer haK)))
  exact kk H1 locs1 ls (hE ▸ hP1) (hE ▸ hD1) hS1 hl
theorem tg_sees (C : CX p s m args meth c cc nL Ts own D (tyG g) A H0 ret) {idx a : Nat} (haL : a ∈ L) (haK : Kd a = 1) (hin : ∀ w ∈ wsX10, w ∈ Ts) (hlk : Cond.fieldLink own idx "VersionTrans$Transaction" "sees" "I" ∈ Ts) (hd : decode cc pc = .ok (.getfield idx, 3)) (kk : GG p l e R s m args below meth c Q nL D A H0 (cW g xa I O L Kd) cells slots (pc + 3) lv (.int (nI (I 14 a)) :: st)) : GG p l e R s m args below meth c Q nL D A H0 (cW g xa I O L Kd) cells slots pc lv (.ref a :: st) := fun H locs ls hP hD hS hl => by
  obtain ⟨qk, hqk⟩ := va_pl_get (X := cX g xa I O) (f := pf g I O Kd) haL
  rw [pf_tx haK] at hqk
  exact va_get (D := D) (ci := 1) (v := .int (nI (I 14 a))) (C := RX1) (T := TX1) (N := 11) C.1.1 C.1.2.1 C.1.2.2.2.2 hin C.1.2.2.2.1 C.2.1 hP qk hqk rfl 2 (by decide) (C.1.2.2.2.2 _ hlk) (fun _ h9 => h9) rfl hd (kk H locs ls hP hD hS hl)
theorem tu_sees {v : Nat} {a : Nat} (haK : Kd a = 1) (b : Nat) : va_up (pf g I O Kd) a (.inr (1, [.int (nI (I 12 a)), .int (nI (I 13 a)), .int (nI v), va_rf (O 6 a), .int (nI (I 15 a)), .int (nI (I 16 a)), va_rf (O 7 a), .int (nI (I 17 a)), .int (nI (I 18 a)), .int (nI (I 19 a)), va_rf (O 8 a)])) b = pf g (u2 I 14 a v) O Kd b := by
  by_cases hb : b = a
  · subst hb
    rw [va_up_self, pf_tx haK]
    simp [u2_eq]
  · rw [va_up_ne _ _ hb]
    simp [pf, u2_eq, hb]
theorem tp_sees (C : CX p s m args meth c cc nL Ts own D (tyG g) A H0 ret) {idx a : Nat} {v : Nat} (hin2 : meth.name = "<init>") (hdecl : own = "VersionTrans$Transaction") (haL : a ∈ L) (haK : Kd a = 1) (hin : ∀ w ∈ wsX10, w ∈ Ts) (hlk : Cond.fieldLink own idx "VersionTrans$Transaction" "sees" "I" ∈ Ts) (hd : decode cc pc = .ok (.putfield idx, 3)) (kk : GG p l e R s m args below meth c Q nL D A H0 (cW g xa (u2 I 14 a v) O L Kd) cells slots (pc + 3) lv st) : GG p l e R s m args below meth c Q nL D A H0 (cW g xa I O L Kd) cells slots pc lv (.int (nI v) :: .ref a :: st) := fun H locs ls hP hD hS hl => by
  obtain ⟨qk, hqk0⟩ := va_pl_get (X := cX g xa I O) (f := pf g I O Kd) haL
  have hqk := hqk0
  rw [pf_tx haK] at hqk
  refine va_putF (D := D) (ci := 1) (v := .int (nI v)) (ty := .int) (C := RX1) (T := TX1) (N := 11) C.1.1 C.1.2.1 C.1.2.2.2.2 hin tyX1 tyX1_ok nmX1 C.1.2.2.2.1 C.2.1 hP hD hS qk hqk rfl 2 (by decide) (C.1.2.2.2.2 _ hlk) (fun _ h9 => h9) rfl hin2 hdecl.symm (by decide +kernel) rfl rfl (Nat.le_of_ble_eq_true rfl) hd (fun H1 locs1 hP1 hD1 hS1 => ?_)
  have hE : (cX g xa I O ++ va_pl L (pf g I O Kd)).set qk (a, .inr (1, [.int (nI (I 12 a)), .int (nI (I 13 a)), .int (nI v), va_rf (O 6 a), .int (nI (I 15 a)), .int (nI (I 16 a)), va_rf (O 7 a), .int (nI (I 17 a)), .int (nI (I 18 a)), .int (nI (I 19 a)), va_rf (O 8 a)])) = cW g xa (u2 I 14 a v) O L Kd := (va_pl_set hD haL hqk0).trans (congrArg (fun z => cX g xa I O ++ z) (va_pl_congr (tu_sees haK)))
  exact kk H1 locs1 ls (hE ▸ hP1) (hE ▸ hD1) hS1 hl
theorem tg_noted (C : CX p s m args meth c cc nL Ts own D (tyG g) A H0 ret) {idx a : Nat} (haL : a ∈ L) (haK : Kd a = 1) (hin : ∀ w ∈ wsX10, w ∈ Ts) (hlk : Cond.fieldLink own idx "VersionTrans$Transaction" "noted" "[Z" ∈ Ts) (hd : decode cc pc = .ok (.getfield idx, 3)) (kk : GG p l e R s m args below meth c Q nL D A H0 (cW g xa I O L Kd) cells slots (pc + 3) lv (va_rf (O 6 a) :: st)) : GG p l e R s m args below meth c Q nL D A H0 (cW g xa I O L Kd) cells slots pc lv (.ref a :: st) := fun H locs ls hP hD hS hl => by
  obtain ⟨qk, hqk⟩ := va_pl_get (X := cX g xa I O) (f := pf g I O Kd) haL
  rw [pf_tx haK] at hqk
  exact va_get (D := D) (ci := 1) (v := va_rf (O 6 a)) (C := RX1) (T := TX1) (N := 11) C.1.1 C.1.2.1 C.1.2.2.2.2 hin C.1.2.2.2.1 C.2.1 hP qk hqk rfl 3 (by decide) (C.1.2.2.2.2 _ hlk) (fun _ h9 => h9) rfl hd (kk H locs ls hP hD hS hl)
theorem tu_noted {r : Option Nat} {a : Nat} (haK : Kd a = 1) (b : Nat) : va_up (pf g I O Kd) a (.inr (1, [.int (nI (I 12 a)), .int (nI (I 13 a)), .int (nI (I 14 a)), va_rf r, .int (nI (I 15 a)), .int (nI (I 16 a)), va_rf (O 7 a), .int (nI (I 17 a)), .int (nI (I 18 a)), .int (nI (I 19 a)), va_rf (O 8 a)])) b = pf g I (u2 O 6 a r) Kd b := by
  by_cases hb : b = a
  · subst hb
    rw [va_up_self, pf_tx haK]
    simp [u2_eq]
  · rw [va_up_ne _ _ hb]
    simp [pf, u2_eq, hb]
theorem tp_noted (C : CX p s m args meth c cc nL Ts own D (tyG g) A H0 ret) {idx a : Nat} {r : Option Nat} (hin2 : meth.name = "<init>") (hdecl : own = "VersionTrans$Transaction") (haL : a ∈ L) (haK : Kd a = 1) (hin : ∀ w ∈ wsX10, w ∈ Ts) (hlk : Cond.fieldLink own idx "VersionTrans$Transaction" "noted" "[Z" ∈ Ts) (hd : decode cc pc = .ok (.putfield idx, 3)) (kk : GG p l e R s m args below meth c Q nL D A H0 (cW g xa I (u2 O 6 a r) L Kd) cells slots (pc + 3) lv st) : GG p l e R s m args below meth c Q nL D A H0 (cW g xa I O L Kd) cells slots pc lv (va_rf r :: .ref a :: st) := fun H locs ls hP hD hS hl => by
  obtain ⟨qk, hqk0⟩ := va_pl_get (X := cX g xa I O) (f := pf g I O Kd) haL
  have hqk := hqk0
  rw [pf_tx haK] at hqk
  refine va_putF (D := D) (ci := 1) (v := va_rf r) (ty := .array .boolean) (C := RX1) (T := TX1) (N := 11) C.1.1 C.1.2.1 C.1.2.2.2.2 hin tyX1 tyX1_ok nmX1 C.1.2.2.2.1 C.2.1 hP hD hS qk hqk rfl 3 (by decide) (C.1.2.2.2.2 _ hlk) (fun _ h9 => h9) rfl hin2 hdecl.symm (by decide +kernel) (by cases r <;> rfl) (by cases r <;> rfl) (Nat.le_of_ble_eq_true rfl) hd (fun H1 locs1 hP1 hD1 hS1 => ?_)
  have hE : (cX g xa I O ++ va_pl L (pf g I O Kd)).set qk (a, .inr (1, [.int (nI (I 12 a)), .int (nI (I 13 a)), .int (nI (I 14 a)), va_rf r, .int (nI (I 15 a)), .int (nI (I 16 a)), va_rf (O 7 a), .int (nI (I 17 a)), .int (nI (I 18 a)), .int (nI (I 19 a)), va_rf (O 8 a)])) = cW g xa I (u2 O 6 a r) L Kd := (va_pl_set hD haL hqk0).trans (congrArg (fun z => cX g xa I O ++ z) (va_pl_congr (tu_noted haK)))
  exact kk H1 locs1 ls (hE ▸ hP1) (hE ▸ hD1) hS1 hl
theorem tg_notes (C : CX p s m args meth c cc nL Ts own D (tyG g) A H0 ret) {idx a : Nat} (haL : a ∈ L) (haK : Kd a = 1) (hin : ∀ w ∈ wsX10, w ∈ Ts) (hlk : Cond.fieldLink own idx "VersionTrans$Transaction" "notes" "I" ∈ Ts) (hd : decode cc pc = .ok (.getfield idx, 3)) (kk : GG p l e R s m args below meth c Q nL D A H0 (cW g xa I O L Kd) cells slots (pc + 3) lv (.int (nI (I 15 a)) :: st)) : GG p l e R s m args below meth c Q nL D A H0 (cW g xa I O L Kd) cells slots pc lv (.ref a :: st) := fun H locs ls hP hD hS hl => by
  obtain ⟨qk, hqk⟩ := va_pl_get (X := cX g xa I O) (f := pf g I O Kd) haL
  rw [pf_tx haK] at hqk
  exact va_get (D := D) (ci := 1) (v := .int (nI (I 15 a))) (C := RX1) (T := TX1) (N := 11) C.1.1 C.1.2.1 C.1.2.2.2.2 hin C.1.2.2.2.1 C.2.1 hP qk hqk rfl 4 (by decide) (C.1.2.2.2.2 _ hlk) (fun _ h9 => h9) rfl hd (kk H locs ls hP hD hS hl)
theorem tu_notes {v : Nat} {a : Nat} (haK : Kd a = 1) (b : Nat) : va_up (pf g I O Kd) a (.inr (1, [.int (nI (I 12 a)), .int (nI (I 13 a)), .int (nI (I 14 a)), va_rf (O 6 a), .int (nI v), .int (nI (I 16 a)), va_rf (O 7 a), .int (nI (I 17 a)), .int (nI (I 18 a)), .int (nI (I 19 a)), va_rf (O 8 a)])) b = pf g (u2 I 15 a v) O Kd b := by
  by_cases hb : b = a
  · subst hb
    rw [va_up_self, pf_tx haK]
    simp [u2_eq]
  · rw [va_up_ne _ _ hb]
    simp [pf, u2_eq, hb]
theorem tp_notes (C : CX p s m args meth c cc nL Ts own D (tyG g) A H0 ret) {idx a : Nat} {v : Nat}  (haL : a ∈ L) (haK : Kd a = 1) (hin : ∀ w ∈ wsX10, w ∈ Ts) (hlk : Cond.fieldLink own idx "VersionTrans$Transaction" "notes" "I" ∈ Ts) (hd : decode cc pc = .ok (.putfield idx, 3)) (kk : GG p l e R s m args below meth c Q nL D A H0 (cW g xa (u2 I 15 a v) O L Kd) cells slots (pc + 3) lv st) : GG p l e R s m args below meth c Q nL D A H0 (cW g xa I O L Kd) cells slots pc lv (.int (nI v) :: .ref a :: st) := fun H locs ls hP hD hS hl => by
  obtain ⟨qk, hqk0⟩ := va_pl_get (X := cX g xa I O) (f := pf g I O Kd) haL
  have hqk := hqk0
  rw [pf_tx haK] at hqk
  refine va_put (D := D) (ci := 1) (v := .int (nI v)) (ty := .int) (C := RX1) (T := TX1) (N := 11) C.1.1 C.1.2.1 C.1.2.2.2.2 hin tyX1 tyX1_ok nmX1 C.1.2.2.2.1 C.2.1 hP hD hS qk hqk rfl 4 (by decide) (C.1.2.2.2.2 _ hlk) (fun _ h9 => h9) rfl (by decide +kernel) rfl rfl (Nat.le_of_ble_eq_true rfl) hd (fun H1 locs1 hP1 hD1 hS1 => ?_)
  have hE : (cX g xa I O ++ va_pl L (pf g I O Kd)).set qk (a, .inr (1, [.int (nI (I 12 a)), .int (nI (I 13 a)), .int (nI (I 14 a)), va_rf (O 6 a), .int (nI v), .int (nI (I 16 a)), va_rf (O 7 a), .int (nI (I 17 a)), .int (nI (I 18 a)), .int (nI (I 19 a)), va_rf (O 8 a)])) = cW g xa (u2 I 15 a v) O L Kd := (va_pl_set hD haL hqk0).trans (congrArg (fun z => cX g xa I O ++ z) (va_pl_congr (tu_notes haK)))
  exact kk H1 locs1 ls (hE ▸ hP1) (hE ▸ hD1) hS1 hl
theorem tg_state (C : CX p s m args meth c cc nL Ts own D (tyG g) A H0 ret) {idx a : Nat} (haL : a ∈ L) (haK : Kd a = 1) (hin : ∀ w ∈ wsX10, w ∈ Ts) (hlk : Cond.fieldLink own idx "VersionTrans$Transaction" "state" "I" ∈ Ts) (hd : decode cc pc = .ok (.getfield idx, 3)) (kk : GG p l e R s m args below meth c Q nL D A H0 (cW g xa I O L Kd) cells slots (pc + 3) lv (.int (nI (I 16 a)) :: st)) : GG p l e R s m args below meth c Q nL D A H0 (cW g xa I O L Kd) cells slots pc lv (.ref a :: st) := fun H locs ls hP hD hS hl => by
  obtain ⟨qk, hqk⟩ := va_pl_get (X := cX g xa I O) (f := pf g I O Kd) haL
  rw [pf_tx haK] at hqk
  exact va_get (D := D) (ci := 1) (v := .int (nI (I 16 a))) (C := RX1) (T := TX1) (N := 11) C.1.1 C.1.2.1 C.1.2.2.2.2 hin C.1.2.2.2.1 C.2.1 hP qk hqk rfl 5 (by decide) (C.1.2.2.2.2 _ hlk) (fun _ h9 => h9) rfl hd (kk H locs ls hP hD hS hl)
theorem tu_state {v : Nat} {a : Nat} (haK : Kd a = 1) (b : Nat) : va_up (pf g I O Kd) a (.inr (1, [.int (nI (I 12 a)), .int (nI (I 13 a)), .int (nI (I 14 a)), va_rf (O 6 a), .int (nI (I 15 a)), .int (nI v), va_rf (O 7 a), .int (nI (I 17 a)), .int (nI (I 18 a)), .int (nI (I 19 a)), va_rf (O 8 a)])) b = pf g (u2 I 16 a v) O Kd b := by
  by_cases hb : b = a
  · subst hb
    rw [va_up_self, pf_tx haK]
    simp [u2_eq]
  · rw [va_up_ne _ _ hb]
    simp [pf, u2_eq, hb]
theorem tp_state (C : CX p s m args meth c cc nL Ts own D (tyG g) A H0 ret) {idx a : Nat} {v : Nat}  (haL : a ∈ L) (haK : Kd a = 1) (hin : ∀ w ∈ wsX10, w ∈ Ts) (hlk : Cond.fieldLink own idx "VersionTrans$Transaction" "state" "I" ∈ Ts) (hd : decode cc pc = .ok (.putfield idx, 3)) (kk : GG p l e R s m args below meth c Q nL D A H0 (cW g xa (u2 I 16 a v) O L Kd) cells slots (pc + 3) lv st) : GG p l e R s m args below meth c Q nL D A H0 (cW g xa I O L Kd) cells slots pc lv (.int (nI v) :: .ref a :: st) := fun H locs ls hP hD hS hl => by
  obtain ⟨qk, hqk0⟩ := va_pl_get (X := cX g xa I O) (f := pf g I O Kd) haL
  have hqk := hqk0
  rw [pf_tx haK] at hqk
  refine va_put (D := D) (ci := 1) (v := .int (nI v)) (ty := .int) (C := RX1) (T := TX1) (N := 11) C.1.1 C.1.2.1 C.1.2.2.2.2 hin tyX1 tyX1_ok nmX1 C.1.2.2.2.1 C.2.1 hP hD hS qk hqk rfl 5 (by decide) (C.1.2.2.2.2 _ hlk) (fun _ h9 => h9) rfl (by decide +kernel) rfl rfl (Nat.le_of_ble_eq_true rfl) hd (fun H1 locs1 hP1 hD1 hS1 => ?_)
  have hE : (cX g xa I O ++ va_pl L (pf g I O Kd)).set qk (a, .inr (1, [.int (nI (I 12 a)), .int (nI (I 13 a)), .int (nI (I 14 a)), va_rf (O 6 a), .int (nI (I 15 a)), .int (nI v), va_rf (O 7 a), .int (nI (I 17 a)), .int (nI (I 18 a)), .int (nI (I 19 a)), va_rf (O 8 a)])) = cW g xa (u2 I 16 a v) O L Kd := (va_pl_set hD haL hqk0).trans (congrArg (fun z => cX g xa I O ++ z) (va_pl_congr (tu_state haK)))
  exact kk H1 locs1 ls (hE ▸ hP1) (hE ▸ hD1) hS1 hl
theorem tg_waitsFor (C : CX p s m args meth c cc nL Ts own D (tyG g) A H0 ret) {idx a : Nat} (haL : a ∈ L) (haK : Kd a = 1) (hin : ∀ w ∈ wsX10, w ∈ Ts) (hlk : Cond.fieldLink own idx "VersionTrans$Transaction" "waitsFor" "LVersionTrans$Transaction;" ∈ Ts) (hd : decode cc pc = .ok (.getfield idx, 3)) (kk : GG p l e R s m args below meth c Q nL D A H0 (cW g xa I O L Kd) cells slots (pc + 3) lv (va_rf (O 7 a) :: st)) : GG p l e R s m args below meth c Q nL D A H0 (cW g xa I O L Kd) cells slots pc lv (.ref a :: st) := fun H locs ls hP hD hS hl => by
  obtain ⟨qk, hqk⟩ := va_pl_get (X := cX g xa I O) (f := pf g I O Kd) haL
  rw [pf_tx haK] at hqk
  exact va_get (D := D) (ci := 1) (v := va_rf (O 7 a)) (C := RX1) (T := TX1) (N := 11) C.1.1 C.1.2.1 C.1.2.2.2.2 hin C.1.2.2.2.1 C.2.1 hP qk hqk rfl 6 (by decide) (C.1.2.2.2.2 _ hlk) (fun _ h9 => h9) rfl hd (kk H locs ls hP hD hS hl)
theorem tu_waitsFor {r : Option Nat} {a : Nat} (haK : Kd a = 1) (b : Nat) : va_up (pf g I O Kd) a (.inr (1, [.int (nI (I 12 a)), .int (nI (I 13 a)), .int (nI (I 14 a)), va_rf (O 6 a), .int (nI (I 15 a)), .int (nI (I 16 a)), va_rf r, .int (nI (I 17 a)), .int (nI (I 18 a)), .int (nI (I 19 a)), va_rf (O 8 a)])) b = pf g I (u2 O 7 a r) Kd b := by
  by_cases hb : b = a
  · subst hb
    rw [va_up_self, pf_tx haK]
    simp [u2_eq]
  · rw [va_up_ne _ _ hb]
    simp [pf, u2_eq, hb]
theorem tp_waitsFor (C : CX p s m args meth c cc nL Ts own D (tyG g) A H0 ret) {idx a : Nat} {r : Option Nat}  (haL : a ∈ L) (haK : Kd a = 1) (hin : ∀ w ∈ wsX10, w ∈ Ts) (hlk : Cond.fieldLink own idx "VersionTrans$Transaction" "waitsFor" "LVersionTrans$Transaction;" ∈ Ts) (hd : decode cc pc = .ok (.putfield idx, 3)) (kk : GG p l e R s m args below meth c Q nL D A H0 (cW g xa I (u2 O 7 a r) L Kd) cells slots (pc + 3) lv st) : GG p l e R s m args below meth c Q nL D A H0 (cW g xa I O L Kd) cells slots pc lv (va_rf r :: .ref a :: st) := fun H locs ls hP hD hS hl => by
  obtain ⟨qk, hqk0⟩ := va_pl_get (X := cX g xa I O) (f := pf g I O Kd) haL
  have hqk := hqk0
  rw [pf_tx haK] at hqk
  refine va_put (D := D) (ci := 1) (v := va_rf r) (ty := .object "VersionTrans$Transaction") (C := RX1) (T := TX1) (N := 11) C.1.1 C.1.2.1 C.1.2.2.2.2 hin tyX1 tyX1_ok nmX1 C.1.2.2.2.1 C.2.1 hP hD hS qk hqk rfl 6 (by decide) (C.1.2.2.2.2 _ hlk) (fun _ h9 => h9) rfl (by decide +kernel) (fitq r _).1 (fitq r _).2 (Nat.le_of_ble_eq_true rfl) hd (fun H1 locs1 hP1 hD1 hS1 => ?_)
  have hE : (cX g xa I O ++ va_pl L (pf g I O Kd)).set qk (a, .inr (1, [.int (nI (I 12 a)), .int (nI (I 13 a)), .int (nI (I 14 a)), va_rf (O 6 a), .int (nI (I 15 a)), .int (nI (I 16 a)), va_rf r, .int (nI (I 17 a)), .int (nI (I 18 a)), .int (nI (I 19 a)), va_rf (O 8 a)])) = cW g xa I (u2 O 7 a r) L Kd := (va_pl_set hD haL hqk0).trans (congrArg (fun z => cX g xa I O ++ z) (va_pl_congr (tu_waitsFor haK)))
  exact kk H1 locs1 ls (hE ▸ hP1) (hE ▸ hD1) hS1 hl
theorem tg_waitingTriple (C : CX p s m args meth c cc nL Ts own D (tyG g) A H0 ret) {idx a : Nat} (haL : a ∈ L) (haK : Kd a = 1) (hin : ∀ w ∈ wsX10, w ∈ Ts) (hlk : Cond.fieldLink own idx "VersionTrans$Transaction" "waitingTriple" "I" ∈ Ts) (hd : decode cc pc = .ok (.getfield idx, 3)) (kk : GG p l e R s m args below meth c Q nL D A H0 (cW g xa I O L Kd) cells slots (pc + 3) lv (.int (nI (I 17 a)) :: st)) : GG p l e R s m args below meth c Q nL D A H0 (cW g xa I O L Kd) cells slots pc lv (.ref a :: st) := fun H locs ls hP hD hS hl => by
  obtain ⟨qk, hqk⟩ := va_pl_get (X := cX g xa I O) (f := pf g I O Kd) haL
  rw [pf_tx haK] at hqk
  exact va_get (D := D) (ci := 1) (v := .int (nI (I 17 a))) (C := RX1) (T := TX1) (N := 11) C.1.1 C.1.2.1 C.1.2.2.2.2 hin C.1.2.2.2.1 C.2.1 hP qk hqk rfl 7 (by decide) (C.1.2.2.2.2 _ hlk) (fun _ h9 => h9) rfl hd (kk H locs ls hP hD hS hl)
theorem tu_waitingTriple {v : Nat} {a : Nat} (haK : Kd a = 1) (b : Nat) : va_up (pf g I O Kd) a (.inr (1, [.int (nI (I 12 a)), .int (nI (I 13 a)), .int (nI (I 14 a)), va_rf (O 6 a), .int (nI (I 15 a)), .int (nI (I 16 a)), va_rf (O 7 a), .int (nI v), .int (nI (I 18 a)), .int (nI (I 19 a)), va_rf (O 8 a)])) b = pf g (u2 I 17 a v) O Kd b := by
  by_cases hb : b = a
  · subst hb
    rw [va_up_self, pf_tx haK]
    simp [u2_eq]
  · rw [va_up_ne _ _ hb]
    simp [pf, u2_eq, hb]
theorem tp_waitingTriple (C : CX p s m args meth c cc nL Ts own D (tyG g) A H0 ret) {idx a : Nat} {v : Nat}  (haL : a ∈ L) (haK : Kd a = 1) (hin : ∀ w ∈ wsX10, w ∈ Ts) (hlk : Cond.fieldLink own idx "VersionTrans$Transaction" "waitingTriple" "I" ∈ Ts) (hd : decode cc pc = .ok (.putfield idx, 3)) (kk : GG p l e R s m args below meth c Q nL D A H0 (cW g xa (u2 I 17 a v) O L Kd) cells slots (pc + 3) lv st) : GG p l e R s m args below meth c Q nL D A H0 (cW g xa I O L Kd) cells slots pc lv (.int (nI v) :: .ref a :: st) := fun H locs ls hP hD hS hl => by
  obtain ⟨qk, hqk0⟩ := va_pl_get (X := cX g xa I O) (f := pf g I O Kd) haL
  have hqk := hqk0
  rw [pf_tx haK] at hqk
  refine va_put (D := D) (ci := 1) (v := .int (nI v)) (ty := .int) (C := RX1) (T := TX1) (N := 11) C.1.1 C.1.2.1 C.1.2.2.2.2 hin tyX1 tyX1_ok nmX1 C.1.2.2.2.1 C.2.1 hP hD hS qk hqk rfl 7 (by decide) (C.1.2.2.2.2 _ hlk) (fun _ h9 => h9) rfl (by decide +kernel) rfl rfl (Nat.le_of_ble_eq_true rfl) hd (fun H1 locs1 hP1 hD1 hS1 => ?_)
  have hE : (cX g xa I O ++ va_pl L (pf g I O Kd)).set qk (a, .inr (1, [.int (nI (I 12 a)), .int (nI (I 13 a)), .int (nI (I 14 a)), va_rf (O 6 a), .int (nI (I 15 a)), .int (nI (I 16 a)), va_rf (O 7 a), .int (nI v), .int (nI (I 18 a)), .int (nI (I 19 a)), va_rf (O 8 a)])) = cW g xa (u2 I 17 a v) O L Kd := (va_pl_set hD haL hqk0).trans (congrArg (fun z => cX g xa I O ++ z) (va_pl_congr (tu_waitingTriple haK)))
  exact kk H1 locs1 ls (hE ▸ hP1) (hE ▸ hD1) hS1 hl
theorem tg_waitingThere (C : CX p s m args meth c cc nL Ts own D (tyG g) A H0 ret) {idx a : Nat} (haL : a ∈ L) (haK : Kd a = 1) (hin : ∀ w ∈ wsX10, w ∈ Ts) (hlk : Cond.fieldLink own idx "VersionTrans$Transaction" "waitingThere" "Z" ∈ Ts) (hd : decode cc pc = .ok (.getfield idx, 3)) (kk : GG p l e R s m args below meth c Q nL D A H0 (cW g xa I O L Kd) cells slots (pc + 3) lv (.int (nI (I 18 a)) :: st)) : GG p l e R s m args below meth c Q nL D A H0 (cW g xa I O L Kd) cells slots pc lv (.ref a :: st) := fun H locs ls hP hD hS hl => by
  obtain ⟨qk, hqk⟩ := va_pl_get (X := cX g xa I O) (f := pf g I O Kd) haL
  rw [pf_tx haK] at hqk
  exact va_get (D := D) (ci := 1) (v := .int (nI (I 18 a))) (C := RX1) (T := TX1) (N := 11) C.1.1 C.1.2.1 C.1.2.2.2.2 hin C.1.2.2.2.1 C.2.1 hP qk hqk rfl 8 (by decide) (C.1.2.2.2.2 _ hlk) (fun _ h9 => h9) rfl hd (kk H locs ls hP hD hS hl)
theorem tu_waitingThere {v : Nat} {a : Nat} (haK : Kd a = 1) (b : Nat) : va_up (pf g I O Kd) a (.inr (1, [.int (nI (I 12 a)), .int (nI (I 13 a)), .int (nI (I 14 a)), va_rf (O 6 a), .int (nI (I 15 a)), .int (nI (I 16 a)), va_rf (O 7 a), .int (nI (I 17 a)), .int (nI v), .int (nI (I 19 a)), va_rf (O 8 a)])) b = pf g (u2 I 18 a v) O Kd b := by
  by_cases hb : b = a
  · subst hb
    rw [va_up_self, pf_tx haK]
    simp [u2_eq]
  · rw [va_up_ne _ _ hb]
    simp [pf, u2_eq, hb]
theorem tp_waitingThere (C : CX p s m args meth c cc nL Ts own D (tyG g) A H0 ret) {idx a : Nat} {v : Nat} (hv9 : v ≤ 1)  (haL : a ∈ L) (haK : Kd a = 1) (hin : ∀ w ∈ wsX10, w ∈ Ts) (hlk : Cond.fieldLink own idx "VersionTrans$Transaction" "waitingThere" "Z" ∈ Ts) (hd : decode cc pc = .ok (.putfield idx, 3)) (kk : GG p l e R s m args below meth c Q nL D A H0 (cW g xa (u2 I 18 a v) O L Kd) cells slots (pc + 3) lv st) : GG p l e R s m args below meth c Q nL D A H0 (cW g xa I O L Kd) cells slots pc lv (.int (nI v) :: .ref a :: st) := fun H locs ls hP hD hS hl => by
  obtain ⟨qk, hqk0⟩ := va_pl_get (X := cX g xa I O) (f := pf g I O Kd) haL
  have hqk := hqk0
  rw [pf_tx haK] at hqk
  refine va_put (D := D) (ci := 1) (v := .int (nI v)) (ty := .boolean) (C := RX1) (T := TX1) (N := 11) C.1.1 C.1.2.1 C.1.2.2.2.2 hin tyX1 tyX1_ok nmX1 C.1.2.2.2.1 C.2.1 hP hD hS qk hqk rfl 8 (by decide) (C.1.2.2.2.2 _ hlk) (fun _ h9 => h9) rfl (by decide +kernel) (nar_boolV hv9) (fit_boolV hv9) (Nat.le_of_ble_eq_true rfl) hd (fun H1 locs1 hP1 hD1 hS1 => ?_)
  have hE : (cX g xa I O ++ va_pl L (pf g I O Kd)).set qk (a, .inr (1, [.int (nI (I 12 a)), .int (nI (I 13 a)), .int (nI (I 14 a)), va_rf (O 6 a), .int (nI (I 15 a)), .int (nI (I 16 a)), va_rf (O 7 a), .int (nI (I 17 a)), .int (nI v), .int (nI (I 19 a)), va_rf (O 8 a)])) = cW g xa (u2 I 18 a v) O L Kd := (va_pl_set hD haL hqk0).trans (congrArg (fun z => cX g xa I O ++ z) (va_pl_congr (tu_waitingThere haK)))
  exact kk H1 locs1 ls (hE ▸ hP1) (hE ▸ hD1) hS1 hl
theorem tg_beganToWait (C : CX p s m args meth c cc nL Ts own D (tyG g) A H0 ret) {idx a : Nat} (haL : a ∈ L) (haK : Kd a = 1) (hin : ∀ w ∈ wsX10, w ∈ Ts) (hlk : Cond.fieldLink own idx "VersionTrans$Transaction" "beganToWait" "I" ∈ Ts) (hd : decode cc pc = .ok (.getfield idx, 3)) (kk : GG p l e R s m args below meth c Q nL D A H0 (cW g xa I O L Kd) cells slots (pc + 3) lv (.int (nI (I 19 a)) :: st)) : GG p l e R s m args below meth c Q nL D A H0 (cW g xa I O L Kd) cells slots pc lv (.ref a :: st) := fun H locs ls hP hD hS hl => by
  obtain ⟨qk, hqk⟩ := va_pl_get (X := cX g xa I O) (f := pf g I O Kd) haL
  rw [pf_tx haK] at hqk
  exact va_get (D := D) (ci := 1) (v := .int (nI (I 19 a))) (C := RX1) (T := TX1) (N := 11) C.1.1 C.1.2.1 C.1.2.2.2.2 hin C.1.2.2.2.1 C.2.1 hP qk hqk rfl 9 (by decide) (C.1.2.2.2.2 _ hlk) (fun _ h9 => h9) rfl hd (kk H locs ls hP hD hS hl)
theorem tu_beganToWait {v : Nat} {a : Nat} (haK : Kd a = 1) (b : Nat) : va_up (pf g I O Kd) a (.inr (1, [.int (nI (I 12 a)), .int (nI (I 13 a)), .int (nI (I 14 a)), va_rf (O 6 a), .int (nI (I 15 a)), .int (nI (I 16 a)), va_rf (O 7 a), .int (nI (I 17 a)), .int (nI (I 18 a)), .int (nI v), va_rf (O 8 a)])) b = pf g (u2 I 19 a v) O Kd b := by
  by_cases hb : b = a
  · subst hb
    rw [va_up_self, pf_tx haK]
    simp [u2_eq]
  · rw [va_up_ne _ _ hb]
    simp [pf, u2_eq, hb]
theorem tp_beganToWait (C : CX p s m args meth c cc nL Ts own D (tyG g) A H0 ret) {idx a : Nat} {v : Nat}  (haL : a ∈ L) (haK : Kd a = 1) (hin : ∀ w ∈ wsX10, w ∈ Ts) (hlk : Cond.fieldLink own idx "VersionTrans$Transaction" "beganToWait" "I" ∈ Ts) (hd : decode cc pc = .ok (.putfield idx, 3)) (kk : GG p l e R s m args below meth c Q nL D A H0 (cW g xa (u2 I 19 a v) O L Kd) cells slots (pc + 3) lv st) : GG p l e R s m args below meth c Q nL D A H0 (cW g xa I O L Kd) cells slots pc lv (.int (nI v) :: .ref a :: st) := fun H locs ls hP hD hS hl => by
  obtain ⟨qk, hqk0⟩ := va_pl_get (X := cX g xa I O) (f := pf g I O Kd) haL
  have hqk := hqk0
  rw [pf_tx haK] at hqk
  refine va_put (D := D) (ci := 1) (v := .int (nI v)) (ty := .int) (C := RX1) (T := TX1) (N := 11) C.1.1 C.1.2.1 C.1.2.2.2.2 hin tyX1 tyX1_ok nmX1 C.1.2.2.2.1 C.2.1 hP hD hS qk hqk rfl 9 (by decide) (C.1.2.2.2.2 _ hlk) (fun _ h9 => h9) rfl (by decide +kernel) rfl rfl (Nat.le_of_ble_eq_true rfl) hd (fun H1 locs1 hP1 hD1 hS1 => ?_)
  have hE : (cX g xa I O ++ va_pl L (pf g I O Kd)).set qk (a, .inr (1, [.int (nI (I 12 a)), .int (nI (I 13 a)), .int (nI (I 14 a)), va_rf (O 6 a), .int (nI (I 15 a)), .int (nI (I 16 a)), va_rf (O 7 a), .int (nI (I 17 a)), .int (nI (I 18 a)), .int (nI v), va_rf (O 8 a)])) = cW g xa (u2 I 19 a v) O L Kd := (va_pl_set hD haL hqk0).trans (congrArg (fun z => cX g xa I O ++ z) (va_pl_congr (tu_beganToWait haK)))
  exact kk H1 locs1 ls (hE ▸ hP1) (hE ▸ hD1) hS1 hl
theorem tg_nextInQueue (C : CX p s m args meth c cc nL Ts own D (tyG g) A H0 ret) {idx a : Nat} (haL : a ∈ L) (haK : Kd a = 1) (hin : ∀ w ∈ wsX10, w ∈ Ts) (hlk : Cond.fieldLink own idx "VersionTrans$Transaction" "nextInQueue" "LVersionTrans$Transaction;" ∈ Ts) (hd : decode cc pc = .ok (.getfield idx, 3)) (kk : GG p l e R s m args below meth c Q nL D A H0 (cW g xa I O L Kd) cells slots (pc + 3) lv (va_rf (O 8 a) :: st)) : GG p l e R s m args below meth c Q nL D A H0 (cW g xa I O L Kd) cells slots pc lv (.ref a :: st) := fun H locs ls hP hD hS hl => by
  obtain ⟨qk, hqk⟩ := va_pl_get (X := cX g xa I O) (f := pf g I O Kd) haL
  rw [pf_tx haK] at hqk
  exact va_get (D := D) (ci := 1) (v := va_rf (O 8 a)) (C := RX1) (T := TX1) (N := 11) C.1.1 C.1.2.1 C.1.2.2.2.2 hin C.1.2.2.2.1 C.2.1 hP qk hqk rfl 10 (by decide) (C.1.2.2.2.2 _ hlk) (fun _ h9 => h9) rfl hd (kk H locs ls hP hD hS hl)
theorem tu_nextInQueue {r : Option Nat} {a : Nat} (haK : Kd a = 1) (b : Nat) : va_up (pf g I O Kd) a (.inr (1, [.int (nI (I 12 a)), .int (nI (I 13 a)), .int (nI (I 14 a)), va_rf (O 6 a), .int (nI (I 15 a)), .int (nI (I 16 a)), va_rf (O 7 a), .int (nI (I 17 a)), .int (nI (I 18 a)), .int (nI (I 19 a)), va_rf r])) b = pf g I (u2 O 8 a r) Kd b := by
  by_cases hb : b = a
  · subst hb
    rw [va_up_self, pf_tx haK]
    simp [u2_eq]
  · rw [va_up_ne _ _ hb]
    simp [pf, u2_eq, hb]
theorem tp_nextInQueue (C : CX p s m args meth c cc nL Ts own D (tyG g) A H0 ret) {idx a : Nat} {r : Option Nat}  (haL : a ∈ L) (haK : Kd a = 1) (hin : ∀ w ∈ wsX10, w ∈ Ts) (hlk : Cond.fieldLink own idx "VersionTrans$Transaction" "nextInQueue" "LVersionTrans$Transaction;" ∈ Ts) (hd : decode cc pc = .ok (.putfield idx, 3)) (kk : GG p l e R s m args below meth c Q nL D A H0 (cW g xa I (u2 O 8 a r) L Kd) cells slots (pc + 3) lv st) : GG p l e R s m args below meth c Q nL D A H0 (cW g xa I O L Kd) cells slots pc lv (va_rf r :: .ref a :: st) := fun H locs ls hP hD hS hl => by
  obtain ⟨qk, hqk0⟩ := va_pl_get (X := cX g xa I O) (f := pf g I O Kd) haL
  have hqk := hqk0
  rw [pf_tx haK] at hqk
  refine va_put (D := D) (ci := 1) (v := va_rf r) (ty := .object "VersionTrans$Transaction") (C := RX1) (T := TX1) (N := 11) C.1.1 C.1.2.1 C.1.2.2.2.2 hin tyX1 tyX1_ok nmX1 C.1.2.2.2.1 C.2.1 hP hD hS qk hqk rfl 10 (by decide) (C.1.2.2.2.2 _ hlk) (fun _ h9 => h9) rfl (by decide +kernel) (fitq r _).1 (fitq r _).2 (Nat.le_of_ble_eq_true rfl) hd (fun H1 locs1 hP1 hD1 hS1 => ?_)
  have hE : (cX g xa I O ++ va_pl L (pf g I O Kd)).set qk (a, .inr (1, [.int (nI (I 12 a)), .int (nI (I 13 a)), .int (nI (I 14 a)), va_rf (O 6 a), .int (nI (I 15 a)), .int (nI (I 16 a)), va_rf (O 7 a), .int (nI (I 17 a)), .int (nI (I 18 a)), .int (nI (I 19 a)), va_rf r])) = cW g xa I (u2 O 8 a r) L Kd := (va_pl_set hD haL hqk0).trans (congrArg (fun z => cX g xa I O ++ z) (va_pl_congr (tu_nextInQueue haK)))
  exact kk H1 locs1 ls (hE ▸ hP1) (hE ▸ hD1) hS1 hl
theorem rg_version (C : CX p s m args meth c cc nL Ts own D (tyG g) A H0 ret) {idx a : Nat} (haL : a ∈ L) (haK : Kd a = 0) (hin : ∀ w ∈ wsX00, w ∈ Ts) (hlk : Cond.fieldLink own idx "VersionTrans$Row" "version" "I" ∈ Ts) (hd : decode cc pc = .ok (.getfield idx, 3)) (kk : GG p l e R s m args below meth c Q nL D A H0 (cW g xa I O L Kd) cells slots (pc + 3) lv (.int (nI (I 10 a)) :: st)) : GG p l e R s m args below meth c Q nL D A H0 (cW g xa I O L Kd) cells slots pc lv (.ref a :: st) := fun H locs ls hP hD hS hl => by
  obtain ⟨qk, hqk⟩ := va_pl_get (X := cX g xa I O) (f := pf g I O Kd) haL
  rw [pf_row haK] at hqk
  exact va_get (D := D) (ci := 0) (v := .int (nI (I 10 a))) (C := RX0) (T := TX0) (N := 3) C.1.1 C.1.2.1 C.1.2.2.2.2 hin C.1.2.2.2.1 C.2.1 hP qk hqk rfl 0 (by decide) (C.1.2.2.2.2 _ hlk) (fun _ h9 => h9) rfl hd (kk H locs ls hP hD hS hl)
theorem ru_version {v : Nat} {a : Nat} (haK : Kd a = 0) (b : Nat) : va_up (pf g I O Kd) a (.inr (0, [.int (nI v), .int (nI (I 11 a)), va_rf (O 5 a)])) b = pf g (u2 I 10 a v) O Kd b := by
  by_cases hb : b = a
  · subst hb
    rw [va_up_self, pf_row haK]
    simp [u2_eq]
  · rw [va_up_ne _ _ hb]
    simp [pf, u2_eq, hb]
theorem rp_version (C : CX p s m args meth c cc nL Ts own D (tyG g) A H0 ret) {idx a : Nat} {v : Nat} (hin2 : meth.name = "<init>") (hdecl : own = "VersionTrans$Row") (haL : a ∈ L) (haK : Kd a = 0) (hin : ∀ w ∈ wsX00, w ∈ Ts) (hlk : Cond.fieldLink own idx "VersionTrans$Row" "version" "I" ∈ Ts) (hd : decode cc pc = .ok (.putfield idx, 3)) (kk : GG p l e R s m args below meth c Q nL D A H0 (cW g xa (u2 I 10 a v) O L Kd) cells slots (pc + 3) lv st) : GG p l e R s m args below meth c Q nL D A H0 (cW g xa I O L Kd) cells slots pc lv (.int (nI v) :: .ref a :: st) := fun H locs ls hP hD hS hl => by
  obtain ⟨qk, hqk0⟩ := va_pl_get (X := cX g xa I O) (f := pf g I O Kd) haL
  have hqk := hqk0
  rw [pf_row haK] at hqk
  refine va_putF (D := D) (ci := 0) (v := .int (nI v)) (ty := .int) (C := RX0) (T := TX0) (N := 3) C.1.1 C.1.2.1 C.1.2.2.2.2 hin tyX0 tyX0_ok nmX0 C.1.2.2.2.1 C.2.1 hP hD hS qk hqk rfl 0 (by decide) (C.1.2.2.2.2 _ hlk) (fun _ h9 => h9) rfl hin2 hdecl.symm (by decide +kernel) rfl rfl (Nat.le_of_ble_eq_true rfl) hd (fun H1 locs1 hP1 hD1 hS1 => ?_)
  have hE : (cX g xa I O ++ va_pl L (pf g I O Kd)).set qk (a, .inr (0, [.int (nI v), .int (nI (I 11 a)), va_rf (O 5 a)])) = cW g xa (u2 I 10 a v) O L Kd := (va_pl_set hD haL hqk0).trans (congrArg (fun z => cX g xa I O ++ z) (va_pl_congr (ru_version haK)))
  exact kk H1 locs1 ls (hE ▸ hP1) (hE ▸ hD1) hS1 hl
theorem rg_there (C : CX p s m args meth c cc nL Ts own D (tyG g) A H0 ret) {idx a : Nat} (haL : a ∈ L) (haK : Kd a = 0) (hin : ∀ w ∈ wsX00, w ∈ Ts) (hlk : Cond.fieldLink own idx "VersionTrans$Row" "there" "Z" ∈ Ts) (hd : decode cc pc = .ok (.getfield idx, 3)) (kk : GG p l e R s m args below meth c Q nL D A H0 (cW g xa I O L Kd) cells slots (pc + 3) lv (.int (nI (I 11 a)) :: st)) : GG p l e R s m args below meth c Q nL D A H0 (cW g xa I O L Kd) cells slots pc lv (.ref a :: st) := fun H locs ls hP hD hS hl => by
  obtain ⟨qk, hqk⟩ := va_pl_get (X := cX g xa I O) (f := pf g I O Kd) haL
  rw [pf_row haK] at hqk
  exact va_get (D := D) (ci := 0) (v := .int (nI (I 11 a))) (C := RX0) (T := TX0) (N := 3) C.1.1 C.1.2.1 C.1.2.2.2.2 hin C.1.2.2.2.1 C.2.1 hP qk hqk rfl 1 (by decide) (C.1.2.2.2.2 _ hlk) (fun _ h9 => h9) rfl hd (kk H locs ls hP hD hS hl)
theorem ru_there {v : Nat} {a : Nat} (haK : Kd a = 0) (b : Nat) : va_up (pf g I O Kd) a (.inr (0, [.int (nI (I 10 a)), .int (nI v), va_rf (O 5 a)])) b = pf g (u2 I 11 a v) O Kd b := by
  by_cases hb : b = a
  · subst hb
    rw [va_up_self, pf_row haK]
    simp [u2_eq]
  · rw [va_up_ne _ _ hb]
    simp [pf, u2_eq, hb]
theorem rp_there (C : CX p s m args meth c cc nL Ts own D (tyG g) A H0 ret) {idx a : Nat} {v : Nat} (hv9 : v ≤ 1) (hin2 : meth.name = "<init>") (hdecl : own = "VersionTrans$Row") (haL : a ∈ L) (haK : Kd a = 0) (hin : ∀ w ∈ wsX00, w ∈ Ts) (hlk : Cond.fieldLink own idx "VersionTrans$Row" "there" "Z" ∈ Ts) (hd : decode cc pc = .ok (.putfield idx, 3)) (kk : GG p l e R s m args below meth c Q nL D A H0 (cW g xa (u2 I 11 a v) O L Kd) cells slots (pc + 3) lv st) : GG p l e R s m args below meth c Q nL D A H0 (cW g xa I O L Kd) cells slots pc lv (.int (nI v) :: .ref a :: st) := fun H locs ls hP hD hS hl => by
  obtain ⟨qk, hqk0⟩ := va_pl_get (X := cX g xa I O) (f := pf g I O Kd) haL
  have hqk := hqk0
  rw [pf_row haK] at hqk
  refine va_putF (D := D) (ci := 0) (v := .int (nI v)) (ty := .boolean) (C := RX0) (T := TX0) (N := 3) C.1.1 C.1.2.1 C.1.2.2.2.2 hin tyX0 tyX0_ok nmX0 C.1.2.2.2.1 C.2.1 hP hD hS qk hqk rfl 1 (by decide) (C.1.2.2.2.2 _ hlk) (fun _ h9 => h9) rfl hin2 hdecl.symm (by decide +kernel) (nar_boolV hv9) (fit_boolV hv9) (Nat.le_of_ble_eq_true rfl) hd (fun H1 locs1 hP1 hD1 hS1 => ?_)
  have hE : (cX g xa I O ++ va_pl L (pf g I O Kd)).set qk (a, .inr (0, [.int (nI (I 10 a)), .int (nI v), va_rf (O 5 a)])) = cW g xa (u2 I 11 a v) O L Kd := (va_pl_set hD haL hqk0).trans (congrArg (fun z => cX g xa I O ++ z) (va_pl_congr (ru_there haK)))
  exact kk H1 locs1 ls (hE ▸ hP1) (hE ▸ hD1) hS1 hl
theorem rg_older (C : CX p s m args meth c cc nL Ts own D (tyG g) A H0 ret) {idx a : Nat} (haL : a ∈ L) (haK : Kd a = 0) (hin : ∀ w ∈ wsX00, w ∈ Ts) (hlk : Cond.fieldLink own idx "VersionTrans$Row" "older" "LVersionTrans$Row;" ∈ Ts) (hd : decode cc pc = .ok (.getfield idx, 3)) (kk : GG p l e R s m args below meth c Q nL D A H0 (cW g xa I O L Kd) cells slots (pc + 3) lv (va_rf (O 5 a) :: st)) : GG p l e R s m args below meth c Q nL D A H0 (cW g xa I O L Kd) cells slots pc lv (.ref a :: st) := fun H locs ls hP hD hS hl => by
  obtain ⟨qk, hqk⟩ := va_pl_get (X := cX g xa I O) (f := pf g I O Kd) haL
  rw [pf_row haK] at hqk
  exact va_get (D := D) (ci := 0) (v := va_rf (O 5 a)) (C := RX0) (T := TX0) (N := 3) C.1.1 C.1.2.1 C.1.2.2.2.2 hin C.1.2.2.2.1 C.2.1 hP qk hqk rfl 2 (by decide) (C.1.2.2.2.2 _ hlk) (fun _ h9 => h9) rfl hd (kk H locs ls hP hD hS hl)
theorem ru_older {r : Option Nat} {a : Nat} (haK : Kd a = 0) (b : Nat) : va_up (pf g I O Kd) a (.inr (0, [.int (nI (I 10 a)), .int (nI (I 11 a)), va_rf r])) b = pf g I (u2 O 5 a r) Kd b := by
  by_cases hb : b = a
  · subst hb
    rw [va_up_self, pf_row haK]
    simp [u2_eq]
  · rw [va_up_ne _ _ hb]
    simp [pf, u2_eq, hb]
theorem rp_older (C : CX p s m args meth c cc nL Ts own D (tyG g) A H0 ret) {idx a : Nat} {r : Option Nat}  (haL : a ∈ L) (haK : Kd a = 0) (hin : ∀ w ∈ wsX00, w ∈ Ts) (hlk : Cond.fieldLink own idx "VersionTrans$Row" "older" "LVersionTrans$Row;" ∈ Ts) (hd : decode cc pc = .ok (.putfield idx, 3)) (kk : GG p l e R s m args below meth c Q nL D A H0 (cW g xa I (u2 O 5 a r) L Kd) cells slots (pc + 3) lv st) : GG p l e R s m args below meth c Q nL D A H0 (cW g xa I O L Kd) cells slots pc lv (va_rf r :: .ref a :: st) := fun H locs ls hP hD hS hl => by
  obtain ⟨qk, hqk0⟩ := va_pl_get (X := cX g xa I O) (f := pf g I O Kd) haL
  have hqk := hqk0
  rw [pf_row haK] at hqk
  refine va_put (D := D) (ci := 0) (v := va_rf r) (ty := .object "VersionTrans$Row") (C := RX0) (T := TX0) (N := 3) C.1.1 C.1.2.1 C.1.2.2.2.2 hin tyX0 tyX0_ok nmX0 C.1.2.2.2.1 C.2.1 hP hD hS qk hqk rfl 2 (by decide) (C.1.2.2.2.2 _ hlk) (fun _ h9 => h9) rfl (by decide +kernel) (fitq r _).1 (fitq r _).2 (Nat.le_of_ble_eq_true rfl) hd (fun H1 locs1 hP1 hD1 hS1 => ?_)
  have hE : (cX g xa I O ++ va_pl L (pf g I O Kd)).set qk (a, .inr (0, [.int (nI (I 10 a)), .int (nI (I 11 a)), va_rf r])) = cW g xa I (u2 O 5 a r) L Kd := (va_pl_set hD haL hqk0).trans (congrArg (fun z => cX g xa I O ++ z) (va_pl_congr (ru_older haK)))
  exact kk H1 locs1 ls (hE ▸ hP1) (hE ▸ hD1) hS1 hl
theorem nl_noted (C : CX p s m args meth c cc nL Ts own D (tyG g) A H0 ret) {a i : Nat} (haL : a ∈ L) (haK : Kd a = 2) (hd : decode cc pc = .ok (.baload, 1)) (hi : i < 4) (kk : GG p l e R s m args below meth c Q nL D A H0 (cW g xa I O L Kd) cells slots (pc + 1) lv (.int (nI (I (20 + i) a)) :: st)) : GG p l e R s m args below meth c Q nL D A H0 (cW g xa I O L Kd) cells slots pc lv (.int (nI i) :: .ref a :: st) := fun H locs ls hP hD hS hl => by
  obtain ⟨qk, hqk⟩ := va_pl_get (X := cX g xa I O) (f := pf g I O Kd) haL
  rw [pf_no haK] at hqk
  exact va_zald C.1.1 C.1.2.1 C.2.1 hP qk 1 hqk rfl (vp_in_nI hi (by decide)) hd (by rw [nI_clamp (Nat.lt_trans hi (by decide))]; exact (kk H locs ls hP hD hS hl))
theorem nu_noted {a i v : Nat} (haK : Kd a = 2) (b : Nat) : va_up (pf g I O Kd) a (.inl (g 1, 4, .inl (upd (fun j => nI (I (20 + j) a)) i (nI v)))) b = pf g (u2 I (20 + i) a v) O Kd b := by
  by_cases hb : b = a
  · subst hb
    rw [va_up_self, pf_no haK]
    refine congrArg (fun f => (Sum.inl (g 1, 4, Sum.inl f) : va_E)) ?_
    funext j
    rw [u2_eq]
    unfold upd
    by_cases h : j = i
    · simp [h]
    · simp [h]
  · rw [va_up_ne _ _ hb]
    simp [pf, u2_eq, hb]
theorem ns_noted (C : CX p s m args meth c cc nL Ts own D (tyG g) A H0 ret) {a i v : Nat} (hv9 : v ≤ 1) (haL : a ∈ L) (haK : Kd a = 2) (hd : decode cc pc = .ok (.bastore, 1)) (hi : i < 4) (kk : GG p l e R s m args below meth c Q nL D A H0 (cW g xa (u2 I (20 + i) a v) O L Kd) cells slots (pc + 1) lv st) : GG p l e R s m args below meth c Q nL D A H0 (cW g xa I O L Kd) cells slots pc lv (.int (nI v) :: .int (nI i) :: .ref a :: st) := fun H locs ls hP hD hS hl => by
  obtain ⟨qk, hqk0⟩ := va_pl_get (X := cX g xa I O) (f := pf g I O Kd) haL
  have hqk := hqk0
  rw [pf_no haK] at hqk
  refine va_zast C.1.1 C.1.2.1 C.2.1 hP hD hS qk 1 hqk rfl (vp_in_nI hi (by decide)) hd ?_
  rw [nI_clamp (Nat.lt_trans hi (by decide)), nar_bool hv9]
  intro H1 locs1 hP1 hD1 hS1
  have hX : cX g xa (u2 I (20 + i) a v) O = cX g xa I O := by
    have h : ∀ k, k < 20 → u2 I (20 + i) a v k = I k := fun k hk => by funext j; exact u2_nk I a v j (by omega)
    have h2 : ∀ k, k < 20 → mA (u2 I (20 + i) a v) k = mA I k := fun k hk => by unfold mA; rw [h k hk]
    simp only [cX, h 0 (by decide), h 1 (by decide), h 2 (by decide), h 3 (by decide), h 4 (by decide), h2 5 (by decide), h2 6 (by decide), h2 7 (by decide), h2 8 (by decide), h2 9 (by decide)]
  have hE : (cX g xa I O ++ va_pl L (pf g I O Kd)).set qk (a, .inl (g 1, 4, .inl (upd (fun j => nI (I (20 + j) a)) i (nI v)))) = cW g xa (u2 I (20 + i) a v) O L Kd := (va_pl_set hD haL hqk0).trans (by unfold cW; rw [hX]; exact congrArg (fun z => cX g xa I O ++ z) (va_pl_congr (nu_noted haK)))
  exact kk H1 locs1 ls (hE ▸ hP1) (hE ▸ hD1) hS1 hl
end CWR
end
section
/-! what the calls mean, over numbers: V k i is place i of the reference's field k (holders, waitsFor, best: one more, 0 for none) -/
abbrev VV : Type := Nat → Nat → Nat
def BdN (V : VV) (N : Nat) : Prop := ∀ k i, V k i < N
theorem bd {V : VV} {N : Nat} (hB : BdN V N) (hN : N ≤ 2 ^ 30) (k i : Nat) : V k i < 2 ^ 31 := Nat.lt_trans (Nat.lt_of_lt_of_le (hB k i) hN) (by decide)
theorem BdN.up {V : VV} {N k i v : Nat} (h : BdN V N) (hv : v < N) : BdN (u2 V k i v) N := fun a b => by
  rw [u2_eq]
  by_cases q : a = k ∧ b = i
  · rw [if_pos q]; exact hv
  · rw [if_neg q]; exact h a b
theorem BdN.mono {V : VV} {N M : Nat} (h : BdN V N) (hM : N ≤ M) : BdN V M := fun a b => Nat.lt_of_lt_of_le (h a b) hM
/-- the row that counts, and one; 0 where there is none -/
def vRow (V : VV) (t v : Nat) : Nat → Nat
  | 0 => 0
  | k + 1 => if V 0 k = t ∧ V 1 k ≤ v ∧ (vRow V t v k = 0 ∨ V 1 (vRow V t v k - 1) < V 1 k) then k + 1 else vRow V t v k
def vThere (V : VV) (t v : Nat) : Prop := 0 < vRow V t v (V 3 0) ∧ 0 < V 2 (vRow V t v (V 3 0) - 1)
def vAb (V : VV) (t v : Nat) : Nat → Bool
  | 0 => false
  | k + 1 => vAb V t v k || (decide (V 0 k = t) && decide (v < V 1 k))
def vLT (V : VV) : Nat → Nat
  | 0 => V 4 0
  | k + 1 => if V 8 k < 3 ∧ V 7 k < vLT V k then V 7 k else vLT V k
def vLP (V : VV) : Nat → Nat
  | 0 => vLT V (V 16 0)
  | k + 1 => if 0 < V 5 k ∧ k < vLP V k then k else vLP V k
def vLK (V : VV) : Nat := vLP V 64
/-- one ends: it holds nothing -/
def vClr (V : VV) (t n : Nat) : VV := fun k i => if k = 17 ∧ i < n ∧ V 17 i = t + 1 then 0 else V k i
/-- the next that waits for t, from since lp on, and one; 0 where there is none -/
def vNx (V : VV) (t lp : Nat) : Nat → Nat
  | 0 => 0
  | k + 1 => if V 8 k = 1 ∧ V 11 k = t + 1 ∧ lp ≤ V 14 k ∧ (vNx V t lp k = 0 ∨ V 14 k < V 14 (vNx V t lp k - 1)) then k + 1 else vNx V t lp k
def vPush (V : VV) (w : Nat) : VV := u2 (u2 V 18 (V 20 0) w) 20 0 (V 20 0 + 1)
def vEnq : Nat → VV → Nat → Nat → VV
  | 0, V, _, _ => V
  | f + 1, V, t, lp => if vNx V t lp (V 16 0) = 0 then V else vEnq f (vPush V (vNx V t lp (V 16 0) - 1)) t (V 14 (vNx V t lp (V 16 0) - 1) + 1)
def vEnd (V : VV) (t s : Nat) : VV := vEnq 61 (vClr (u2 V 8 t s) t 200) t 0
/-- the way back to t from a, n steps gone: how many in all; 0 where it isn't come to -/
def vLk (V : VV) (t : Nat) : Nat → Nat → Nat → Nat
  | 0, _, _ => 0
  | f + 1, a, n => if V 8 a = 1 then (if V 11 a - 1 = t then n + 1 else vLk V t f (V 11 a - 1) (n + 1)) else 0
def vIns (x : Nat) : Nat → VV → VV
  | 0, V => u2 V 21 0 x
  | k + 1, V => if x < V 21 k then vIns x k (u2 V 21 (k + 1) (V 21 k)) else u2 V 21 (k + 1) x
def vTk : Nat → VV → Nat → VV
  | 0, V, _ => V
  | k + 1, V, a => vTk k (u2 (vIns a (V 22 0) V) 22 0 (V 22 0 + 1)) (V 11 a - 1)
def vTake (V : VV) (t n : Nat) : VV := vEnd (vTk n (u2 V 22 0 0) t) (vTk n (u2 V 22 0 0) t 21 (n - 1)) 4
def vRing (V : VV) (t : Nat) : VV := if vLk V t 60 t 0 = 0 then V else vTake V t (vLk V t 60 t 0)
def vWt (V : VV) (t k b : Nat) : VV := u2 (u2 (u2 (u2 (u2 (u2 V 8 t 1) 11 t (V 17 k)) 12 t k) 13 t b) 14 t (V 15 0)) 15 0 (V 15 0 + 1)
def vWr (V : VV) (t k b : Nat) : VV :=
  if vAb V k (V 7 t) (V 3 0) = true then u2 (u2 (u2 (u2 V 11 t 0) 8 t 0) 8 t 2) 23 k (V 23 k + 1)
  else if 0 < V 17 k ∧ V 17 k ≠ t + 1 then vRing (vWt (u2 (u2 V 11 t 0) 8 t 0) t k b) t
  else u2 (u2 (u2 (u2 V 11 t 0) 8 t 0) 17 k (t + 1)) 10 (200 * t + k) (b + 1)
def vGo1 (V : VV) : VV := if V 8 (V 18 (V 19 0)) = 1 then vWr (u2 V 19 0 (V 19 0 + 1)) (V 18 (V 19 0)) (V 12 (V 18 (V 19 0))) (V 13 (V 18 (V 19 0))) else u2 V 19 0 (V 19 0 + 1)
def vGo : Nat → VV → VV
  | 0, V => V
  | f + 1, V => if V 19 0 < V 20 0 then vGo f (vGo1 V) else u2 (u2 V 19 0 0) 20 0 0
def vGoA (V : VV) : VV := vGo 3601 V
def vWc (V : VV) (t : Nat) : Nat → Nat
  | 0 => 0
  | k + 1 => vWc V t k + (if 0 < V 10 (200 * t + k) then 1 else 0)
def vAny (V : VV) (lo v : Nat) : Nat → Bool
  | 0 => false
  | k + 1 => vAny V lo v k || vAb V (lo + k) v (V 3 0)
def vBit (x g : Nat) : Nat := x / 2 ^ g % 2
/-- the least noted graph from g on that has changed, and one; 0 where there is none -/
def vCh (V : VV) (t : Nat) : Nat → Nat → Nat
  | 0, _ => 0
  | f + 1, g => if vBit (V 9 t) g = 1 ∧ vAny V (50 * g) (V 7 t) 50 = true then g + 1 else vCh V t f (g + 1)
/-- the rows that a commit makes, triples from k on -/
def vAdd1 (V : VV) (k nx b : Nat) : VV := u2 (u2 (u2 (u2 V 0 (V 3 0) k) 1 (V 3 0) nx) 2 (V 3 0) b) 3 0 (V 3 0 + 1)
def vChg (V : VV) (t k : Nat) : Prop := 0 < V 10 (200 * t + k) ∧ ¬ (V 10 (200 * t + k) = 2 ↔ vThere V k (V 7 t))
/-- where a place of a row lies behind the rows that go -/
def vGoes (V : VV) (k : Nat) : Prop := V 1 k + 1 < V 26 (V 0 k) ∨ (V 1 k + 1 = V 26 (V 0 k) ∧ V 2 k = 0)
def MC (l : Launch) (y : MethodName) (wy : List Cond) (rm : Room) (D : va_G) (g : Nat → ClassId) (A : Nat → Prop) (xm : Nat → Nat) (av : List Value) (V : VV) (Qm : Option Value → VV → Prop) : Prop :=
  Met l y wy rm (kPre D (tyG g) A av (mW g xm V)) (kPost D (tyG g) A (fun r w => ∃ V', w = mW g xm V' ∧ Qm r V')) 0 0 A
theorem g_callM {p : Program} {l : Launch} {e : Env} {R : Room} {s : State} {m : MethodId} {args : Array Value} {below : List Frame} {meth : Method} {c : Code} {Q : State → Prop} {cc : ByteArray} {nL : Nat} {Ts : List Cond} {own : String} {D : va_G} {A : Nat → Prop} {H0 : Heap} {ret : Option FieldType} {cells slots pc : Nat} {lv : List (Nat × Value)} {st : List Value} {g : Nat → ClassId} {xm : Nat → Nat} {V : VV}
    (C : CX p s m args meth c cc nL Ts own D (tyG g) A H0 ret) {y : MethodName} {wy wy' : List Cond} {rm : Room} {maxL index n : Nat} {bytes : ByteArray} {rt : Option FieldType} {As rest : List Value} {Qm : Option Value → VV → Prop}
    (hM : MC l y wy rm D g A xm (Value.ref (xm 0) :: As) V Qm) (hG : GoodIn Ts (wsV own index RX3 y wy)) (hd : decode cc pc = .ok (.invokevirtual index, 3)) (hw : wy = Cond.code y bytes maxL rt :: wy') (hrc : rm.cells = 0) (hrs : rm.slots = 0)
    (hdy : y.cls = RX3 ∧ y.cls ≠ "java/lang/invoke/MethodHandle" ∧ y.cls ≠ "java/lang/invoke/VarHandle" ∧ (parseMethodDescriptor y.desc).map (fun d => d.parameters.length) = some n) (hR : rm.frames + 1 ≤ R.frames ∧ 8 + (maxL + 11) + rm.locals ≤ R.locals)
    (hn : As.length = n) (hst : st = As.reverse ++ .ref (xm 0) :: rest) (hcat : (rest.map fun v => v.category).sum ≤ 8) (hf : cells ≤ R.cells ∧ slots ≤ R.slots)
    (kk : ∀ (r : Option Value) (V' : VV), Qm r V' → GG p l e R s m args below meth c Q nL D A H0 (mW g xm V') cells slots (pc + 3) lv (r.toList ++ rest)) : GG p l e R s m args below meth c Q nL D A H0 (mW g xm V) cells slots pc lv st :=
  g_callV C (Cl := RX3) (ci := 3) hM hG hw hrc hrs hdy hR (List.mem_of_getElem? (i := 0) rfl) rfl rfl hn hst hcat hd hf (fun r w hq => by
    obtain ⟨V', rfl, hq⟩ := hq
    exact kk r V' hq)
end
section
set_option maxRecDepth 100000 in
set_option maxHeartbeats 4000000 in
theorem k_X3_thrown (l : Launch) (D : va_G) (g : Nat → ClassId) (A : Nat → Prop) (xm : Nat → Nat) (V : VV)  : MC l yX3_thrown wsX3_thrown ({ frames := 0, cells := 0, slots := 0, locals := 0 } : Room) D g A xm [.ref (xm 0)] V (fun r V1 => V1 = V ∧ r = some (.int (nI (V 25 0)))) := by
  refine k_ofW [(0, .ref (xm 0))] (by decide) rfl (Nat.le_of_ble_eq_true rfl) rfl (by simp [Value.category]) ?_
  intro p e s m args below meth c C
  have i3 : ∀ w ∈ wsX30, w ∈ wsX3_thrown := by decide +kernel
  first | refine g_aload_n C dX3_thrown_0 rfl ?_ | refine g_aload_nq C _ dX3_thrown_0 rfl ?_
  refine mg_thrown C i3 (by decide +kernel) dX3_thrown_1 ?_
  exact g_iret C dX3_thrown_4 rfl (⟨V, rfl, rfl, rfl⟩)
set_option maxRecDepth 100000 in
set_option maxHeartbeats 4000000 in
theorem k_X3_isTransaction (l : Launch) (D : va_G) (g : Nat → ClassId) (A : Nat → Prop) (xm : Nat → Nat) (V : VV) {N : Nat} (hB : BdN V N) (hN : N ≤ 2 ^ 30) (x : Int32) : MC l yX3_isTransaction wsX3_isTransaction ({ frames := 0, cells := 0, slots := 0, locals := 0 } : Room) D g A xm [.ref (xm 0), .int x] V (fun r V1 => V1 = V ∧ ((∃ j : Nat, j < V 16 0 ∧ x = nI j ∧ r = some (.int (nI 1))) ∨ ((∀ j : Nat, j < V 16 0 → x ≠ nI j) ∧ r = some (.int (nI 0))))) := by
  refine k_ofW [(0, .ref (xm 0)), (1, .int x)] (by decide) rfl (Nat.le_of_ble_eq_true rfl) rfl (by simp [Value.category]) ?_
  intro p e s m args below meth c C
  have i3 : ∀ w ∈ wsX30, w ∈ wsX3_isTransaction := by decide +kernel
  refine g_iload_n C dX3_isTransaction_0 rfl ?_
  refine g_ifx_lt C 16 dX3_isTransaction_1 (by decide) (fun c1 => ?_) (fun c1 => ?_)
  · refine g_iconst C 0 dX3_isTransaction_16 (by decide) ?_
    exact g_zret C dX3_isTransaction_17 rfl (by first | exact nar_boolV (by omega) | decide +kernel) (⟨V, rfl, rfl, Or.inr ⟨fun j hj e => nI_pos (Nat.lt_trans hj (bd hB hN 16 0)) (e ▸ c1), rfl⟩⟩)
  · obtain ⟨j, hj, rfl⟩ := nI_of c1
    refine g_iload_n C dX3_isTransaction_4 rfl ?_
    first | refine g_aload_n C dX3_isTransaction_5 rfl ?_ | refine g_aload_nq C _ dX3_isTransaction_5 rfl ?_
    refine mg_count C i3 (by decide +kernel) dX3_isTransaction_6 ?_
    refine g_icmp_ge C 16 dX3_isTransaction_9 (by decide) (by omega) (bd hB hN _ _) (fun c9 => ?_) (fun c9 => ?_)
    · refine g_iconst C 0 dX3_isTransaction_16 (by decide) ?_
      exact g_zret C dX3_isTransaction_17 rfl (by first | exact nar_boolV (by omega) | decide +kernel) (⟨V, rfl, rfl, Or.inr ⟨fun i hi e => absurd ((nI_eq hj (Nat.lt_trans hi (bd hB hN 16 0))).mp e) (by omega), rfl⟩⟩)
    · refine g_iconst C 1 dX3_isTransaction_12 (by decide) ?_
      refine g_goto C 17 dX3_isTransaction_13 (by decide) ?_
      exact g_zret C dX3_isTransaction_17 rfl (by first | exact nar_boolV (by omega) | decide +kernel) (⟨V, rfl, rfl, Or.inl ⟨j, c9, rfl, rfl⟩⟩)

set_option maxRecDepth 100000 in
set_option maxHeartbeats 4000000 in
theorem k_X3_isLive (l : Launch) (D : va_G) (g : Nat → ClassId) (A : Nat → Prop) (xm : Nat → Nat) (V : VV) {N : Nat} (hB : BdN V N) (hN : N ≤ 2 ^ 30) (i : Nat) (hi : i < 60) : MC l yX3_isLive wsX3_isLive ({ frames := 0, cells := 0, slots := 0, locals := 0 } : Room) D g A xm [.ref (xm 0), .int (nI i)] V (fun r V1 => V1 = V ∧ ((V 8 i < 3 ∧ r = some (.int (nI 1))) ∨ (3 ≤ V 8 i ∧ r = some (.int (nI 0))))) := by
  refine k_ofW [(0, .ref (xm 0)), (1, .int (nI i))] (by decide) rfl (Nat.le_of_ble_eq_true rfl) rfl (by simp [Value.category]) ?_
  intro p e s m args below meth c C
  have i3 : ∀ w ∈ wsX30, w ∈ wsX3_isLive := by decide +kernel
  first | refine g_aload_n C dX3_isLive_0 rfl ?_ | refine g_aload_nq C _ dX3_isLive_0 rfl ?_
  refine mg_states C i3 (by decide +kernel) dX3_isLive_1 ?_
  refine g_iload_n C dX3_isLive_4 rfl ?_
  refine ml_states C dX3_isLive_5 (by omega) ?_
  refine g_iconst C 3 dX3_isLive_6 (by decide) ?_
  refine g_icmp_ge C 14 dX3_isLive_7 (by decide) (by first | exact bd hB hN _ _ | omega) (by first | exact bd hB hN _ _ | omega) (fun c7 => ?_) (fun c7 => ?_)
  · refine g_iconst C 0 dX3_isLive_14 (by decide) ?_
    exact g_zret C dX3_isLive_15 rfl (by first | exact nar_boolV (by omega) | decide +kernel) (⟨V, rfl, rfl, by first | exact Or.inl ⟨c7, rfl⟩ | exact Or.inr ⟨c7, rfl⟩⟩)
  · refine g_iconst C 1 dX3_isLive_10 (by decide) ?_
    refine g_goto C 15 dX3_isLive_11 (by decide) ?_
    exact g_zret C dX3_isLive_15 rfl (by first | exact nar_boolV (by omega) | decide +kernel) (⟨V, rfl, rfl, by first | exact Or.inl ⟨c7, rfl⟩ | exact Or.inr ⟨c7, rfl⟩⟩)
set_option maxRecDepth 100000 in
set_option maxHeartbeats 4000000 in
theorem k_X3_fails (l : Launch) (D : va_G) (g : Nat → ClassId) (A : Nat → Prop) (xm : Nat → Nat) (V : VV) (a b : Nat) (ha : a ≤ 1) (hb : b ≤ 1) : MC l yX3_fails wsX3_fails ({ frames := 0, cells := 0, slots := 0, locals := 0 } : Room) D g A xm [.ref (xm 0), .int (nI a), .int (nI b)] V (fun r V1 => (0 < a ∧ 0 < b ∧ V1 = u2 V 25 0 0 ∧ r = some (.int (nI 0))) ∨ (0 < a ∧ b = 0 ∧ V1 = u2 V 25 0 2 ∧ r = some (.int (nI 1))) ∨ (a = 0 ∧ V1 = u2 V 25 0 1 ∧ r = some (.int (nI 1)))) := by
  refine k_ofW [(0, .ref (xm 0)), (1, .int (nI a)), (2, .int (nI b))] (by decide) rfl (Nat.le_of_ble_eq_true rfl) rfl (by simp [Value.category]) ?_
  intro p e s m args below meth c C
  have i3 : ∀ w ∈ wsX30, w ∈ wsX3_fails := by decide +kernel
  first | refine g_aload_n C dX3_fails_0 rfl ?_ | refine g_aload_nq C _ dX3_fails_0 rfl ?_
  refine g_iload_n C dX3_fails_1 rfl ?_
  refine g_if_ne C 9 dX3_fails_2 (by decide) (by omega) (fun c2 => ?_) (fun c2 => ?_)
  · refine g_iload_n C dX3_fails_9 rfl ?_
    refine g_if_ne C 17 dX3_fails_10 (by decide) (by omega) (fun c10 => ?_) (fun c10 => ?_)
    · refine g_iconst C 0 dX3_fails_17 (by decide) ?_
      refine mp_thrown C i3 (by decide +kernel) dX3_fails_18 ?_
      first | refine g_aload_n C dX3_fails_21 rfl ?_ | refine g_aload_nq C _ dX3_fails_21 rfl ?_
      refine mg_thrown C i3 (by decide +kernel) dX3_fails_22 ?_
      refine g_if_eq C 32 dX3_fails_25 (by decide) (by rw [u2_same]; decide) (fun c25 => ?_) (fun c25 => ?_)
      · rw [u2_same] at c25
        refine g_iconst C 0 dX3_fails_32 (by decide) ?_
        exact g_zret C dX3_fails_33 rfl (by first | exact nar_boolV (by omega) | decide +kernel) (⟨_, rfl, by first | exact absurd c25 (by decide) | exact Or.inl ⟨c2, c10, rfl, rfl⟩ | exact Or.inr (Or.inl ⟨c2, c10, rfl, rfl⟩) | exact Or.inr (Or.inr ⟨c2, rfl, rfl⟩)⟩)
      · rw [u2_same] at c25
        refine g_iconst C 1 dX3_fails_28 (by decide) ?_
        refine g_goto C 33 dX3_fails_29 (by decide) ?_
        exact g_zret C dX3_fails_33 rfl (by first | exact nar_boolV (by omega) | decide +kernel) (⟨_, rfl, by first | exact absurd c25 (by decide) | exact Or.inl ⟨c2, c10, rfl, rfl⟩ | exact Or.inr (Or.inl ⟨c2, c10, rfl, rfl⟩) | exact Or.inr (Or.inr ⟨c2, rfl, rfl⟩)⟩)
    · refine g_iconst C 2 dX3_fails_13 (by decide) ?_
      refine g_goto C 18 dX3_fails_14 (by decide) ?_
      refine mp_thrown C i3 (by decide +kernel) dX3_fails_18 ?_
      first | refine g_aload_n C dX3_fails_21 rfl ?_ | refine g_aload_nq C _ dX3_fails_21 rfl ?_
      refine mg_thrown C i3 (by decide +kernel) dX3_fails_22 ?_
      refine g_if_eq C 32 dX3_fails_25 (by decide) (by rw [u2_same]; decide) (fun c25 => ?_) (fun c25 => ?_)
      · rw [u2_same] at c25
        refine g_iconst C 0 dX3_fails_32 (by decide) ?_
        exact g_zret C dX3_fails_33 rfl (by first | exact nar_boolV (by omega) | decide +kernel) (⟨_, rfl, by first | exact absurd c25 (by decide) | exact Or.inl ⟨c2, c10, rfl, rfl⟩ | exact Or.inr (Or.inl ⟨c2, c10, rfl, rfl⟩) | exact Or.inr (Or.inr ⟨c2, rfl, rfl⟩)⟩)
      · rw [u2_same] at c25
        refine g_iconst C 1 dX3_fails_28 (by decide) ?_
        refine g_goto C 33 dX3_fails_29 (by decide) ?_
        exact g_zret C dX3_fails_33 rfl (by first | exact nar_boolV (by omega) | decide +kernel) (⟨_, rfl, by first | exact absurd c25 (by decide) | exact Or.inl ⟨c2, c10, rfl, rfl⟩ | exact Or.inr (Or.inl ⟨c2, c10, rfl, rfl⟩) | exact Or.inr (Or.inr ⟨c2, rfl, rfl⟩)⟩)
  · refine g_iconst C 1 dX3_fails_5 (by decide) ?_
    refine g_goto C 18 dX3_fails_6 (by decide) ?_
    refine mp_thrown C i3 (by decide +kernel) dX3_fails_18 ?_
    first | refine g_aload_n C dX3_fails_21 rfl ?_ | refine g_aload_nq C _ dX3_fails_21 rfl ?_
    refine mg_thrown C i3 (by decide +kernel) dX3_fails_22 ?_
    refine g_if_eq C 32 dX3_fails_25 (by decide) (by rw [u2_same]; decide) (fun c25 => ?_) (fun c25 => ?_)
    · rw [u2_same] at c25
      refine g_iconst C 0 dX3_fails_32 (by decide) ?_
      exact g_zret C dX3_fails_33 rfl (by first | exact nar_boolV (by omega) | decide +kernel) (⟨_, rfl, by first | exact absurd c25 (by decide) | exact Or.inl ⟨c2, c10, rfl, rfl⟩ | exact Or.inr (Or.inl ⟨c2, c10, rfl, rfl⟩) | exact Or.inr (Or.inr ⟨c2, rfl, rfl⟩)⟩)
    · rw [u2_same] at c25
      refine g_iconst C 1 dX3_fails_28 (by decide) ?_
      refine g_goto C 33 dX3_fails_29 (by decide) ?_
      exact g_zret C dX3_fails_33 rfl (by first | exact nar_boolV (by omega) | decide +kernel) (⟨_, rfl, by first | exact absurd c25 (by decide) | exact Or.inl ⟨c2, c10, rfl, rfl⟩ | exact Or.inr (Or.inl ⟨c2, c10, rfl, rfl⟩) | exact Or.inr (Or.inr ⟨c2, rfl, rfl⟩)⟩)
set_option maxRecDepth 100000 in
set_option maxHeartbeats 4000000 in
theorem k_X3_canWrite (l : Launch) (D : va_G) (g : Nat → ClassId) (A : Nat → Prop) (xm : Nat → Nat) (V : VV) {N : Nat} (hB : BdN V N) (hN : N ≤ 2 ^ 30) (i : Nat) (hi : i < 60) : MC l yX3_canWrite wsX3_canWrite ({ frames := 0, cells := 0, slots := 0, locals := 0 } : Room) D g A xm [.ref (xm 0), .int (nI i)] V (fun r V1 => V1 = V ∧ ((V 8 i = 0 ∧ 0 < V 6 i ∧ r = some (.int (nI 1))) ∨ (¬ (V 8 i = 0 ∧ 0 < V 6 i) ∧ r = some (.int (nI 0))))) := by
  refine k_ofW [(0, .ref (xm 0)), (1, .int (nI i))] (by decide) rfl (Nat.le_of_ble_eq_true rfl) rfl (by simp [Value.category]) ?_
  intro p e s m args below meth c C
  have i3 : ∀ w ∈ wsX30, w ∈ wsX3_canWrite := by decide +kernel
  first | refine g_aload_n C dX3_canWrite_0 rfl ?_ | refine g_aload_nq C _ dX3_canWrite_0 rfl ?_
  refine mg_states C i3 (by decide +kernel) dX3_canWrite_1 ?_
  refine g_iload_n C dX3_canWrite_4 rfl ?_
  refine ml_states C dX3_canWrite_5 (by omega) ?_
  refine g_if_ne C 22 dX3_canWrite_6 (by decide) (by first | exact bd hB hN _ _ | omega) (fun c6 => ?_) (fun c6 => ?_)
  · refine g_iconst C 0 dX3_canWrite_22 (by decide) ?_
    exact g_zret C dX3_canWrite_23 rfl (by first | exact nar_boolV (by omega) | decide +kernel) (⟨V, rfl, rfl, by first | exact Or.inl ⟨c6, c15, rfl⟩ | exact Or.inr ⟨fun q => by have c6 : 0 < V 8 i := c6; omega, rfl⟩ | exact Or.inr ⟨fun q => by have c15 : V 6 i = 0 := c15; omega, rfl⟩⟩)
  · first | refine g_aload_n C dX3_canWrite_9 rfl ?_ | refine g_aload_nq C _ dX3_canWrite_9 rfl ?_
    refine mg_writers C i3 (by decide +kernel) dX3_canWrite_10 ?_
    refine g_iload_n C dX3_canWrite_13 rfl ?_
    refine ml_writers C dX3_canWrite_14 (by omega) ?_
    refine g_if_eq C 22 dX3_canWrite_15 (by decide) (by first | exact bd hB hN _ _ | omega) (fun c15 => ?_) (fun c15 => ?_)
    · refine g_iconst C 0 dX3_canWrite_22 (by decide) ?_
      exact g_zret C dX3_canWrite_23 rfl (by first | exact nar_boolV (by omega) | decide +kernel) (⟨V, rfl, rfl, by first | exact Or.inl ⟨c6, c15, rfl⟩ | exact Or.inr ⟨fun q => by have c6 : 0 < V 8 i := c6; omega, rfl⟩ | exact Or.inr ⟨fun q => by have c15 : V 6 i = 0 := c15; omega, rfl⟩⟩)
    · refine g_iconst C 1 dX3_canWrite_18 (by decide) ?_
      refine g_goto C 23 dX3_canWrite_19 (by decide) ?_
      exact g_zret C dX3_canWrite_23 rfl (by first | exact nar_boolV (by omega) | decide +kernel) (⟨V, rfl, rfl, by first | exact Or.inl ⟨c6, c15, rfl⟩ | exact Or.inr ⟨fun q => by have c6 : 0 < V 8 i := c6; omega, rfl⟩ | exact Or.inr ⟨fun q => by have c15 : V 6 i = 0 := c15; omega, rfl⟩⟩)
set_option maxRecDepth 100000 in
set_option maxHeartbeats 4000000 in
theorem k_X3_isTriple (l : Launch) (D : va_G) (g : Nat → ClassId) (A : Nat → Prop) (xm : Nat → Nat) (V : VV) (x : Int32) : MC l yX3_isTriple wsX3_isTriple ({ frames := 0, cells := 0, slots := 0, locals := 0 } : Room) D g A xm [.int x] V (fun r V1 => V1 = V ∧ ((∃ j : Nat, j < 200 ∧ x = nI j ∧ r = some (.int (nI 1))) ∨ ((∀ j : Nat, j < 200 → x ≠ nI j) ∧ r = some (.int (nI 0))))) := by
  refine k_ofW [(0, .int x)] (by decide) rfl (Nat.le_of_ble_eq_true rfl) rfl (by simp [Value.category]) ?_
  intro p e s m args below meth c C
  refine g_iload_n C dX3_isTriple_0 rfl ?_
  refine g_ifx_lt C 15 dX3_isTriple_1 (by decide) (fun c1 => ?_) (fun c1 => ?_)
  · refine g_iconst C 0 dX3_isTriple_15 (by decide) ?_
    exact g_zret C dX3_isTriple_16 rfl (by first | exact nar_boolV (by omega) | decide +kernel) (⟨V, rfl, rfl, Or.inr ⟨fun j hj e => nI_pos (Nat.lt_trans hj (by decide)) (e ▸ c1), rfl⟩⟩)
  · obtain ⟨j, hj, rfl⟩ := nI_of c1
    refine g_iload_n C dX3_isTriple_4 rfl ?_
    refine g_sipush C 200 dX3_isTriple_5 (by decide) ?_
    refine g_icmp_ge C 15 dX3_isTriple_8 (by decide) (by omega) (by decide) (fun c8 => ?_) (fun c8 => ?_)
    · refine g_iconst C 0 dX3_isTriple_15 (by decide) ?_
      exact g_zret C dX3_isTriple_16 rfl (by first | exact nar_boolV (by omega) | decide +kernel) (⟨V, rfl, rfl, Or.inr ⟨fun i hi e => absurd ((nI_eq hj (Nat.lt_trans hi (by decide))).mp e) (by omega), rfl⟩⟩)
    · refine g_iconst C 1 dX3_isTriple_11 (by decide) ?_
      refine g_goto C 16 dX3_isTriple_12 (by decide) ?_
      exact g_zret C dX3_isTriple_16 rfl (by first | exact nar_boolV (by omega) | decide +kernel) (⟨V, rfl, rfl, Or.inl ⟨j, c8, rfl, rfl⟩⟩)
end
