section
-- ===== PART A: goes FIRST, ahead of the names: the tables' words, and 'selects' of the private methods out of them =====
/-- a private method of a class that the tables say can be made, by its rows of tables_1 -/
def lw_okq (q : MethodName × Nat) : Prop := (q.1.cls ≠ "java/lang/invoke/MethodHandle" ∧ q.1.cls ≠ "java/lang/invoke/VarHandle") ∧ Cond.instantiable q.1.cls q.2 ∈ tables_1 ∧ Cond.privateMethod q.1 ∈ tables_1 ∧ Cond.instanceMethod q.1 ∈ tables_1
theorem lw_p0 : lw_okq (⟨"PocketKeeper$Row", "clear", "()V"⟩, 6) := ⟨⟨by decide +kernel, by decide +kernel⟩, List.mem_of_getElem? (i := 51) (by decide +kernel), List.mem_of_getElem? (i := 239) (by decide +kernel), List.mem_of_getElem? (i := 240) (by decide +kernel)⟩
theorem lw_p1 : lw_okq (⟨"PocketKeeper", "forgetKeepings", "()V"⟩, 9) := ⟨⟨by decide +kernel, by decide +kernel⟩, List.mem_of_getElem? (i := 16) (by decide +kernel), List.mem_of_getElem? (i := 248) (by decide +kernel), List.mem_of_getElem? (i := 249) (by decide +kernel)⟩
theorem lw_p2 : lw_okq (⟨"PocketKeeper", "changeOrder", "(II)V"⟩, 9) := ⟨⟨by decide +kernel, by decide +kernel⟩, List.mem_of_getElem? (i := 16) (by decide +kernel), List.mem_of_getElem? (i := 310) (by decide +kernel), List.mem_of_getElem? (i := 311) (by decide +kernel)⟩
theorem lw_p3 : lw_okq (⟨"PocketKeeper", "refusalOfKeeping", "(II)I"⟩, 9) := ⟨⟨by decide +kernel, by decide +kernel⟩, List.mem_of_getElem? (i := 16) (by decide +kernel), List.mem_of_getElem? (i := 356) (by decide +kernel), List.mem_of_getElem? (i := 357) (by decide +kernel)⟩
theorem lw_p4 : lw_okq (⟨"PocketKeeper", "isTooBig", "()Z"⟩, 9) := ⟨⟨by decide +kernel, by decide +kernel⟩, List.mem_of_getElem? (i := 16) (by decide +kernel), List.mem_of_getElem? (i := 360) (by decide +kernel), List.mem_of_getElem? (i := 361) (by decide +kernel)⟩
theorem lw_p5 : lw_okq (⟨"PocketKeeper", "standKeepings", "()V"⟩, 9) := ⟨⟨by decide +kernel, by decide +kernel⟩, List.mem_of_getElem? (i := 16) (by decide +kernel), List.mem_of_getElem? (i := 378) (by decide +kernel), List.mem_of_getElem? (i := 379) (by decide +kernel)⟩
theorem lw_p6 : lw_okq (⟨"PocketKeeper$SoonestKeeping", "firstToGo", "(II)I"⟩, 5) := ⟨⟨by decide +kernel, by decide +kernel⟩, List.mem_of_getElem? (i := 96) (by decide +kernel), List.mem_of_getElem? (i := 415) (by decide +kernel), List.mem_of_getElem? (i := 416) (by decide +kernel)⟩
theorem lw_p7 : lw_okq (⟨"PocketKeeper$SoonestKeeping", "rank", "(II)I"⟩, 5) := ⟨⟨by decide +kernel, by decide +kernel⟩, List.mem_of_getElem? (i := 96) (by decide +kernel), List.mem_of_getElem? (i := 420) (by decide +kernel), List.mem_of_getElem? (i := 421) (by decide +kernel)⟩
theorem lw_p8 : lw_okq (⟨"PocketKeeper$LeastSearch", "findWorthKeeping", "()V"⟩, 4) := ⟨⟨by decide +kernel, by decide +kernel⟩, List.mem_of_getElem? (i := 77) (by decide +kernel), List.mem_of_getElem? (i := 431) (by decide +kernel), List.mem_of_getElem? (i := 432) (by decide +kernel)⟩
theorem lw_p9 : lw_okq (⟨"PocketKeeper$LeastSearch", "fillPlace", "(I)V"⟩, 4) := ⟨⟨by decide +kernel, by decide +kernel⟩, List.mem_of_getElem? (i := 77) (by decide +kernel), List.mem_of_getElem? (i := 438) (by decide +kernel), List.mem_of_getElem? (i := 439) (by decide +kernel)⟩
theorem lw_p10 : lw_okq (⟨"PocketKeeper$LeastSearch", "costIfKept", "(II)I"⟩, 4) := ⟨⟨by decide +kernel, by decide +kernel⟩, List.mem_of_getElem? (i := 77) (by decide +kernel), List.mem_of_getElem? (i := 443) (by decide +kernel), List.mem_of_getElem? (i := 444) (by decide +kernel)⟩
theorem lw_p11 : lw_okq (⟨"PocketKeeper$LeastSearch", "costOfFewer", "(II)I"⟩, 4) := ⟨⟨by decide +kernel, by decide +kernel⟩, List.mem_of_getElem? (i := 77) (by decide +kernel), List.mem_of_getElem? (i := 448) (by decide +kernel), List.mem_of_getElem? (i := 449) (by decide +kernel)⟩
theorem lw_p12 : lw_okq (⟨"PocketKeeper", "numberOfKeeping", "(LPocketKeeper$Keeping;II)I"⟩, 9) := ⟨⟨by decide +kernel, by decide +kernel⟩, List.mem_of_getElem? (i := 16) (by decide +kernel), List.mem_of_getElem? (i := 457) (by decide +kernel), List.mem_of_getElem? (i := 458) (by decide +kernel)⟩
theorem lw_p13 : lw_okq (⟨"PocketKeeper", "canKeep", "()Z"⟩, 9) := ⟨⟨by decide +kernel, by decide +kernel⟩, List.mem_of_getElem? (i := 16) (by decide +kernel), List.mem_of_getElem? (i := 488) (by decide +kernel), List.mem_of_getElem? (i := 489) (by decide +kernel)⟩
theorem lw_p14 : lw_okq (⟨"PocketKeeper", "numberOfCost", "(I)I"⟩, 9) := ⟨⟨by decide +kernel, by decide +kernel⟩, List.mem_of_getElem? (i := 16) (by decide +kernel), List.mem_of_getElem? (i := 492) (by decide +kernel), List.mem_of_getElem? (i := 493) (by decide +kernel)⟩
theorem lw_p15 : lw_okq (⟨"PocketKeeper", "bitsOfMean", "()J"⟩, 9) := ⟨⟨by decide +kernel, by decide +kernel⟩, List.mem_of_getElem? (i := 16) (by decide +kernel), List.mem_of_getElem? (i := 519) (by decide +kernel), List.mem_of_getElem? (i := 520) (by decide +kernel)⟩
def lw_privs_1 : List (MethodName × Nat) := [(⟨"PocketKeeper$Row", "clear", "()V"⟩, 6), (⟨"PocketKeeper", "forgetKeepings", "()V"⟩, 9), (⟨"PocketKeeper", "changeOrder", "(II)V"⟩, 9), (⟨"PocketKeeper", "refusalOfKeeping", "(II)I"⟩, 9), (⟨"PocketKeeper", "isTooBig", "()Z"⟩, 9), (⟨"PocketKeeper", "standKeepings", "()V"⟩, 9), (⟨"PocketKeeper$SoonestKeeping", "firstToGo", "(II)I"⟩, 5), (⟨"PocketKeeper$SoonestKeeping", "rank", "(II)I"⟩, 5), (⟨"PocketKeeper$LeastSearch", "findWorthKeeping", "()V"⟩, 4), (⟨"PocketKeeper$LeastSearch", "fillPlace", "(I)V"⟩, 4), (⟨"PocketKeeper$LeastSearch", "costIfKept", "(II)I"⟩, 4), (⟨"PocketKeeper$LeastSearch", "costOfFewer", "(II)I"⟩, 4), (⟨"PocketKeeper", "numberOfKeeping", "(LPocketKeeper$Keeping;II)I"⟩, 9), (⟨"PocketKeeper", "canKeep", "()Z"⟩, 9), (⟨"PocketKeeper", "numberOfCost", "(I)I"⟩, 9), (⟨"PocketKeeper", "bitsOfMean", "()J"⟩, 9)]
theorem lw_r1 : ∀ q ∈ lw_privs_1, lw_okq q := List.forall_mem_cons.mpr ⟨lw_p0, List.forall_mem_cons.mpr ⟨lw_p1, List.forall_mem_cons.mpr ⟨lw_p2, List.forall_mem_cons.mpr ⟨lw_p3, List.forall_mem_cons.mpr ⟨lw_p4, List.forall_mem_cons.mpr ⟨lw_p5, List.forall_mem_cons.mpr ⟨lw_p6, List.forall_mem_cons.mpr ⟨lw_p7, List.forall_mem_cons.mpr ⟨lw_p8, List.forall_mem_cons.mpr ⟨lw_p9, List.forall_mem_cons.mpr ⟨lw_p10, List.forall_mem_cons.mpr ⟨lw_p11, List.forall_mem_cons.mpr ⟨lw_p12, List.forall_mem_cons.mpr ⟨lw_p13, List.forall_mem_cons.mpr ⟨lw_p14, List.forall_mem_cons.mpr ⟨lw_p15, fun _ h => absurd h List.not_mem_nil⟩⟩⟩⟩⟩⟩⟩⟩⟩⟩⟩⟩⟩⟩⟩⟩
theorem lw_p16 : lw_okq (⟨"PocketKeeper", "bitsOfRatio", "()I"⟩, 9) := ⟨⟨by decide +kernel, by decide +kernel⟩, List.mem_of_getElem? (i := 16) (by decide +kernel), List.mem_of_getElem? (i := 533) (by decide +kernel), List.mem_of_getElem? (i := 534) (by decide +kernel)⟩
theorem lw_p17 : lw_okq (⟨"PocketKeeper", "standExchange", "()V"⟩, 9) := ⟨⟨by decide +kernel, by decide +kernel⟩, List.mem_of_getElem? (i := 16) (by decide +kernel), List.mem_of_getElem? (i := 545) (by decide +kernel), List.mem_of_getElem? (i := 546) (by decide +kernel)⟩
theorem lw_p18 : lw_okq (⟨"PocketKeeper$Exchange", "note", "(III)V"⟩, 6) := ⟨⟨by decide +kernel, by decide +kernel⟩, List.mem_of_getElem? (i := 140) (by decide +kernel), List.mem_of_getElem? (i := 556) (by decide +kernel), List.mem_of_getElem? (i := 557) (by decide +kernel)⟩
theorem lw_p19 : lw_okq (⟨"PocketKeeper", "numberOfExchange", "(I)I"⟩, 9) := ⟨⟨by decide +kernel, by decide +kernel⟩, List.mem_of_getElem? (i := 16) (by decide +kernel), List.mem_of_getElem? (i := 560) (by decide +kernel), List.mem_of_getElem? (i := 561) (by decide +kernel)⟩
theorem lw_p20 : lw_okq (⟨"PocketKeeper", "digestOfRow", "(J)J"⟩, 9) := ⟨⟨by decide +kernel, by decide +kernel⟩, List.mem_of_getElem? (i := 16) (by decide +kernel), List.mem_of_getElem? (i := 602) (by decide +kernel), List.mem_of_getElem? (i := 603) (by decide +kernel)⟩
theorem lw_p21 : lw_okq (⟨"PocketKeeper", "digestOfKeepings", "(J)J"⟩, 9) := ⟨⟨by decide +kernel, by decide +kernel⟩, List.mem_of_getElem? (i := 16) (by decide +kernel), List.mem_of_getElem? (i := 609) (by decide +kernel), List.mem_of_getElem? (i := 610) (by decide +kernel)⟩
theorem lw_p22 : lw_okq (⟨"PocketKeeperModel", "goAlong", "()I"⟩, 23) := ⟨⟨by decide +kernel, by decide +kernel⟩, List.mem_of_getElem? (i := 615) (by decide +kernel), List.mem_of_getElem? (i := 706) (by decide +kernel), List.mem_of_getElem? (i := 707) (by decide +kernel)⟩
theorem lw_p23 : lw_okq (⟨"PocketKeeperModel", "takes", "(I)Z"⟩, 23) := ⟨⟨by decide +kernel, by decide +kernel⟩, List.mem_of_getElem? (i := 615) (by decide +kernel), List.mem_of_getElem? (i := 710) (by decide +kernel), List.mem_of_getElem? (i := 711) (by decide +kernel)⟩
theorem lw_p24 : lw_okq (⟨"PocketKeeperModel", "isPlace", "(I)Z"⟩, 23) := ⟨⟨by decide +kernel, by decide +kernel⟩, List.mem_of_getElem? (i := 615) (by decide +kernel), List.mem_of_getElem? (i := 733) (by decide +kernel), List.mem_of_getElem? (i := 734) (by decide +kernel)⟩
theorem lw_p25 : lw_okq (⟨"PocketKeeperModel", "change", "(II)V"⟩, 23) := ⟨⟨by decide +kernel, by decide +kernel⟩, List.mem_of_getElem? (i := 615) (by decide +kernel), List.mem_of_getElem? (i := 741) (by decide +kernel), List.mem_of_getElem? (i := 742) (by decide +kernel)⟩
theorem lw_p26 : lw_okq (⟨"PocketKeeperModel", "jobNow", "(II)I"⟩, 23) := ⟨⟨by decide +kernel, by decide +kernel⟩, List.mem_of_getElem? (i := 615) (by decide +kernel), List.mem_of_getElem? (i := 756) (by decide +kernel), List.mem_of_getElem? (i := 757) (by decide +kernel)⟩
theorem lw_p27 : lw_okq (⟨"PocketKeeperModel", "needs", "(I)I"⟩, 23) := ⟨⟨by decide +kernel, by decide +kernel⟩, List.mem_of_getElem? (i := 615) (by decide +kernel), List.mem_of_getElem? (i := 760) (by decide +kernel), List.mem_of_getElem? (i := 761) (by decide +kernel)⟩
theorem lw_p28 : lw_okq (⟨"PocketKeeperModel", "nextOf", "(II)I"⟩, 23) := ⟨⟨by decide +kernel, by decide +kernel⟩, List.mem_of_getElem? (i := 615) (by decide +kernel), List.mem_of_getElem? (i := 768) (by decide +kernel), List.mem_of_getElem? (i := 769) (by decide +kernel)⟩
theorem lw_p29 : lw_okq (⟨"PocketKeeperModel", "refused", "(II)I"⟩, 23) := ⟨⟨by decide +kernel, by decide +kernel⟩, List.mem_of_getElem? (i := 615) (by decide +kernel), List.mem_of_getElem? (i := 776) (by decide +kernel), List.mem_of_getElem? (i := 777) (by decide +kernel)⟩
theorem lw_p30 : lw_okq (⟨"PocketKeeperModel", "isTooBig", "()Z"⟩, 23) := ⟨⟨by decide +kernel, by decide +kernel⟩, List.mem_of_getElem? (i := 615) (by decide +kernel), List.mem_of_getElem? (i := 780) (by decide +kernel), List.mem_of_getElem? (i := 781) (by decide +kernel)⟩
theorem lw_p31 : lw_okq (⟨"PocketKeeperModel", "sizeOf", "(I)I"⟩, 23) := ⟨⟨by decide +kernel, by decide +kernel⟩, List.mem_of_getElem? (i := 615) (by decide +kernel), List.mem_of_getElem? (i := 784) (by decide +kernel), List.mem_of_getElem? (i := 785) (by decide +kernel)⟩
def lw_privs_2 : List (MethodName × Nat) := [(⟨"PocketKeeper", "bitsOfRatio", "()I"⟩, 9), (⟨"PocketKeeper", "standExchange", "()V"⟩, 9), (⟨"PocketKeeper$Exchange", "note", "(III)V"⟩, 6), (⟨"PocketKeeper", "numberOfExchange", "(I)I"⟩, 9), (⟨"PocketKeeper", "digestOfRow", "(J)J"⟩, 9), (⟨"PocketKeeper", "digestOfKeepings", "(J)J"⟩, 9), (⟨"PocketKeeperModel", "goAlong", "()I"⟩, 23), (⟨"PocketKeeperModel", "takes", "(I)Z"⟩, 23), (⟨"PocketKeeperModel", "isPlace", "(I)Z"⟩, 23), (⟨"PocketKeeperModel", "change", "(II)V"⟩, 23), (⟨"PocketKeeperModel", "jobNow", "(II)I"⟩, 23), (⟨"PocketKeeperModel", "needs", "(I)I"⟩, 23), (⟨"PocketKeeperModel", "nextOf", "(II)I"⟩, 23), (⟨"PocketKeeperModel", "refused", "(II)I"⟩, 23), (⟨"PocketKeeperModel", "isTooBig", "()Z"⟩, 23), (⟨"PocketKeeperModel", "sizeOf", "(I)I"⟩, 23)]
theorem lw_r2 : ∀ q ∈ lw_privs_2, lw_okq q := List.forall_mem_cons.mpr ⟨lw_p16, List.forall_mem_cons.mpr ⟨lw_p17, List.forall_mem_cons.mpr ⟨lw_p18, List.forall_mem_cons.mpr ⟨lw_p19, List.forall_mem_cons.mpr ⟨lw_p20, List.forall_mem_cons.mpr ⟨lw_p21, List.forall_mem_cons.mpr ⟨lw_p22, List.forall_mem_cons.mpr ⟨lw_p23, List.forall_mem_cons.mpr ⟨lw_p24, List.forall_mem_cons.mpr ⟨lw_p25, List.forall_mem_cons.mpr ⟨lw_p26, List.forall_mem_cons.mpr ⟨lw_p27, List.forall_mem_cons.mpr ⟨lw_p28, List.forall_mem_cons.mpr ⟨lw_p29, List.forall_mem_cons.mpr ⟨lw_p30, List.forall_mem_cons.mpr ⟨lw_p31, fun _ h => absurd h List.not_mem_nil⟩⟩⟩⟩⟩⟩⟩⟩⟩⟩⟩⟩⟩⟩⟩⟩
theorem lw_p32 : lw_okq (⟨"PocketKeeperModel", "keptNow", "(II)I"⟩, 23) := ⟨⟨by decide +kernel, by decide +kernel⟩, List.mem_of_getElem? (i := 615) (by decide +kernel), List.mem_of_getElem? (i := 791) (by decide +kernel), List.mem_of_getElem? (i := 792) (by decide +kernel)⟩
theorem lw_p33 : lw_okq (⟨"PocketKeeperModel", "layAll", "()V"⟩, 23) := ⟨⟨by decide +kernel, by decide +kernel⟩, List.mem_of_getElem? (i := 615) (by decide +kernel), List.mem_of_getElem? (i := 795) (by decide +kernel), List.mem_of_getElem? (i := 796) (by decide +kernel)⟩
theorem lw_p34 : lw_okq (⟨"PocketKeeperModel", "laySoonest", "()V"⟩, 23) := ⟨⟨by decide +kernel, by decide +kernel⟩, List.mem_of_getElem? (i := 615) (by decide +kernel), List.mem_of_getElem? (i := 799) (by decide +kernel), List.mem_of_getElem? (i := 800) (by decide +kernel)⟩
theorem lw_p35 : lw_okq (⟨"PocketKeeperModel", "goesFirst", "(II)I"⟩, 23) := ⟨⟨by decide +kernel, by decide +kernel⟩, List.mem_of_getElem? (i := 615) (by decide +kernel), List.mem_of_getElem? (i := 803) (by decide +kernel), List.mem_of_getElem? (i := 804) (by decide +kernel)⟩
theorem lw_p36 : lw_okq (⟨"PocketKeeperModel", "late", "(II)I"⟩, 23) := ⟨⟨by decide +kernel, by decide +kernel⟩, List.mem_of_getElem? (i := 615) (by decide +kernel), List.mem_of_getElem? (i := 807) (by decide +kernel), List.mem_of_getElem? (i := 808) (by decide +kernel)⟩
theorem lw_p37 : lw_okq (⟨"PocketKeeperModel", "layBetter", "()V"⟩, 23) := ⟨⟨by decide +kernel, by decide +kernel⟩, List.mem_of_getElem? (i := 615) (by decide +kernel), List.mem_of_getElem? (i := 811) (by decide +kernel), List.mem_of_getElem? (i := 812) (by decide +kernel)⟩
theorem lw_p38 : lw_okq (⟨"PocketKeeperModel", "layLeast", "()I"⟩, 23) := ⟨⟨by decide +kernel, by decide +kernel⟩, List.mem_of_getElem? (i := 615) (by decide +kernel), List.mem_of_getElem? (i := 815) (by decide +kernel), List.mem_of_getElem? (i := 816) (by decide +kernel)⟩
theorem lw_p39 : lw_okq (⟨"PocketKeeperModel", "leastOf", "(II)I"⟩, 23) := ⟨⟨by decide +kernel, by decide +kernel⟩, List.mem_of_getElem? (i := 615) (by decide +kernel), List.mem_of_getElem? (i := 819) (by decide +kernel), List.mem_of_getElem? (i := 820) (by decide +kernel)⟩
theorem lw_p40 : lw_okq (⟨"PocketKeeperModel", "costBy", "(III)I"⟩, 23) := ⟨⟨by decide +kernel, by decide +kernel⟩, List.mem_of_getElem? (i := 615) (by decide +kernel), List.mem_of_getElem? (i := 824) (by decide +kernel), List.mem_of_getElem? (i := 825) (by decide +kernel)⟩
theorem lw_p41 : lw_okq (⟨"PocketKeeperModel", "layPlan", "()V"⟩, 23) := ⟨⟨by decide +kernel, by decide +kernel⟩, List.mem_of_getElem? (i := 615) (by decide +kernel), List.mem_of_getElem? (i := 828) (by decide +kernel), List.mem_of_getElem? (i := 829) (by decide +kernel)⟩
theorem lw_p42 : lw_okq (⟨"PocketKeeperModel", "isReady", "()Z"⟩, 23) := ⟨⟨by decide +kernel, by decide +kernel⟩, List.mem_of_getElem? (i := 615) (by decide +kernel), List.mem_of_getElem? (i := 840) (by decide +kernel), List.mem_of_getElem? (i := 841) (by decide +kernel)⟩
theorem lw_p43 : lw_okq (⟨"PocketKeeperModel", "costNow", "(I)I"⟩, 23) := ⟨⟨by decide +kernel, by decide +kernel⟩, List.mem_of_getElem? (i := 615) (by decide +kernel), List.mem_of_getElem? (i := 844) (by decide +kernel), List.mem_of_getElem? (i := 845) (by decide +kernel)⟩
theorem lw_p44 : lw_okq (⟨"PocketKeeperModel", "keptAll", "(ZZ)I"⟩, 23) := ⟨⟨by decide +kernel, by decide +kernel⟩, List.mem_of_getElem? (i := 615) (by decide +kernel), List.mem_of_getElem? (i := 848) (by decide +kernel), List.mem_of_getElem? (i := 849) (by decide +kernel)⟩
theorem lw_p45 : lw_okq (⟨"PocketKeeperModel", "leastNow", "()I"⟩, 23) := ⟨⟨by decide +kernel, by decide +kernel⟩, List.mem_of_getElem? (i := 615) (by decide +kernel), List.mem_of_getElem? (i := 852) (by decide +kernel), List.mem_of_getElem? (i := 853) (by decide +kernel)⟩
theorem lw_p46 : lw_okq (⟨"PocketKeeperModel", "boundNow", "()I"⟩, 23) := ⟨⟨by decide +kernel, by decide +kernel⟩, List.mem_of_getElem? (i := 615) (by decide +kernel), List.mem_of_getElem? (i := 856) (by decide +kernel), List.mem_of_getElem? (i := 857) (by decide +kernel)⟩
theorem lw_p47 : lw_okq (⟨"PocketKeeperModel", "meanNow", "()J"⟩, 23) := ⟨⟨by decide +kernel, by decide +kernel⟩, List.mem_of_getElem? (i := 615) (by decide +kernel), List.mem_of_getElem? (i := 864) (by decide +kernel), List.mem_of_getElem? (i := 865) (by decide +kernel)⟩
def lw_privs_3 : List (MethodName × Nat) := [(⟨"PocketKeeperModel", "keptNow", "(II)I"⟩, 23), (⟨"PocketKeeperModel", "layAll", "()V"⟩, 23), (⟨"PocketKeeperModel", "laySoonest", "()V"⟩, 23), (⟨"PocketKeeperModel", "goesFirst", "(II)I"⟩, 23), (⟨"PocketKeeperModel", "late", "(II)I"⟩, 23), (⟨"PocketKeeperModel", "layBetter", "()V"⟩, 23), (⟨"PocketKeeperModel", "layLeast", "()I"⟩, 23), (⟨"PocketKeeperModel", "leastOf", "(II)I"⟩, 23), (⟨"PocketKeeperModel", "costBy", "(III)I"⟩, 23), (⟨"PocketKeeperModel", "layPlan", "()V"⟩, 23), (⟨"PocketKeeperModel", "isReady", "()Z"⟩, 23), (⟨"PocketKeeperModel", "costNow", "(I)I"⟩, 23), (⟨"PocketKeeperModel", "keptAll", "(ZZ)I"⟩, 23), (⟨"PocketKeeperModel", "leastNow", "()I"⟩, 23), (⟨"PocketKeeperModel", "boundNow", "()I"⟩, 23), (⟨"PocketKeeperModel", "meanNow", "()J"⟩, 23)]
theorem lw_r3 : ∀ q ∈ lw_privs_3, lw_okq q := List.forall_mem_cons.mpr ⟨lw_p32, List.forall_mem_cons.mpr ⟨lw_p33, List.forall_mem_cons.mpr ⟨lw_p34, List.forall_mem_cons.mpr ⟨lw_p35, List.forall_mem_cons.mpr ⟨lw_p36, List.forall_mem_cons.mpr ⟨lw_p37, List.forall_mem_cons.mpr ⟨lw_p38, List.forall_mem_cons.mpr ⟨lw_p39, List.forall_mem_cons.mpr ⟨lw_p40, List.forall_mem_cons.mpr ⟨lw_p41, List.forall_mem_cons.mpr ⟨lw_p42, List.forall_mem_cons.mpr ⟨lw_p43, List.forall_mem_cons.mpr ⟨lw_p44, List.forall_mem_cons.mpr ⟨lw_p45, List.forall_mem_cons.mpr ⟨lw_p46, List.forall_mem_cons.mpr ⟨lw_p47, fun _ h => absurd h List.not_mem_nil⟩⟩⟩⟩⟩⟩⟩⟩⟩⟩⟩⟩⟩⟩⟩⟩
theorem lw_p48 : lw_okq (⟨"PocketKeeperModel", "ratioNow", "()I"⟩, 23) := ⟨⟨by decide +kernel, by decide +kernel⟩, List.mem_of_getElem? (i := 615) (by decide +kernel), List.mem_of_getElem? (i := 883) (by decide +kernel), List.mem_of_getElem? (i := 884) (by decide +kernel)⟩
theorem lw_p49 : lw_okq (⟨"PocketKeeperModel", "betterNow", "(I)I"⟩, 23) := ⟨⟨by decide +kernel, by decide +kernel⟩, List.mem_of_getElem? (i := 615) (by decide +kernel), List.mem_of_getElem? (i := 901) (by decide +kernel), List.mem_of_getElem? (i := 902) (by decide +kernel)⟩
theorem lw_p50 : lw_okq (⟨"PocketKeeperModel", "howMany", "(I)I"⟩, 23) := ⟨⟨by decide +kernel, by decide +kernel⟩, List.mem_of_getElem? (i := 615) (by decide +kernel), List.mem_of_getElem? (i := 913) (by decide +kernel), List.mem_of_getElem? (i := 914) (by decide +kernel)⟩
theorem lw_p51 : lw_okq (⟨"PocketKeeperModel", "breaksMany", "()I"⟩, 23) := ⟨⟨by decide +kernel, by decide +kernel⟩, List.mem_of_getElem? (i := 615) (by decide +kernel), List.mem_of_getElem? (i := 917) (by decide +kernel), List.mem_of_getElem? (i := 918) (by decide +kernel)⟩
theorem lw_p52 : lw_okq (⟨"PocketKeeperModel", "mix", "(J)V"⟩, 23) := ⟨⟨by decide +kernel, by decide +kernel⟩, List.mem_of_getElem? (i := 615) (by decide +kernel), List.mem_of_getElem? (i := 926) (by decide +kernel), List.mem_of_getElem? (i := 927) (by decide +kernel)⟩
theorem lw_p53 : lw_okq (⟨"PocketKeeperModel", "mixKeeping", "()V"⟩, 23) := ⟨⟨by decide +kernel, by decide +kernel⟩, List.mem_of_getElem? (i := 615) (by decide +kernel), List.mem_of_getElem? (i := 931) (by decide +kernel), List.mem_of_getElem? (i := 932) (by decide +kernel)⟩
def lw_privs_4 : List (MethodName × Nat) := [(⟨"PocketKeeperModel", "ratioNow", "()I"⟩, 23), (⟨"PocketKeeperModel", "betterNow", "(I)I"⟩, 23), (⟨"PocketKeeperModel", "howMany", "(I)I"⟩, 23), (⟨"PocketKeeperModel", "breaksMany", "()I"⟩, 23), (⟨"PocketKeeperModel", "mix", "(J)V"⟩, 23), (⟨"PocketKeeperModel", "mixKeeping", "()V"⟩, 23)]
theorem lw_r4 : ∀ q ∈ lw_privs_4, lw_okq q := List.forall_mem_cons.mpr ⟨lw_p48, List.forall_mem_cons.mpr ⟨lw_p49, List.forall_mem_cons.mpr ⟨lw_p50, List.forall_mem_cons.mpr ⟨lw_p51, List.forall_mem_cons.mpr ⟨lw_p52, List.forall_mem_cons.mpr ⟨lw_p53, fun _ h => absurd h List.not_mem_nil⟩⟩⟩⟩⟩⟩
def lw_privs : List (MethodName × Nat) := lw_privs_1 ++ (lw_privs_2 ++ (lw_privs_3 ++ (lw_privs_4)))
def lw_tbl : List Cond := k2_sels lw_privs ++ tables_1
theorem lw_privs_ok : ∀ q ∈ lw_privs, lw_okq q := by
  show ∀ q ∈ lw_privs_1 ++ (lw_privs_2 ++ (lw_privs_3 ++ (lw_privs_4))), lw_okq q
  exact List.forall_mem_append.mpr ⟨lw_r1, List.forall_mem_append.mpr ⟨lw_r2, List.forall_mem_append.mpr ⟨lw_r3, lw_r4⟩⟩⟩
/-- the streams that the claim lets the run draw from -/
abbrev lw_cs : List Choice := [Jvm.Choice.named "NaN.bits"]
theorem lw_bits : nanBits ∈ lw_cs := by first | decide | exact List.mem_cons_self | simp [lw_cs, nanBits]
end
section
/-! ===== BEGIN words of one list among another's, by their places ===== -/
theorem goodIn_r {big : List Cond} (ws : List Cond) (ps : List Nat) (hp : ws = ps.filterMap (fun i => big[i]?)) (h : ws.all goodWord = true) : GoodIn big ws := by
  intro w hw
  have h1 := List.all_eq_true.mp h w hw
  rw [hp] at hw
  obtain ⟨i, -, hi⟩ := List.mem_filterMap.mp hw
  have hm : w ∈ big := by first | exact List.mem_of_getElem? hi | exact List.getElem?_mem hi
  exact ⟨hm, good_of_word h1⟩
theorem goodIn_app {big a b : List Cond} (ha : GoodIn big a) (hb : GoodIn big b) : GoodIn big (a ++ b) := fun w h => (List.mem_append.mp h).elim (ha w) (hb w)
theorem goodIn_ca {big a b : List Cond} {c : Cond} (ha : GoodIn big (c :: a)) (hb : GoodIn big b) : GoodIn big (c :: (a ++ b)) := fun w h => (List.mem_cons.mp h).elim (fun e => ha w (List.mem_cons.mpr (Or.inl e))) (fun h => (List.mem_append.mp h).elim (fun h => ha w (List.mem_cons.mpr (Or.inr h))) (hb w))
theorem goodIn_sub {big ws : List Cond} (hm : ∀ w ∈ ws, w ∈ big) (h : ws.all goodWord = true) : GoodIn big ws := fun w hw => ⟨hm w hw, good_of_word (List.all_eq_true.mp h w hw)⟩
/-! ===== END ===== -/

/-! ===== BEGIN printed: names, fields, word lists, decode rows ===== -/
def RX0 : String := "PocketKeeper$Exchange"
def TX0 : u_T := fun k => match k with
  | 0 => ("PocketKeeper$Exchange", "row", "LPocketKeeper$Row;", true)
  | 1 => ("PocketKeeper$Exchange", "search", "LPocketKeeper$LeastSearch;", true)
  | 2 => ("PocketKeeper$Exchange", "found", "Z", false)
  | 3 => ("PocketKeeper$Exchange", "first", "I", false)
  | 4 => ("PocketKeeper$Exchange", "second", "I", false)
  | _ => ("PocketKeeper$Exchange", "leastThen", "I", false)
def tyX0 : Nat → FieldType := fun k => match k with
  | 0 => .object "PocketKeeper$Row"
  | 1 => .object "PocketKeeper$LeastSearch"
  | 2 => .boolean
  | 3 => .int
  | 4 => .int
  | _ => .int
abbrev wsX00 : List Cond := u_ws RX0 TX0 6
theorem nmX0 : ∀ a, a < 6 → ∀ b, b < 6 → a ≠ b → (TX0 a).2.1 ≠ (TX0 b).2.1 := by decide +kernel
theorem tyX0_ok : ∀ k, k < 6 → parseFieldDescriptor (TX0 k).2.2.1 = some (tyX0 k) := by decide +kernel
abbrev cX0_init : ByteArray := prog_2_method_1_code
def yX0_init : MethodName := ⟨RX0, "<init>", "(LPocketKeeper$Row;LPocketKeeper$LeastSearch;)V"⟩
abbrev cX0_isFound : ByteArray := prog_2_method_2_code
def yX0_isFound : MethodName := ⟨RX0, "isFound", "()Z"⟩
abbrev cX0_first : ByteArray := prog_2_method_3_code
def yX0_first : MethodName := ⟨RX0, "first", "()I"⟩
abbrev cX0_second : ByteArray := prog_2_method_4_code
def yX0_second : MethodName := ⟨RX0, "second", "()I"⟩
abbrev cX0_leastThen : ByteArray := prog_2_method_5_code
def yX0_leastThen : MethodName := ⟨RX0, "leastThen", "()I"⟩
abbrev cX0_find : ByteArray := prog_2_method_6_code
def yX0_find : MethodName := ⟨RX0, "find", "()V"⟩
abbrev cX0_note : ByteArray := prog_2_method_7_code
def yX0_note : MethodName := ⟨RX0, "note", "(III)V"⟩
def RX1 : String := "PocketKeeper$Keeping"
def TX1 : u_T := fun k => match k with
  | _ => ("", "", "", false)
def tyX1 : Nat → FieldType := fun k => match k with
  | _ => .int
abbrev wsX10 : List Cond := u_ws RX1 TX1 0
theorem nmX1 : ∀ a, a < 0 → ∀ b, b < 0 → a ≠ b → (TX1 a).2.1 ≠ (TX1 b).2.1 := by decide +kernel
theorem tyX1_ok : ∀ k, k < 0 → parseFieldDescriptor (TX1 k).2.2.1 = some (tyX1 k) := by decide +kernel
abbrev cX1_init : ByteArray := prog_3_method_1_code
def yX1_init : MethodName := ⟨RX1, "<init>", "(LPocketKeeper$Row;LPocketKeeper$Magazine;)V"⟩
abbrev cX1_keepAll : ByteArray := prog_3_method_3_code
def yX1_keepAll : MethodName := ⟨RX1, "keepAll", "()V"⟩
abbrev cX1_inside : ByteArray := prog_3_method_4_code
def yX1_inside : MethodName := ⟨RX1, "inside", "(I)I"⟩
abbrev cX1_coming : ByteArray := prog_3_method_5_code
def yX1_coming : MethodName := ⟨RX1, "coming", "(I)I"⟩
abbrev cX1_going : ByteArray := prog_3_method_6_code
def yX1_going : MethodName := ⟨RX1, "going", "(I)I"⟩
abbrev cX1_totalCost : ByteArray := prog_3_method_7_code
def yX1_totalCost : MethodName := ⟨RX1, "totalCost", "()I"⟩
abbrev cX1_totalComing : ByteArray := prog_3_method_8_code
def yX1_totalComing : MethodName := ⟨RX1, "totalComing", "()I"⟩
def RX2 : String := "PocketKeeper$LeastSearch"
def TX2 : u_T := fun k => match k with
  | 0 => ("PocketKeeper$LeastSearch", "row", "LPocketKeeper$Row;", true)
  | 1 => ("PocketKeeper$LeastSearch", "magazine", "LPocketKeeper$Magazine;", true)
  | 2 => ("PocketKeeper$LeastSearch", "worthKeeping", "[I", true)
  | _ => ("PocketKeeper$LeastSearch", "costBehind", "[I", true)
def tyX2 : Nat → FieldType := fun k => match k with
  | 0 => .object "PocketKeeper$Row"
  | 1 => .object "PocketKeeper$Magazine"
  | 2 => .array .int
  | _ => .array .int
abbrev wsX20 : List Cond := u_ws RX2 TX2 4
theorem nmX2 : ∀ a, a < 4 → ∀ b, b < 4 → a ≠ b → (TX2 a).2.1 ≠ (TX2 b).2.1 := by decide +kernel
theorem tyX2_ok : ∀ k, k < 4 → parseFieldDescriptor (TX2 k).2.2.1 = some (tyX2 k) := by decide +kernel
abbrev cX2_init : ByteArray := prog_4_method_1_code
def yX2_init : MethodName := ⟨RX2, "<init>", "(LPocketKeeper$Row;LPocketKeeper$Magazine;)V"⟩
abbrev cX2_least : ByteArray := prog_4_method_2_code
def yX2_least : MethodName := ⟨RX2, "least", "()I"⟩
abbrev cX2_leastSetAtLeastCost : ByteArray := prog_4_method_3_code
def yX2_leastSetAtLeastCost : MethodName := ⟨RX2, "leastSetAtLeastCost", "(II)I"⟩
abbrev cX2_findWorthKeeping : ByteArray := prog_4_method_4_code
def yX2_findWorthKeeping : MethodName := ⟨RX2, "findWorthKeeping", "()V"⟩
abbrev cX2_fillPlace : ByteArray := prog_4_method_5_code
def yX2_fillPlace : MethodName := ⟨RX2, "fillPlace", "(I)V"⟩
abbrev cX2_costIfKept : ByteArray := prog_4_method_6_code
def yX2_costIfKept : MethodName := ⟨RX2, "costIfKept", "(II)I"⟩
abbrev cX2_costOfFewer : ByteArray := prog_4_method_7_code
def yX2_costOfFewer : MethodName := ⟨RX2, "costOfFewer", "(II)I"⟩
abbrev cX2_cell : ByteArray := prog_4_method_8_code
def yX2_cell : MethodName := ⟨RX2, "cell", "(II)I"⟩
abbrev cX2_subsets : ByteArray := prog_4_method_9_code
def yX2_subsets : MethodName := ⟨RX2, "subsets", "(I)I"⟩
abbrev cX2_subsetBehind : ByteArray := prog_4_method_10_code
def yX2_subsetBehind : MethodName := ⟨RX2, "subsetBehind", "(II)I"⟩
def RX3 : String := "PocketKeeper$Magazine"
def TX3 : u_T := fun k => match k with
  | 0 => ("PocketKeeper$Magazine", "bigTools", "I", false)
  | _ => ("PocketKeeper$Magazine", "room", "I", false)
def tyX3 : Nat → FieldType := fun k => match k with
  | 0 => .int
  | _ => .int
abbrev wsX30 : List Cond := u_ws RX3 TX3 2
theorem nmX3 : ∀ a, a < 2 → ∀ b, b < 2 → a ≠ b → (TX3 a).2.1 ≠ (TX3 b).2.1 := by decide +kernel
theorem tyX3_ok : ∀ k, k < 2 → parseFieldDescriptor (TX3 k).2.2.1 = some (tyX3 k) := by decide +kernel
abbrev cX3_init : ByteArray := prog_5_method_1_code
def yX3_init : MethodName := ⟨RX3, "<init>", "()V"⟩
abbrev cX3_bigTools : ByteArray := prog_5_method_2_code
def yX3_bigTools : MethodName := ⟨RX3, "bigTools", "()I"⟩
abbrev cX3_room : ByteArray := prog_5_method_3_code
def yX3_room : MethodName := ⟨RX3, "room", "()I"⟩
abbrev cX3_setBig : ByteArray := prog_5_method_4_code
def yX3_setBig : MethodName := ⟨RX3, "setBig", "(IZ)V"⟩
abbrev cX3_setRoom : ByteArray := prog_5_method_5_code
def yX3_setRoom : MethodName := ⟨RX3, "setRoom", "(I)V"⟩
abbrev cX3_sizeOf : ByteArray := prog_5_method_6_code
def yX3_sizeOf : MethodName := ⟨RX3, "sizeOf", "(I)I"⟩
abbrev cX3_holds : ByteArray := prog_5_method_7_code
def yX3_holds : MethodName := ⟨RX3, "holds", "(I)Z"⟩
def RX4 : String := "PocketKeeper$Page"
def TX4 : u_T := fun k => match k with
  | 0 => ("PocketKeeper$Page", "letters", "[C", true)
  | _ => ("PocketKeeper$Page", "length", "I", false)
def tyX4 : Nat → FieldType := fun k => match k with
  | 0 => .array .char
  | _ => .int
abbrev wsX40 : List Cond := u_ws RX4 TX4 2
theorem nmX4 : ∀ a, a < 2 → ∀ b, b < 2 → a ≠ b → (TX4 a).2.1 ≠ (TX4 b).2.1 := by decide +kernel
theorem tyX4_ok : ∀ k, k < 2 → parseFieldDescriptor (TX4 k).2.2.1 = some (tyX4 k) := by decide +kernel
abbrev cX4_init : ByteArray := prog_6_method_1_code
def yX4_init : MethodName := ⟨RX4, "<init>", "()V"⟩
abbrev cX4_length : ByteArray := prog_6_method_2_code
def yX4_length : MethodName := ⟨RX4, "length", "()I"⟩
abbrev cX4_isFull : ByteArray := prog_6_method_3_code
def yX4_isFull : MethodName := ⟨RX4, "isFull", "()Z"⟩
abbrev cX4_write : ByteArray := prog_6_method_4_code
def yX4_write : MethodName := ⟨RX4, "write", "(I)V"⟩
abbrev cX4_wipe : ByteArray := prog_6_method_5_code
def yX4_wipe : MethodName := ⟨RX4, "wipe", "()V"⟩
abbrev cX4_codeAt : ByteArray := prog_6_method_6_code
def yX4_codeAt : MethodName := ⟨RX4, "codeAt", "(I)I"⟩
abbrev cX4_firstFault : ByteArray := prog_6_method_7_code
def yX4_firstFault : MethodName := ⟨RX4, "firstFault", "()I"⟩
abbrev cX4_isWhole : ByteArray := prog_6_method_8_code
def yX4_isWhole : MethodName := ⟨RX4, "isWhole", "()Z"⟩
def RX5 : String := "PocketKeeper$PlanKeeping"
def TX5 : u_T := fun k => match k with
  | 0 => ("PocketKeeper$Keeping", "row", "LPocketKeeper$Row;", true)
  | 1 => ("PocketKeeper$Keeping", "magazine", "LPocketKeeper$Magazine;", true)
  | 2 => ("PocketKeeper$Keeping", "inside", "[I", true)
  | 3 => ("PocketKeeper$Keeping", "coming", "[I", true)
  | 4 => ("PocketKeeper$Keeping", "going", "[I", true)
  | _ => ("PocketKeeper$PlanKeeping", "search", "LPocketKeeper$LeastSearch;", true)
def tyX5 : Nat → FieldType := fun k => match k with
  | 0 => .object "PocketKeeper$Row"
  | 1 => .object "PocketKeeper$Magazine"
  | 2 => .array .int
  | 3 => .array .int
  | 4 => .array .int
  | _ => .object "PocketKeeper$LeastSearch"
abbrev wsX50 : List Cond := u_ws RX5 TX5 6
theorem nmX5 : ∀ a, a < 6 → ∀ b, b < 6 → a ≠ b → (TX5 a).2.1 ≠ (TX5 b).2.1 := by decide +kernel
theorem tyX5_ok : ∀ k, k < 6 → parseFieldDescriptor (TX5 k).2.2.1 = some (tyX5 k) := by decide +kernel
abbrev cX5_init : ByteArray := prog_7_method_1_code
def yX5_init : MethodName := ⟨RX5, "<init>", "(LPocketKeeper$Row;LPocketKeeper$Magazine;LPocketKeeper$LeastSearch;)V"⟩
abbrev cX5_staying : ByteArray := prog_7_method_2_code
def yX5_staying : MethodName := ⟨RX5, "staying", "(II)I"⟩
def RX6 : String := "PocketKeeper$Row"
def TX6 : u_T := fun k => match k with
  | 0 => ("PocketKeeper$Row", "needsAsTold", "[I", true)
  | 1 => ("PocketKeeper$Row", "numbers", "[I", true)
  | 2 => ("PocketKeeper$Row", "broken", "[I", true)
  | 3 => ("PocketKeeper$Row", "size", "I", false)
  | 4 => ("PocketKeeper$Row", "changes", "I", false)
  | _ => ("PocketKeeper$Row", "reads", "I", false)
def tyX6 : Nat → FieldType := fun k => match k with
  | 0 => .array .int
  | 1 => .array .int
  | 2 => .array .int
  | 3 => .int
  | 4 => .int
  | _ => .int
abbrev wsX60 : List Cond := u_ws RX6 TX6 6
theorem nmX6 : ∀ a, a < 6 → ∀ b, b < 6 → a ≠ b → (TX6 a).2.1 ≠ (TX6 b).2.1 := by decide +kernel
theorem tyX6_ok : ∀ k, k < 6 → parseFieldDescriptor (TX6 k).2.2.1 = some (tyX6 k) := by decide +kernel
abbrev cX6_init : ByteArray := prog_8_method_1_code
def yX6_init : MethodName := ⟨RX6, "<init>", "()V"⟩
abbrev cX6_size : ByteArray := prog_8_method_2_code
def yX6_size : MethodName := ⟨RX6, "size", "()I"⟩
abbrev cX6_changes : ByteArray := prog_8_method_3_code
def yX6_changes : MethodName := ⟨RX6, "changes", "()I"⟩
abbrev cX6_reads : ByteArray := prog_8_method_4_code
def yX6_reads : MethodName := ⟨RX6, "reads", "()I"⟩
abbrev cX6_isPlace : ByteArray := prog_8_method_5_code
def yX6_isPlace : MethodName := ⟨RX6, "isPlace", "(I)Z"⟩
abbrev cX6_needs : ByteArray := prog_8_method_6_code
def yX6_needs : MethodName := ⟨RX6, "needs", "(I)I"⟩
abbrev cX6_number : ByteArray := prog_8_method_7_code
def yX6_number : MethodName := ⟨RX6, "number", "(I)I"⟩
abbrev cX6_broken : ByteArray := prog_8_method_8_code
def yX6_broken : MethodName := ⟨RX6, "broken", "(I)I"⟩
abbrev cX6_read : ByteArray := prog_8_method_9_code
def yX6_read : MethodName := ⟨RX6, "read", "(LPocketKeeper$Page;)Z"⟩
abbrev cX6_clear : ByteArray := prog_8_method_10_code
def yX6_clear : MethodName := ⟨RX6, "clear", "()V"⟩
abbrev cX6_setBreak : ByteArray := prog_8_method_11_code
def yX6_setBreak : MethodName := ⟨RX6, "setBreak", "(IIZ)V"⟩
abbrev cX6_exchange : ByteArray := prog_8_method_12_code
def yX6_exchange : MethodName := ⟨RX6, "exchange", "(II)V"⟩
abbrev cX6_countChange : ByteArray := prog_8_method_13_code
def yX6_countChange : MethodName := ⟨RX6, "countChange", "()V"⟩
abbrev cX6_nextPlace : ByteArray := prog_8_method_14_code
def yX6_nextPlace : MethodName := ⟨RX6, "nextPlace", "(II)I"⟩
abbrev cX6_allNeeds : ByteArray := prog_8_method_15_code
def yX6_allNeeds : MethodName := ⟨RX6, "allNeeds", "()I"⟩
abbrev cX6_allBreaks : ByteArray := prog_8_method_16_code
def yX6_allBreaks : MethodName := ⟨RX6, "allBreaks", "()I"⟩
def RX7 : String := "PocketKeeper$SoonestKeeping"
def TX7 : u_T := fun k => match k with
  | 0 => ("PocketKeeper$Keeping", "row", "LPocketKeeper$Row;", true)
  | 1 => ("PocketKeeper$Keeping", "magazine", "LPocketKeeper$Magazine;", true)
  | 2 => ("PocketKeeper$Keeping", "inside", "[I", true)
  | 3 => ("PocketKeeper$Keeping", "coming", "[I", true)
  | _ => ("PocketKeeper$Keeping", "going", "[I", true)
def tyX7 : Nat → FieldType := fun k => match k with
  | 0 => .object "PocketKeeper$Row"
  | 1 => .object "PocketKeeper$Magazine"
  | 2 => .array .int
  | 3 => .array .int
  | _ => .array .int
abbrev wsX70 : List Cond := u_ws RX7 TX7 5
theorem nmX7 : ∀ a, a < 5 → ∀ b, b < 5 → a ≠ b → (TX7 a).2.1 ≠ (TX7 b).2.1 := by decide +kernel
theorem tyX7_ok : ∀ k, k < 5 → parseFieldDescriptor (TX7 k).2.2.1 = some (tyX7 k) := by decide +kernel
abbrev cX7_init : ByteArray := prog_9_method_1_code
def yX7_init : MethodName := ⟨RX7, "<init>", "(LPocketKeeper$Row;LPocketKeeper$Magazine;)V"⟩
abbrev cX7_staying : ByteArray := prog_9_method_2_code
def yX7_staying : MethodName := ⟨RX7, "staying", "(II)I"⟩
abbrev cX7_firstToGo : ByteArray := prog_9_method_3_code
def yX7_firstToGo : MethodName := ⟨RX7, "firstToGo", "(II)I"⟩
abbrev cX7_rank : ByteArray := prog_9_method_4_code
def yX7_rank : MethodName := ⟨RX7, "rank", "(II)I"⟩
def RX8 : String := "PocketKeeper"
def TX8 : u_T := fun k => match k with
  | 0 => ("PocketKeeper", "page", "LPocketKeeper$Page;", true)
  | 1 => ("PocketKeeper", "magazine", "LPocketKeeper$Magazine;", true)
  | 2 => ("PocketKeeper", "row", "LPocketKeeper$Row;", true)
  | 3 => ("PocketKeeper", "search", "LPocketKeeper$LeastSearch;", true)
  | 4 => ("PocketKeeper", "bySoonest", "LPocketKeeper$Keeping;", true)
  | 5 => ("PocketKeeper", "byPlan", "LPocketKeeper$Keeping;", true)
  | 6 => ("PocketKeeper", "exchange", "LPocketKeeper$Exchange;", true)
  | 7 => ("PocketKeeper", "keepingsStand", "Z", false)
  | _ => ("PocketKeeper", "exchangeStands", "Z", false)
def tyX8 : Nat → FieldType := fun k => match k with
  | 0 => .object "PocketKeeper$Page"
  | 1 => .object "PocketKeeper$Magazine"
  | 2 => .object "PocketKeeper$Row"
  | 3 => .object "PocketKeeper$LeastSearch"
  | 4 => .object "PocketKeeper$Keeping"
  | 5 => .object "PocketKeeper$Keeping"
  | 6 => .object "PocketKeeper$Exchange"
  | 7 => .boolean
  | _ => .boolean
abbrev wsX80 : List Cond := u_ws RX8 TX8 9
theorem nmX8 : ∀ a, a < 9 → ∀ b, b < 9 → a ≠ b → (TX8 a).2.1 ≠ (TX8 b).2.1 := by decide +kernel
theorem tyX8_ok : ∀ k, k < 9 → parseFieldDescriptor (TX8 k).2.2.1 = some (tyX8 k) := by decide +kernel
abbrev cX8_init : ByteArray := prog_1_method_1_code
def yX8_init : MethodName := ⟨RX8, "<init>", "()V"⟩
abbrev cX8_letter : ByteArray := prog_1_method_2_code
def yX8_letter : MethodName := ⟨RX8, "letter", "(I)I"⟩
abbrev cX8_blank : ByteArray := prog_1_method_3_code
def yX8_blank : MethodName := ⟨RX8, "blank", "()I"⟩
abbrev cX8_fault : ByteArray := prog_1_method_4_code
def yX8_fault : MethodName := ⟨RX8, "fault", "()I"⟩
abbrev cX8_jobs : ByteArray := prog_1_method_5_code
def yX8_jobs : MethodName := ⟨RX8, "jobs", "()I"⟩
abbrev cX8_big : ByteArray := prog_1_method_6_code
def yX8_big : MethodName := ⟨RX8, "big", "(IZ)I"⟩
abbrev cX8_pockets : ByteArray := prog_1_method_7_code
def yX8_pockets : MethodName := ⟨RX8, "pockets", "(I)I"⟩
abbrev cX8_breaks : ByteArray := prog_1_method_8_code
def yX8_breaks : MethodName := ⟨RX8, "breaks", "(IIZ)I"⟩
abbrev cX8_swap : ByteArray := prog_1_method_9_code
def yX8_swap : MethodName := ⟨RX8, "swap", "(II)I"⟩
abbrev cX8_as : ByteArray := prog_1_method_10_code
def yX8_as : MethodName := ⟨RX8, "as", "(II)I"⟩
abbrev cX8_job : ByteArray := prog_1_method_11_code
def yX8_job : MethodName := ⟨RX8, "job", "(II)I"⟩
abbrev cX8_next : ByteArray := prog_1_method_12_code
def yX8_next : MethodName := ⟨RX8, "next", "(II)I"⟩
abbrev cX8_soonest : ByteArray := prog_1_method_13_code
def yX8_soonest : MethodName := ⟨RX8, "soonest", "(II)I"⟩
abbrev cX8_plan : ByteArray := prog_1_method_14_code
def yX8_plan : MethodName := ⟨RX8, "plan", "(II)I"⟩
abbrev cX8_cost : ByteArray := prog_1_method_15_code
def yX8_cost : MethodName := ⟨RX8, "cost", "(I)I"⟩
abbrev cX8_mean : ByteArray := prog_1_method_16_code
def yX8_mean : MethodName := ⟨RX8, "mean", "()J"⟩
abbrev cX8_ratio : ByteArray := prog_1_method_17_code
def yX8_ratio : MethodName := ⟨RX8, "ratio", "()I"⟩
abbrev cX8_pair : ByteArray := prog_1_method_18_code
def yX8_pair : MethodName := ⟨RX8, "pair", "(I)I"⟩
abbrev cX8_better : ByteArray := prog_1_method_19_code
def yX8_better : MethodName := ⟨RX8, "better", "()I"⟩
abbrev cX8_count : ByteArray := prog_1_method_20_code
def yX8_count : MethodName := ⟨RX8, "count", "(I)I"⟩
abbrev cX8_digest : ByteArray := prog_1_method_21_code
def yX8_digest : MethodName := ⟨RX8, "digest", "()J"⟩
abbrev cX8_digestOfRow : ByteArray := prog_1_method_22_code
def yX8_digestOfRow : MethodName := ⟨RX8, "digestOfRow", "(J)J"⟩
abbrev cX8_digestOfKeepings : ByteArray := prog_1_method_23_code
def yX8_digestOfKeepings : MethodName := ⟨RX8, "digestOfKeepings", "(J)J"⟩
abbrev cX8_refusalOfKeeping : ByteArray := prog_1_method_24_code
def yX8_refusalOfKeeping : MethodName := ⟨RX8, "refusalOfKeeping", "(II)I"⟩
abbrev cX8_numberOfKeeping : ByteArray := prog_1_method_25_code
def yX8_numberOfKeeping : MethodName := ⟨RX8, "numberOfKeeping", "(LPocketKeeper$Keeping;II)I"⟩
abbrev cX8_numberOfCost : ByteArray := prog_1_method_26_code
def yX8_numberOfCost : MethodName := ⟨RX8, "numberOfCost", "(I)I"⟩
abbrev cX8_bitsOfMean : ByteArray := prog_1_method_27_code
def yX8_bitsOfMean : MethodName := ⟨RX8, "bitsOfMean", "()J"⟩
abbrev cX8_bitsOfRatio : ByteArray := prog_1_method_28_code
def yX8_bitsOfRatio : MethodName := ⟨RX8, "bitsOfRatio", "()I"⟩
abbrev cX8_numberOfExchange : ByteArray := prog_1_method_29_code
def yX8_numberOfExchange : MethodName := ⟨RX8, "numberOfExchange", "(I)I"⟩
abbrev cX8_changeOrder : ByteArray := prog_1_method_30_code
def yX8_changeOrder : MethodName := ⟨RX8, "changeOrder", "(II)V"⟩
abbrev cX8_canKeep : ByteArray := prog_1_method_31_code
def yX8_canKeep : MethodName := ⟨RX8, "canKeep", "()Z"⟩
abbrev cX8_isTooBig : ByteArray := prog_1_method_32_code
def yX8_isTooBig : MethodName := ⟨RX8, "isTooBig", "()Z"⟩
abbrev cX8_forgetKeepings : ByteArray := prog_1_method_33_code
def yX8_forgetKeepings : MethodName := ⟨RX8, "forgetKeepings", "()V"⟩
abbrev cX8_standKeepings : ByteArray := prog_1_method_34_code
def yX8_standKeepings : MethodName := ⟨RX8, "standKeepings", "()V"⟩
abbrev cX8_standExchange : ByteArray := prog_1_method_35_code
def yX8_standExchange : MethodName := ⟨RX8, "standExchange", "()V"⟩
abbrev cX8_isTool : ByteArray := prog_1_method_36_code
def yX8_isTool : MethodName := ⟨RX8, "isTool", "(I)Z"⟩
abbrev cX8_hasTool : ByteArray := prog_1_method_37_code
def yX8_hasTool : MethodName := ⟨RX8, "hasTool", "(II)Z"⟩
abbrev cX8_withTool : ByteArray := prog_1_method_38_code
def yX8_withTool : MethodName := ⟨RX8, "withTool", "(IIZ)I"⟩
abbrev cX8_bitsOfDouble : ByteArray := prog_1_method_39_code
def yX8_bitsOfDouble : MethodName := ⟨RX8, "bitsOfDouble", "(D)J"⟩
abbrev cX8_bitsOfFloat : ByteArray := prog_1_method_40_code
def yX8_bitsOfFloat : MethodName := ⟨RX8, "bitsOfFloat", "(F)I"⟩
def RX9 : String := "PocketKeeperModel"
def TX9 : u_T := fun k => match k with
  | 0 => ("PocketKeeperModel", "pageLength", "I", false)
  | 1 => ("PocketKeeperModel", "page", "[I", true)
  | 2 => ("PocketKeeperModel", "jobs", "I", false)
  | 3 => ("PocketKeeperModel", "needsOf", "[I", true)
  | 4 => ("PocketKeeperModel", "jobAt", "[I", true)
  | 5 => ("PocketKeeperModel", "breaksAt", "[I", true)
  | 6 => ("PocketKeeperModel", "bigs", "I", false)
  | 7 => ("PocketKeeperModel", "pocketsNow", "I", false)
  | 8 => ("PocketKeeperModel", "changes", "I", false)
  | 9 => ("PocketKeeperModel", "jobsRead", "I", false)
  | 10 => ("PocketKeeperModel", "newJobs", "I", false)
  | 11 => ("PocketKeeperModel", "newNow", "I", false)
  | 12 => ("PocketKeeperModel", "newNeeds", "[I", true)
  | 13 => ("PocketKeeperModel", "aheadAt", "[I", true)
  | 14 => ("PocketKeeperModel", "thereAt", "[I", true)
  | 15 => ("PocketKeeperModel", "isLaid", "Z", false)
  | 16 => ("PocketKeeperModel", "leastFrom", "[I", true)
  | 17 => ("PocketKeeperModel", "sizes", "[I", true)
  | 18 => ("PocketKeeperModel", "leastAll", "I", false)
  | 19 => ("PocketKeeperModel", "betterOne", "I", false)
  | 20 => ("PocketKeeperModel", "betterOther", "I", false)
  | 21 => ("PocketKeeperModel", "betterLeast", "I", false)
  | _ => ("PocketKeeperModel", "h", "J", false)
def tyX9 : Nat → FieldType := fun k => match k with
  | 0 => .int
  | 1 => .array .int
  | 2 => .int
  | 3 => .array .int
  | 4 => .array .int
  | 5 => .array .int
  | 6 => .int
  | 7 => .int
  | 8 => .int
  | 9 => .int
  | 10 => .int
  | 11 => .int
  | 12 => .array .int
  | 13 => .array .int
  | 14 => .array .int
  | 15 => .boolean
  | 16 => .array .int
  | 17 => .array .int
  | 18 => .int
  | 19 => .int
  | 20 => .int
  | 21 => .int
  | _ => .long
abbrev wsX90 : List Cond := u_ws RX9 TX9 23
theorem nmX9 : ∀ a, a < 23 → ∀ b, b < 23 → a ≠ b → (TX9 a).2.1 ≠ (TX9 b).2.1 := by decide +kernel
theorem tyX9_ok : ∀ k, k < 23 → parseFieldDescriptor (TX9 k).2.2.1 = some (tyX9 k) := by decide +kernel
abbrev cX9_init : ByteArray := prog_11_method_1_code
def yX9_init : MethodName := ⟨RX9, "<init>", "()V"⟩
abbrev cX9_within : ByteArray := prog_11_method_3_code
def yX9_within : MethodName := ⟨RX9, "within", "(III)Z"⟩
abbrev cX9_has : ByteArray := prog_11_method_4_code
def yX9_has : MethodName := ⟨RX9, "has", "(II)Z"⟩
abbrev cX9_ones : ByteArray := prog_11_method_5_code
def yX9_ones : MethodName := ⟨RX9, "ones", "(I)I"⟩
abbrev cX9_sizeOf : ByteArray := prog_11_method_6_code
def yX9_sizeOf : MethodName := ⟨RX9, "sizeOf", "(I)I"⟩
abbrev cX9_letter : ByteArray := prog_11_method_7_code
def yX9_letter : MethodName := ⟨RX9, "letter", "(I)I"⟩
abbrev cX9_blank : ByteArray := prog_11_method_8_code
def yX9_blank : MethodName := ⟨RX9, "blank", "()I"⟩
abbrev cX9_takes : ByteArray := prog_11_method_9_code
def yX9_takes : MethodName := ⟨RX9, "takes", "(I)Z"⟩
abbrev cX9_goAlong : ByteArray := prog_11_method_10_code
def yX9_goAlong : MethodName := ⟨RX9, "goAlong", "()I"⟩
abbrev cX9_fault : ByteArray := prog_11_method_11_code
def yX9_fault : MethodName := ⟨RX9, "fault", "()I"⟩
abbrev cX9_jobs : ByteArray := prog_11_method_12_code
def yX9_jobs : MethodName := ⟨RX9, "jobs", "()I"⟩
abbrev cX9_isTool : ByteArray := prog_11_method_13_code
def yX9_isTool : MethodName := ⟨RX9, "isTool", "(I)Z"⟩
abbrev cX9_isPlace : ByteArray := prog_11_method_14_code
def yX9_isPlace : MethodName := ⟨RX9, "isPlace", "(I)Z"⟩
abbrev cX9_big : ByteArray := prog_11_method_15_code
def yX9_big : MethodName := ⟨RX9, "big", "(IZ)I"⟩
abbrev cX9_pockets : ByteArray := prog_11_method_16_code
def yX9_pockets : MethodName := ⟨RX9, "pockets", "(I)I"⟩
abbrev cX9_breaks : ByteArray := prog_11_method_17_code
def yX9_breaks : MethodName := ⟨RX9, "breaks", "(IIZ)I"⟩
abbrev cX9_change : ByteArray := prog_11_method_18_code
def yX9_change : MethodName := ⟨RX9, "change", "(II)V"⟩
abbrev cX9_swap : ByteArray := prog_11_method_19_code
def yX9_swap : MethodName := ⟨RX9, "swap", "(II)I"⟩
abbrev cX9_as : ByteArray := prog_11_method_20_code
def yX9_as : MethodName := ⟨RX9, "as", "(II)I"⟩
abbrev cX9_needs : ByteArray := prog_11_method_21_code
def yX9_needs : MethodName := ⟨RX9, "needs", "(I)I"⟩
abbrev cX9_jobNow : ByteArray := prog_11_method_22_code
def yX9_jobNow : MethodName := ⟨RX9, "jobNow", "(II)I"⟩
abbrev cX9_job : ByteArray := prog_11_method_23_code
def yX9_job : MethodName := ⟨RX9, "job", "(II)I"⟩
abbrev cX9_nextOf : ByteArray := prog_11_method_24_code
def yX9_nextOf : MethodName := ⟨RX9, "nextOf", "(II)I"⟩
abbrev cX9_next : ByteArray := prog_11_method_25_code
def yX9_next : MethodName := ⟨RX9, "next", "(II)I"⟩
abbrev cX9_isTooBig : ByteArray := prog_11_method_26_code
def yX9_isTooBig : MethodName := ⟨RX9, "isTooBig", "()Z"⟩
abbrev cX9_late : ByteArray := prog_11_method_27_code
def yX9_late : MethodName := ⟨RX9, "late", "(II)I"⟩
abbrev cX9_goesFirst : ByteArray := prog_11_method_28_code
def yX9_goesFirst : MethodName := ⟨RX9, "goesFirst", "(II)I"⟩
abbrev cX9_laySoonest : ByteArray := prog_11_method_29_code
def yX9_laySoonest : MethodName := ⟨RX9, "laySoonest", "()V"⟩
abbrev cX9_costBy : ByteArray := prog_11_method_30_code
def yX9_costBy : MethodName := ⟨RX9, "costBy", "(III)I"⟩
abbrev cX9_leastOf : ByteArray := prog_11_method_31_code
def yX9_leastOf : MethodName := ⟨RX9, "leastOf", "(II)I"⟩
abbrev cX9_layLeast : ByteArray := prog_11_method_32_code
def yX9_layLeast : MethodName := ⟨RX9, "layLeast", "()I"⟩
abbrev cX9_layPlan : ByteArray := prog_11_method_33_code
def yX9_layPlan : MethodName := ⟨RX9, "layPlan", "()V"⟩
abbrev cX9_layAll : ByteArray := prog_11_method_34_code
def yX9_layAll : MethodName := ⟨RX9, "layAll", "()V"⟩
abbrev cX9_keptNow : ByteArray := prog_11_method_35_code
def yX9_keptNow : MethodName := ⟨RX9, "keptNow", "(II)I"⟩
abbrev cX9_refused : ByteArray := prog_11_method_36_code
def yX9_refused : MethodName := ⟨RX9, "refused", "(II)I"⟩
abbrev cX9_soonest : ByteArray := prog_11_method_37_code
def yX9_soonest : MethodName := ⟨RX9, "soonest", "(II)I"⟩
abbrev cX9_plan : ByteArray := prog_11_method_38_code
def yX9_plan : MethodName := ⟨RX9, "plan", "(II)I"⟩
abbrev cX9_keptAll : ByteArray := prog_11_method_39_code
def yX9_keptAll : MethodName := ⟨RX9, "keptAll", "(ZZ)I"⟩
abbrev cX9_leastNow : ByteArray := prog_11_method_40_code
def yX9_leastNow : MethodName := ⟨RX9, "leastNow", "()I"⟩
abbrev cX9_boundNow : ByteArray := prog_11_method_41_code
def yX9_boundNow : MethodName := ⟨RX9, "boundNow", "()I"⟩
abbrev cX9_isReady : ByteArray := prog_11_method_42_code
def yX9_isReady : MethodName := ⟨RX9, "isReady", "()Z"⟩
abbrev cX9_costNow : ByteArray := prog_11_method_43_code
def yX9_costNow : MethodName := ⟨RX9, "costNow", "(I)I"⟩
abbrev cX9_cost : ByteArray := prog_11_method_44_code
def yX9_cost : MethodName := ⟨RX9, "cost", "(I)I"⟩
abbrev cX9_meanNow : ByteArray := prog_11_method_45_code
def yX9_meanNow : MethodName := ⟨RX9, "meanNow", "()J"⟩
abbrev cX9_mean : ByteArray := prog_11_method_46_code
def yX9_mean : MethodName := ⟨RX9, "mean", "()J"⟩
abbrev cX9_ratioNow : ByteArray := prog_11_method_47_code
def yX9_ratioNow : MethodName := ⟨RX9, "ratioNow", "()I"⟩
abbrev cX9_ratio : ByteArray := prog_11_method_48_code
def yX9_ratio : MethodName := ⟨RX9, "ratio", "()I"⟩
abbrev cX9_layBetter : ByteArray := prog_11_method_49_code
def yX9_layBetter : MethodName := ⟨RX9, "layBetter", "()V"⟩
abbrev cX9_betterNow : ByteArray := prog_11_method_50_code
def yX9_betterNow : MethodName := ⟨RX9, "betterNow", "(I)I"⟩
abbrev cX9_pair : ByteArray := prog_11_method_51_code
def yX9_pair : MethodName := ⟨RX9, "pair", "(I)I"⟩
abbrev cX9_better : ByteArray := prog_11_method_52_code
def yX9_better : MethodName := ⟨RX9, "better", "()I"⟩
abbrev cX9_breaksMany : ByteArray := prog_11_method_53_code
def yX9_breaksMany : MethodName := ⟨RX9, "breaksMany", "()I"⟩
abbrev cX9_howMany : ByteArray := prog_11_method_54_code
def yX9_howMany : MethodName := ⟨RX9, "howMany", "(I)I"⟩
abbrev cX9_count : ByteArray := prog_11_method_55_code
def yX9_count : MethodName := ⟨RX9, "count", "(I)I"⟩
abbrev cX9_mix : ByteArray := prog_11_method_56_code
def yX9_mix : MethodName := ⟨RX9, "mix", "(J)V"⟩
abbrev cX9_mixKeeping : ByteArray := prog_11_method_57_code
def yX9_mixKeeping : MethodName := ⟨RX9, "mixKeeping", "()V"⟩
abbrev cX9_digest : ByteArray := prog_11_method_58_code
def yX9_digest : MethodName := ⟨RX9, "digest", "()J"⟩
def RJxe99ae : String := "java/lang/Double"
def TJxe99ae : u_T := fun k => match k with
  | _ => ("", "", "", false)
def tyJxe99ae : Nat → FieldType := fun k => match k with
  | _ => .int
abbrev wsJxe99ae0 : List Cond := u_ws RJxe99ae TJxe99ae 0
theorem nmJxe99ae : ∀ a, a < 0 → ∀ b, b < 0 → a ≠ b → (TJxe99ae a).2.1 ≠ (TJxe99ae b).2.1 := by decide +kernel
theorem tyJxe99ae_ok : ∀ k, k < 0 → parseFieldDescriptor (TJxe99ae k).2.2.1 = some (tyJxe99ae k) := by decide +kernel
abbrev cJxe99ae_isNaN_b9ae7 : ByteArray := prog_12_method_6_code
def yJxe99ae_isNaN_b9ae7 : MethodName := ⟨RJxe99ae, "isNaN", "(D)Z"⟩
abbrev cJxe99ae_doubleToLongBits_ccdee : ByteArray := prog_12_method_23_code
def yJxe99ae_doubleToLongBits_ccdee : MethodName := ⟨RJxe99ae, "doubleToLongBits", "(D)J"⟩
def RJxf58ca : String := "java/lang/Float"
def TJxf58ca : u_T := fun k => match k with
  | _ => ("", "", "", false)
def tyJxf58ca : Nat → FieldType := fun k => match k with
  | _ => .int
abbrev wsJxf58ca0 : List Cond := u_ws RJxf58ca TJxf58ca 0
theorem nmJxf58ca : ∀ a, a < 0 → ∀ b, b < 0 → a ≠ b → (TJxf58ca a).2.1 ≠ (TJxf58ca b).2.1 := by decide +kernel
theorem tyJxf58ca_ok : ∀ k, k < 0 → parseFieldDescriptor (TJxf58ca k).2.2.1 = some (tyJxf58ca k) := by decide +kernel
abbrev cJxf58ca_isNaN_12338 : ByteArray := prog_13_method_6_code
def yJxf58ca_isNaN_12338 : MethodName := ⟨RJxf58ca, "isNaN", "(F)Z"⟩
abbrev cJxf58ca_floatToIntBits_5c35a : ByteArray := prog_13_method_24_code
def yJxf58ca_floatToIntBits_5c35a : MethodName := ⟨RJxf58ca, "floatToIntBits", "(F)I"⟩
def RJ6 : String := "java/lang/Integer"
def TJ6 : u_T := fun k => match k with
  | _ => ("", "", "", false)
def tyJ6 : Nat → FieldType := fun k => match k with
  | _ => .int
abbrev wsJ60 : List Cond := u_ws RJ6 TJ6 0
theorem nmJ6 : ∀ a, a < 0 → ∀ b, b < 0 → a ≠ b → (TJ6 a).2.1 ≠ (TJ6 b).2.1 := by decide +kernel
theorem tyJ6_ok : ∀ k, k < 0 → parseFieldDescriptor (TJ6 k).2.2.1 = some (tyJ6 k) := by decide +kernel
abbrev cJ6_bitCount_0f7a4 : ByteArray := prog_14_method_49_code
def yJ6_bitCount_0f7a4 : MethodName := ⟨RJ6, "bitCount", "(I)I"⟩
def RJ9 : String := "java/lang/Math"
def TJ9 : u_T := fun k => match k with
  | _ => ("", "", "", false)
def tyJ9 : Nat → FieldType := fun k => match k with
  | _ => .int
abbrev wsJ90 : List Cond := u_ws RJ9 TJ9 0
theorem nmJ9 : ∀ a, a < 0 → ∀ b, b < 0 → a ≠ b → (TJ9 a).2.1 ≠ (TJ9 b).2.1 := by decide +kernel
theorem tyJ9_ok : ∀ k, k < 0 → parseFieldDescriptor (TJ9 k).2.2.1 = some (tyJ9 k) := by decide +kernel
abbrev cJ9_min_7cf53 : ByteArray := prog_15_method_69_code
def yJ9_min_7cf53 : MethodName := ⟨RJ9, "min", "(II)I"⟩
def RL : String := "PocketKeeperLaw"
abbrev cL_law : ByteArray := code
def yL_law : MethodName := ⟨RL, "law", "([I)Z"⟩
end
section
noncomputable def wsX0_init : List Cond := .code yX0_init cX0_init 3 none :: ([.methodLink RX0 1 objectInit, .instanceMethod objectInit, .code objectInit ⟨#[0xb1]⟩ 1 none, .fieldLink RX0 7 "PocketKeeper$Exchange" "row" "LPocketKeeper$Row;", .fieldLink RX0 13 "PocketKeeper$Exchange" "search" "LPocketKeeper$LeastSearch;"] ++ wsX00)
noncomputable def wsX0_isFound : List Cond := .code yX0_isFound cX0_isFound 1 (some .boolean) :: ([.fieldLink RX0 17 "PocketKeeper$Exchange" "found" "Z"] ++ wsX00)
noncomputable def wsX0_first : List Cond := .code yX0_first cX0_first 1 (some .int) :: ([.fieldLink RX0 21 "PocketKeeper$Exchange" "first" "I"] ++ wsX00)
noncomputable def wsX0_second : List Cond := .code yX0_second cX0_second 1 (some .int) :: ([.fieldLink RX0 25 "PocketKeeper$Exchange" "second" "I"] ++ wsX00)
noncomputable def wsX0_leastThen : List Cond := .code yX0_leastThen cX0_leastThen 1 (some .int) :: ([.fieldLink RX0 28 "PocketKeeper$Exchange" "leastThen" "I"] ++ wsX00)
noncomputable def wsX6_size : List Cond := .code yX6_size cX6_size 1 (some .int) :: ([.fieldLink RX6 21 "PocketKeeper$Row" "size" "I"] ++ wsX60)
noncomputable def wsX6_needs : List Cond := .code yX6_needs cX6_needs 2 (some .int) :: ([.fieldLink RX6 9 "PocketKeeper$Row" "needsAsTold" "[I", .fieldLink RX6 15 "PocketKeeper$Row" "numbers" "[I"] ++ wsX60)
noncomputable def wsX6_broken : List Cond := .code yX6_broken cX6_broken 2 (some .int) :: ([.fieldLink RX6 18 "PocketKeeper$Row" "broken" "[I"] ++ wsX60)
noncomputable def wsX2_findWorthKeeping : List Cond := .code yX2_findWorthKeeping cX2_findWorthKeeping 4 none :: ([.fieldLink RX2 18 "PocketKeeper$LeastSearch" "row" "LPocketKeeper$Row;", .fieldLink RX2 9 "PocketKeeper$LeastSearch" "worthKeeping" "[I", .methodLink RX2 29 yX6_size, .instanceMethod yX6_size, .selects RX6 yX6_size yX6_size, .initialized RX6, .code yX6_size cX6_size 1 (some .int), .fieldLink RX6 21 "PocketKeeper$Row" "size" "I", .methodLink RX2 39 yX6_needs, .instanceMethod yX6_needs, .selects RX6 yX6_needs yX6_needs, .code yX6_needs cX6_needs 2 (some .int), .fieldLink RX6 9 "PocketKeeper$Row" "needsAsTold" "[I", .fieldLink RX6 15 "PocketKeeper$Row" "numbers" "[I", .methodLink RX2 58 yX6_broken, .instanceMethod yX6_broken, .selects RX6 yX6_broken yX6_broken, .code yX6_broken cX6_broken 2 (some .int), .fieldLink RX6 18 "PocketKeeper$Row" "broken" "[I"] ++ wsX20 ++ wsX60)
noncomputable def wsJ6_bitCount_0f7a4 : List Cond := .code yJ6_bitCount_0f7a4 cJ6_bitCount_0f7a4 1 (some .int) :: ([.constant RJ6 265 (1431655765), .constant RJ6 266 (858993459), .constant RJ6 267 (252645135)])
noncomputable def wsX2_subsets : List Cond := .code yX2_subsets cX2_subsets 1 (some .int) :: ([.methodLink RX2 83 yJ6_bitCount_0f7a4, .static yJ6_bitCount_0f7a4, .initialized RJ6, .code yJ6_bitCount_0f7a4 cJ6_bitCount_0f7a4 1 (some .int), .constant RJ6 265 (1431655765), .constant RJ6 266 (858993459), .constant RJ6 267 (252645135)])
noncomputable def wsX2_cell : List Cond := .code yX2_cell cX2_cell 2 (some .int) :: ([])
noncomputable def wsX3_sizeOf : List Cond := .code yX3_sizeOf cX3_sizeOf 2 (some .int) :: ([.fieldLink RX3 15 "PocketKeeper$Magazine" "bigTools" "I", .methodLink RX3 22 yJ6_bitCount_0f7a4, .static yJ6_bitCount_0f7a4, .initialized RJ6, .code yJ6_bitCount_0f7a4 cJ6_bitCount_0f7a4 1 (some .int), .constant RJ6 265 (1431655765), .constant RJ6 266 (858993459), .constant RJ6 267 (252645135)] ++ wsX30)
noncomputable def wsX3_holds : List Cond := .code yX3_holds cX3_holds 2 (some .boolean) :: ([.fieldLink RX3 9 "PocketKeeper$Magazine" "room" "I", .methodLink RX3 28 yX3_sizeOf, .instanceMethod yX3_sizeOf, .selects RX3 yX3_sizeOf yX3_sizeOf, .initialized RX3, .code yX3_sizeOf cX3_sizeOf 2 (some .int), .fieldLink RX3 15 "PocketKeeper$Magazine" "bigTools" "I", .methodLink RX3 22 yJ6_bitCount_0f7a4, .static yJ6_bitCount_0f7a4, .initialized RJ6, .code yJ6_bitCount_0f7a4 cJ6_bitCount_0f7a4 1 (some .int), .constant RJ6 265 (1431655765), .constant RJ6 266 (858993459), .constant RJ6 267 (252645135)] ++ wsX30)
noncomputable def wsX2_costIfKept_r1 : List Cond := [Cond.fieldLink RX2 18 "PocketKeeper$LeastSearch" "row" "LPocketKeeper$Row;", Cond.fieldLink RX2 22 "PocketKeeper$LeastSearch" "magazine" "LPocketKeeper$Magazine;", Cond.fieldLink RX2 15 "PocketKeeper$LeastSearch" "costBehind" "[I", Cond.fieldLink RX2 9 "PocketKeeper$LeastSearch" "worthKeeping" "[I", Cond.methodLink RX2 29 yX6_size, Cond.instanceMethod yX6_size, Cond.selects RX6 yX6_size yX6_size, Cond.initialized RX6, Cond.code yX6_size cX6_size 1 (some .int), Cond.fieldLink RX6 21 "PocketKeeper$Row" "size" "I", Cond.methodLink RX2 39 yX6_needs, Cond.instanceMethod yX6_needs, Cond.selects RX6 yX6_needs yX6_needs, Cond.code yX6_needs cX6_needs 2 (some .int), Cond.fieldLink RX6 9 "PocketKeeper$Row" "needsAsTold" "[I", Cond.fieldLink RX6 15 "PocketKeeper$Row" "numbers" "[I", Cond.methodLink RX2 58 yX6_broken, Cond.instanceMethod yX6_broken, Cond.selects RX6 yX6_broken yX6_broken, Cond.code yX6_broken cX6_broken 2 (some .int), Cond.fieldLink RX6 18 "PocketKeeper$Row" "broken" "[I", Cond.methodLink RX2 43 yX3_sizeOf, Cond.instanceMethod yX3_sizeOf, Cond.selects RX3 yX3_sizeOf yX3_sizeOf]
noncomputable def wsX2_costIfKept_r2 : List Cond := [Cond.initialized RX3, Cond.code yX3_sizeOf cX3_sizeOf 2 (some .int), Cond.fieldLink RX3 15 "PocketKeeper$Magazine" "bigTools" "I", Cond.methodLink RX3 22 yJ6_bitCount_0f7a4, Cond.static yJ6_bitCount_0f7a4, Cond.initialized RJ6, Cond.code yJ6_bitCount_0f7a4 cJ6_bitCount_0f7a4 1 (some .int), Cond.constant RJ6 265 (1431655765), Cond.constant RJ6 266 (858993459), Cond.constant RJ6 267 (252645135), Cond.methodLink RX2 48 yX2_cell, Cond.static yX2_cell, Cond.initialized RX2, Cond.code yX2_cell cX2_cell 2 (some .int)]
noncomputable def wsX2_costIfKept : List Cond := .code yX2_costIfKept cX2_costIfKept 5 (some .int) :: ((wsX2_costIfKept_r1 ++ wsX2_costIfKept_r2) ++ wsX20 ++ wsX60 ++ wsX30)
noncomputable def wsX8_hasTool : List Cond := .code yX8_hasTool cX8_hasTool 2 (some .boolean) :: ([])
noncomputable def wsX2_costOfFewer : List Cond := .code yX2_costOfFewer cX2_costOfFewer 5 (some .int) :: ([.constant RX2 73 (2147483647), .fieldLink RX2 15 "PocketKeeper$LeastSearch" "costBehind" "[I", .methodLink RX2 78 Lib.Math.min.name, .static Lib.Math.min.name, .initialized "java/lang/Math", .code Lib.Math.min.name Lib.Math.min.code 2 (some .int), .static yX8_hasTool, .initialized RX8, .code yX8_hasTool cX8_hasTool 2 (some .boolean), .methodLink RX2 48 yX2_cell, .static yX2_cell, .initialized RX2, .code yX2_cell cX2_cell 2 (some .int)] ++ wsX20)
noncomputable def wsX2_subsetBehind : List Cond := .code yX2_subsetBehind cX2_subsetBehind 2 (some .int) :: ([])
noncomputable def wsX2_fillPlace_r1 : List Cond := [Cond.fieldLink RX2 9 "PocketKeeper$LeastSearch" "worthKeeping" "[I", Cond.fieldLink RX2 15 "PocketKeeper$LeastSearch" "costBehind" "[I", Cond.fieldLink RX2 22 "PocketKeeper$LeastSearch" "magazine" "LPocketKeeper$Magazine;", Cond.fieldLink RX2 18 "PocketKeeper$LeastSearch" "row" "LPocketKeeper$Row;", Cond.methodLink RX2 52 yX2_subsets, Cond.static yX2_subsets, Cond.initialized RX2, Cond.code yX2_subsets cX2_subsets 1 (some .int), Cond.methodLink RX2 83 yJ6_bitCount_0f7a4, Cond.static yJ6_bitCount_0f7a4, Cond.initialized RJ6, Cond.code yJ6_bitCount_0f7a4 cJ6_bitCount_0f7a4 1 (some .int), Cond.constant RJ6 265 (1431655765), Cond.constant RJ6 266 (858993459), Cond.constant RJ6 267 (252645135), Cond.methodLink RX2 48 yX2_cell, Cond.static yX2_cell, Cond.code yX2_cell cX2_cell 2 (some .int), Cond.methodLink RX2 39 yX6_needs, Cond.instanceMethod yX6_needs, Cond.selects RX6 yX6_needs yX6_needs, Cond.initialized RX6, Cond.code yX6_needs cX6_needs 2 (some .int), Cond.fieldLink RX6 9 "PocketKeeper$Row" "needsAsTold" "[I"]
noncomputable def wsX2_fillPlace_r2 : List Cond := [Cond.fieldLink RX6 15 "PocketKeeper$Row" "numbers" "[I", Cond.methodLink RX2 61 yX3_holds, Cond.instanceMethod yX3_holds, Cond.selects RX3 yX3_holds yX3_holds, Cond.initialized RX3, Cond.code yX3_holds cX3_holds 2 (some .boolean), Cond.fieldLink RX3 9 "PocketKeeper$Magazine" "room" "I", Cond.methodLink RX3 28 yX3_sizeOf, Cond.instanceMethod yX3_sizeOf, Cond.selects RX3 yX3_sizeOf yX3_sizeOf, Cond.code yX3_sizeOf cX3_sizeOf 2 (some .int), Cond.fieldLink RX3 15 "PocketKeeper$Magazine" "bigTools" "I", Cond.methodLink RX3 22 yJ6_bitCount_0f7a4, Cond.methodLink RX2 65 yX2_costIfKept, Cond.instanceMethod yX2_costIfKept, Cond.selects RX2 yX2_costIfKept yX2_costIfKept, Cond.code yX2_costIfKept cX2_costIfKept 5 (some .int), Cond.methodLink RX2 29 yX6_size, Cond.instanceMethod yX6_size, Cond.selects RX6 yX6_size yX6_size, Cond.code yX6_size cX6_size 1 (some .int), Cond.fieldLink RX6 21 "PocketKeeper$Row" "size" "I", Cond.methodLink RX2 58 yX6_broken, Cond.instanceMethod yX6_broken]
noncomputable def wsX2_fillPlace_r3 : List Cond := [Cond.selects RX6 yX6_broken yX6_broken, Cond.code yX6_broken cX6_broken 2 (some .int), Cond.fieldLink RX6 18 "PocketKeeper$Row" "broken" "[I", Cond.methodLink RX2 43 yX3_sizeOf, Cond.methodLink RX2 68 yX2_costOfFewer, Cond.instanceMethod yX2_costOfFewer, Cond.selects RX2 yX2_costOfFewer yX2_costOfFewer, Cond.code yX2_costOfFewer cX2_costOfFewer 5 (some .int), Cond.constant RX2 73 (2147483647), Cond.methodLink RX2 78 Lib.Math.min.name, Cond.static Lib.Math.min.name, Cond.initialized "java/lang/Math", Cond.code Lib.Math.min.name Lib.Math.min.code 2 (some .int), Cond.static yX8_hasTool, Cond.initialized RX8, Cond.code yX8_hasTool cX8_hasTool 2 (some .boolean), Cond.methodLink RX2 55 yX2_subsetBehind, Cond.static yX2_subsetBehind, Cond.code yX2_subsetBehind cX2_subsetBehind 2 (some .int)]
noncomputable def wsX2_fillPlace : List Cond := .code yX2_fillPlace cX2_fillPlace 4 none :: ((wsX2_fillPlace_r1 ++ (wsX2_fillPlace_r2 ++ wsX2_fillPlace_r3)) ++ wsX20 ++ wsX60 ++ wsX30)
noncomputable def wsX2_least_r1 : List Cond := [Cond.fieldLink RX2 18 "PocketKeeper$LeastSearch" "row" "LPocketKeeper$Row;", Cond.fieldLink RX2 22 "PocketKeeper$LeastSearch" "magazine" "LPocketKeeper$Magazine;", Cond.fieldLink RX2 15 "PocketKeeper$LeastSearch" "costBehind" "[I", Cond.methodLink RX2 26 yX2_findWorthKeeping, Cond.instanceMethod yX2_findWorthKeeping, Cond.selects RX2 yX2_findWorthKeeping yX2_findWorthKeeping, Cond.initialized RX2, Cond.code yX2_findWorthKeeping cX2_findWorthKeeping 4 none, Cond.fieldLink RX2 9 "PocketKeeper$LeastSearch" "worthKeeping" "[I", Cond.methodLink RX2 29 yX6_size, Cond.instanceMethod yX6_size, Cond.selects RX6 yX6_size yX6_size, Cond.initialized RX6, Cond.code yX6_size cX6_size 1 (some .int), Cond.fieldLink RX6 21 "PocketKeeper$Row" "size" "I", Cond.methodLink RX2 39 yX6_needs, Cond.instanceMethod yX6_needs, Cond.selects RX6 yX6_needs yX6_needs, Cond.code yX6_needs cX6_needs 2 (some .int), Cond.fieldLink RX6 9 "PocketKeeper$Row" "needsAsTold" "[I", Cond.fieldLink RX6 15 "PocketKeeper$Row" "numbers" "[I", Cond.methodLink RX2 58 yX6_broken, Cond.instanceMethod yX6_broken, Cond.selects RX6 yX6_broken yX6_broken]
noncomputable def wsX2_least_r2 : List Cond := [Cond.code yX6_broken cX6_broken 2 (some .int), Cond.fieldLink RX6 18 "PocketKeeper$Row" "broken" "[I", Cond.methodLink RX2 35 yX2_fillPlace, Cond.instanceMethod yX2_fillPlace, Cond.selects RX2 yX2_fillPlace yX2_fillPlace, Cond.code yX2_fillPlace cX2_fillPlace 4 none, Cond.methodLink RX2 52 yX2_subsets, Cond.static yX2_subsets, Cond.code yX2_subsets cX2_subsets 1 (some .int), Cond.methodLink RX2 83 yJ6_bitCount_0f7a4, Cond.static yJ6_bitCount_0f7a4, Cond.initialized RJ6, Cond.code yJ6_bitCount_0f7a4 cJ6_bitCount_0f7a4 1 (some .int), Cond.constant RJ6 265 (1431655765), Cond.constant RJ6 266 (858993459), Cond.constant RJ6 267 (252645135), Cond.methodLink RX2 48 yX2_cell, Cond.static yX2_cell, Cond.code yX2_cell cX2_cell 2 (some .int), Cond.methodLink RX2 61 yX3_holds, Cond.instanceMethod yX3_holds, Cond.selects RX3 yX3_holds yX3_holds, Cond.initialized RX3, Cond.code yX3_holds cX3_holds 2 (some .boolean)]
noncomputable def wsX2_least_r3 : List Cond := [Cond.fieldLink RX3 9 "PocketKeeper$Magazine" "room" "I", Cond.methodLink RX3 28 yX3_sizeOf, Cond.instanceMethod yX3_sizeOf, Cond.selects RX3 yX3_sizeOf yX3_sizeOf, Cond.code yX3_sizeOf cX3_sizeOf 2 (some .int), Cond.fieldLink RX3 15 "PocketKeeper$Magazine" "bigTools" "I", Cond.methodLink RX3 22 yJ6_bitCount_0f7a4, Cond.methodLink RX2 65 yX2_costIfKept, Cond.instanceMethod yX2_costIfKept, Cond.selects RX2 yX2_costIfKept yX2_costIfKept, Cond.code yX2_costIfKept cX2_costIfKept 5 (some .int), Cond.methodLink RX2 43 yX3_sizeOf, Cond.methodLink RX2 68 yX2_costOfFewer, Cond.instanceMethod yX2_costOfFewer, Cond.selects RX2 yX2_costOfFewer yX2_costOfFewer, Cond.code yX2_costOfFewer cX2_costOfFewer 5 (some .int), Cond.constant RX2 73 (2147483647), Cond.methodLink RX2 78 Lib.Math.min.name, Cond.static Lib.Math.min.name, Cond.initialized "java/lang/Math", Cond.code Lib.Math.min.name Lib.Math.min.code 2 (some .int), Cond.static yX8_hasTool, Cond.initialized RX8, Cond.code yX8_hasTool cX8_hasTool 2 (some .boolean)]
noncomputable def wsX2_least_r4 : List Cond := [Cond.methodLink RX2 55 yX2_subsetBehind, Cond.static yX2_subsetBehind, Cond.code yX2_subsetBehind cX2_subsetBehind 2 (some .int)]
noncomputable def wsX2_least : List Cond := .code yX2_least cX2_least 2 (some .int) :: ((wsX2_least_r1 ++ (wsX2_least_r2 ++ (wsX2_least_r3 ++ wsX2_least_r4))) ++ wsX20 ++ wsX60 ++ wsX30)
noncomputable def wsX6_exchange : List Cond := .code yX6_exchange cX6_exchange 4 none :: ([.fieldLink RX6 15 "PocketKeeper$Row" "numbers" "[I"] ++ wsX60)
noncomputable def wsX0_note : List Cond := .code yX0_note cX0_note 4 none :: ([.fieldLink RX0 17 "PocketKeeper$Exchange" "found" "Z", .fieldLink RX0 21 "PocketKeeper$Exchange" "first" "I", .fieldLink RX0 25 "PocketKeeper$Exchange" "second" "I", .fieldLink RX0 28 "PocketKeeper$Exchange" "leastThen" "I"] ++ wsX00)
noncomputable def wsX0_find_r1 : List Cond := [Cond.fieldLink RX0 17 "PocketKeeper$Exchange" "found" "Z", Cond.fieldLink RX0 13 "PocketKeeper$Exchange" "search" "LPocketKeeper$LeastSearch;", Cond.fieldLink RX0 28 "PocketKeeper$Exchange" "leastThen" "I", Cond.fieldLink RX0 7 "PocketKeeper$Exchange" "row" "LPocketKeeper$Row;", Cond.methodLink RX0 31 yX2_least, Cond.instanceMethod yX2_least, Cond.selects RX2 yX2_least yX2_least, Cond.initialized RX2, Cond.code yX2_least cX2_least 2 (some .int), Cond.fieldLink RX2 18 "PocketKeeper$LeastSearch" "row" "LPocketKeeper$Row;", Cond.fieldLink RX2 22 "PocketKeeper$LeastSearch" "magazine" "LPocketKeeper$Magazine;", Cond.fieldLink RX2 15 "PocketKeeper$LeastSearch" "costBehind" "[I", Cond.methodLink RX2 26 yX2_findWorthKeeping, Cond.instanceMethod yX2_findWorthKeeping, Cond.selects RX2 yX2_findWorthKeeping yX2_findWorthKeeping, Cond.code yX2_findWorthKeeping cX2_findWorthKeeping 4 none, Cond.fieldLink RX2 9 "PocketKeeper$LeastSearch" "worthKeeping" "[I", Cond.methodLink RX2 29 yX6_size, Cond.instanceMethod yX6_size, Cond.selects RX6 yX6_size yX6_size, Cond.initialized RX6, Cond.code yX6_size cX6_size 1 (some .int), Cond.fieldLink RX6 21 "PocketKeeper$Row" "size" "I", Cond.methodLink RX2 39 yX6_needs]
noncomputable def wsX0_find_r2 : List Cond := [Cond.instanceMethod yX6_needs, Cond.selects RX6 yX6_needs yX6_needs, Cond.code yX6_needs cX6_needs 2 (some .int), Cond.fieldLink RX6 9 "PocketKeeper$Row" "needsAsTold" "[I", Cond.fieldLink RX6 15 "PocketKeeper$Row" "numbers" "[I", Cond.methodLink RX2 58 yX6_broken, Cond.instanceMethod yX6_broken, Cond.selects RX6 yX6_broken yX6_broken, Cond.code yX6_broken cX6_broken 2 (some .int), Cond.fieldLink RX6 18 "PocketKeeper$Row" "broken" "[I", Cond.methodLink RX2 35 yX2_fillPlace, Cond.instanceMethod yX2_fillPlace, Cond.selects RX2 yX2_fillPlace yX2_fillPlace, Cond.code yX2_fillPlace cX2_fillPlace 4 none, Cond.methodLink RX2 52 yX2_subsets, Cond.static yX2_subsets, Cond.code yX2_subsets cX2_subsets 1 (some .int), Cond.methodLink RX2 83 yJ6_bitCount_0f7a4, Cond.static yJ6_bitCount_0f7a4, Cond.initialized RJ6, Cond.code yJ6_bitCount_0f7a4 cJ6_bitCount_0f7a4 1 (some .int), Cond.constant RJ6 265 (1431655765), Cond.constant RJ6 266 (858993459), Cond.constant RJ6 267 (252645135)]
noncomputable def wsX0_find_r3 : List Cond := [Cond.methodLink RX2 48 yX2_cell, Cond.static yX2_cell, Cond.code yX2_cell cX2_cell 2 (some .int), Cond.methodLink RX2 61 yX3_holds, Cond.instanceMethod yX3_holds, Cond.selects RX3 yX3_holds yX3_holds, Cond.initialized RX3, Cond.code yX3_holds cX3_holds 2 (some .boolean), Cond.fieldLink RX3 9 "PocketKeeper$Magazine" "room" "I", Cond.methodLink RX3 28 yX3_sizeOf, Cond.instanceMethod yX3_sizeOf, Cond.selects RX3 yX3_sizeOf yX3_sizeOf, Cond.code yX3_sizeOf cX3_sizeOf 2 (some .int), Cond.fieldLink RX3 15 "PocketKeeper$Magazine" "bigTools" "I", Cond.methodLink RX3 22 yJ6_bitCount_0f7a4, Cond.methodLink RX2 65 yX2_costIfKept, Cond.instanceMethod yX2_costIfKept, Cond.selects RX2 yX2_costIfKept yX2_costIfKept, Cond.code yX2_costIfKept cX2_costIfKept 5 (some .int), Cond.methodLink RX2 43 yX3_sizeOf, Cond.methodLink RX2 68 yX2_costOfFewer, Cond.instanceMethod yX2_costOfFewer, Cond.selects RX2 yX2_costOfFewer yX2_costOfFewer, Cond.code yX2_costOfFewer cX2_costOfFewer 5 (some .int)]
noncomputable def wsX0_find_r4 : List Cond := [Cond.constant RX2 73 (2147483647), Cond.methodLink RX2 78 Lib.Math.min.name, Cond.static Lib.Math.min.name, Cond.initialized "java/lang/Math", Cond.code Lib.Math.min.name Lib.Math.min.code 2 (some .int), Cond.static yX8_hasTool, Cond.initialized RX8, Cond.code yX8_hasTool cX8_hasTool 2 (some .boolean), Cond.methodLink RX2 55 yX2_subsetBehind, Cond.static yX2_subsetBehind, Cond.code yX2_subsetBehind cX2_subsetBehind 2 (some .int), Cond.methodLink RX0 37 yX6_size, Cond.methodLink RX0 42 yX6_exchange, Cond.instanceMethod yX6_exchange, Cond.selects RX6 yX6_exchange yX6_exchange, Cond.code yX6_exchange cX6_exchange 4 none, Cond.methodLink RX0 46 yX0_note, Cond.instanceMethod yX0_note, Cond.selects RX0 yX0_note yX0_note, Cond.initialized RX0, Cond.code yX0_note cX0_note 4 none, Cond.fieldLink RX0 21 "PocketKeeper$Exchange" "first" "I", Cond.fieldLink RX0 25 "PocketKeeper$Exchange" "second" "I"]
noncomputable def wsX0_find : List Cond := .code yX0_find cX0_find 4 none :: ((wsX0_find_r1 ++ (wsX0_find_r2 ++ (wsX0_find_r3 ++ wsX0_find_r4))) ++ wsX00 ++ wsX20 ++ wsX60 ++ wsX30)
noncomputable def wsX1_init : List Cond := .code yX1_init cX1_init 3 none :: ([.methodLink RX1 3 objectInit, .instanceMethod objectInit, .code objectInit ⟨#[0xb1]⟩ 1 none, .arrayClass .int, .fieldLink RX1 9 "PocketKeeper$Keeping" "inside" "[I", .fieldLink RX1 15 "PocketKeeper$Keeping" "coming" "[I", .fieldLink RX1 18 "PocketKeeper$Keeping" "going" "[I", .fieldLink RX1 21 "PocketKeeper$Keeping" "row" "LPocketKeeper$Row;", .fieldLink RX1 25 "PocketKeeper$Keeping" "magazine" "LPocketKeeper$Magazine;"] ++ wsX50 ++ wsX70)
noncomputable def wsX2_leastSetAtLeastCost : List Cond := .code yX2_leastSetAtLeastCost cX2_leastSetAtLeastCost 7 (some .int) :: ([.fieldLink RX2 9 "PocketKeeper$LeastSearch" "worthKeeping" "[I", .fieldLink RX2 15 "PocketKeeper$LeastSearch" "costBehind" "[I", .methodLink RX2 48 yX2_cell, .static yX2_cell, .initialized RX2, .code yX2_cell cX2_cell 2 (some .int), .methodLink RX2 52 yX2_subsets, .static yX2_subsets, .code yX2_subsets cX2_subsets 1 (some .int), .methodLink RX2 83 yJ6_bitCount_0f7a4, .static yJ6_bitCount_0f7a4, .initialized RJ6, .code yJ6_bitCount_0f7a4 cJ6_bitCount_0f7a4 1 (some .int), .constant RJ6 265 (1431655765), .constant RJ6 266 (858993459), .constant RJ6 267 (252645135), .methodLink RX2 55 yX2_subsetBehind, .static yX2_subsetBehind, .code yX2_subsetBehind cX2_subsetBehind 2 (some .int)] ++ wsX20)
noncomputable def wsX5_staying : List Cond := .code yX5_staying cX5_staying 3 (some .int) :: ([.fieldLink RX5 7 "PocketKeeper$PlanKeeping" "search" "LPocketKeeper$LeastSearch;", .methodLink RX5 13 yX2_leastSetAtLeastCost, .instanceMethod yX2_leastSetAtLeastCost, .selects RX2 yX2_leastSetAtLeastCost yX2_leastSetAtLeastCost, .initialized RX2, .code yX2_leastSetAtLeastCost cX2_leastSetAtLeastCost 7 (some .int), .fieldLink RX2 9 "PocketKeeper$LeastSearch" "worthKeeping" "[I", .fieldLink RX2 15 "PocketKeeper$LeastSearch" "costBehind" "[I", .methodLink RX2 48 yX2_cell, .static yX2_cell, .code yX2_cell cX2_cell 2 (some .int), .methodLink RX2 52 yX2_subsets, .static yX2_subsets, .code yX2_subsets cX2_subsets 1 (some .int), .methodLink RX2 83 yJ6_bitCount_0f7a4, .static yJ6_bitCount_0f7a4, .initialized RJ6, .code yJ6_bitCount_0f7a4 cJ6_bitCount_0f7a4 1 (some .int), .constant RJ6 265 (1431655765), .constant RJ6 266 (858993459), .constant RJ6 267 (252645135), .methodLink RX2 55 yX2_subsetBehind, .static yX2_subsetBehind, .code yX2_subsetBehind cX2_subsetBehind 2 (some .int)] ++ wsX50 ++ wsX20)
noncomputable def wsX6_nextPlace : List Cond := .code yX6_nextPlace cX6_nextPlace 4 (some .int) :: ([.fieldLink RX6 21 "PocketKeeper$Row" "size" "I", .fieldLink RX6 18 "PocketKeeper$Row" "broken" "[I", .static yX8_hasTool, .initialized RX8, .code yX8_hasTool cX8_hasTool 2 (some .boolean), .methodLink RX6 56 yX6_needs, .instanceMethod yX6_needs, .selects RX6 yX6_needs yX6_needs, .initialized RX6, .code yX6_needs cX6_needs 2 (some .int), .fieldLink RX6 9 "PocketKeeper$Row" "needsAsTold" "[I", .fieldLink RX6 15 "PocketKeeper$Row" "numbers" "[I"] ++ wsX60)
noncomputable def wsX3_bigTools : List Cond := .code yX3_bigTools cX3_bigTools 1 (some .int) :: ([.fieldLink RX3 15 "PocketKeeper$Magazine" "bigTools" "I"] ++ wsX30)
noncomputable def wsX7_rank_r1 : List Cond := [Cond.fieldLink RX7 15 "PocketKeeper$SoonestKeeping" "row" "LPocketKeeper$Row;", Cond.sameField "PocketKeeper$SoonestKeeping" "PocketKeeper$Keeping" "row" "LPocketKeeper$Row;", Cond.fieldLink RX7 9 "PocketKeeper$SoonestKeeping" "magazine" "LPocketKeeper$Magazine;", Cond.sameField "PocketKeeper$SoonestKeeping" "PocketKeeper$Keeping" "magazine" "LPocketKeeper$Magazine;", Cond.methodLink RX7 42 yX6_nextPlace, Cond.instanceMethod yX6_nextPlace, Cond.selects RX6 yX6_nextPlace yX6_nextPlace, Cond.initialized RX6, Cond.code yX6_nextPlace cX6_nextPlace 4 (some .int), Cond.fieldLink RX6 21 "PocketKeeper$Row" "size" "I", Cond.fieldLink RX6 18 "PocketKeeper$Row" "broken" "[I", Cond.static yX8_hasTool, Cond.initialized RX8, Cond.code yX8_hasTool cX8_hasTool 2 (some .boolean), Cond.methodLink RX6 56 yX6_needs, Cond.instanceMethod yX6_needs, Cond.selects RX6 yX6_needs yX6_needs, Cond.code yX6_needs cX6_needs 2 (some .int), Cond.fieldLink RX6 9 "PocketKeeper$Row" "needsAsTold" "[I", Cond.fieldLink RX6 15 "PocketKeeper$Row" "numbers" "[I", Cond.methodLink RX7 45 yX3_bigTools, Cond.instanceMethod yX3_bigTools, Cond.selects RX3 yX3_bigTools yX3_bigTools, Cond.initialized RX3]
noncomputable def wsX7_rank_r2 : List Cond := [Cond.code yX3_bigTools cX3_bigTools 1 (some .int), Cond.fieldLink RX3 15 "PocketKeeper$Magazine" "bigTools" "I"]
noncomputable def wsX7_rank : List Cond := .code yX7_rank cX7_rank 5 (some .int) :: ((wsX7_rank_r1 ++ wsX7_rank_r2) ++ wsX50 ++ wsX70 ++ wsX60 ++ wsX30)
noncomputable def wsX7_firstToGo_r1 : List Cond := [Cond.static yX8_hasTool, Cond.initialized RX8, Cond.code yX8_hasTool cX8_hasTool 2 (some .boolean), Cond.methodLink RX7 39 yX7_rank, Cond.instanceMethod yX7_rank, Cond.selects RX7 yX7_rank yX7_rank, Cond.initialized RX7, Cond.code yX7_rank cX7_rank 5 (some .int), Cond.fieldLink RX7 15 "PocketKeeper$SoonestKeeping" "row" "LPocketKeeper$Row;", Cond.sameField "PocketKeeper$SoonestKeeping" "PocketKeeper$Keeping" "row" "LPocketKeeper$Row;", Cond.fieldLink RX7 9 "PocketKeeper$SoonestKeeping" "magazine" "LPocketKeeper$Magazine;", Cond.sameField "PocketKeeper$SoonestKeeping" "PocketKeeper$Keeping" "magazine" "LPocketKeeper$Magazine;", Cond.methodLink RX7 42 yX6_nextPlace, Cond.instanceMethod yX6_nextPlace, Cond.selects RX6 yX6_nextPlace yX6_nextPlace, Cond.initialized RX6, Cond.code yX6_nextPlace cX6_nextPlace 4 (some .int), Cond.fieldLink RX6 21 "PocketKeeper$Row" "size" "I", Cond.fieldLink RX6 18 "PocketKeeper$Row" "broken" "[I", Cond.methodLink RX6 56 yX6_needs, Cond.instanceMethod yX6_needs, Cond.selects RX6 yX6_needs yX6_needs, Cond.code yX6_needs cX6_needs 2 (some .int), Cond.fieldLink RX6 9 "PocketKeeper$Row" "needsAsTold" "[I"]
noncomputable def wsX7_firstToGo_r2 : List Cond := [Cond.fieldLink RX6 15 "PocketKeeper$Row" "numbers" "[I", Cond.methodLink RX7 45 yX3_bigTools, Cond.instanceMethod yX3_bigTools, Cond.selects RX3 yX3_bigTools yX3_bigTools, Cond.initialized RX3, Cond.code yX3_bigTools cX3_bigTools 1 (some .int), Cond.fieldLink RX3 15 "PocketKeeper$Magazine" "bigTools" "I"]
noncomputable def wsX7_firstToGo : List Cond := .code yX7_firstToGo cX7_firstToGo 6 (some .int) :: ((wsX7_firstToGo_r1 ++ wsX7_firstToGo_r2) ++ wsX50 ++ wsX70 ++ wsX60 ++ wsX30)
noncomputable def wsX7_staying_r1 : List Cond := [Cond.fieldLink RX7 9 "PocketKeeper$SoonestKeeping" "magazine" "LPocketKeeper$Magazine;", Cond.sameField "PocketKeeper$SoonestKeeping" "PocketKeeper$Keeping" "magazine" "LPocketKeeper$Magazine;", Cond.fieldLink RX7 15 "PocketKeeper$SoonestKeeping" "row" "LPocketKeeper$Row;", Cond.sameField "PocketKeeper$SoonestKeeping" "PocketKeeper$Keeping" "row" "LPocketKeeper$Row;", Cond.methodLink RX7 19 yX6_needs, Cond.instanceMethod yX6_needs, Cond.selects RX6 yX6_needs yX6_needs, Cond.initialized RX6, Cond.code yX6_needs cX6_needs 2 (some .int), Cond.fieldLink RX6 9 "PocketKeeper$Row" "needsAsTold" "[I", Cond.fieldLink RX6 15 "PocketKeeper$Row" "numbers" "[I", Cond.methodLink RX7 25 yX3_holds, Cond.instanceMethod yX3_holds, Cond.selects RX3 yX3_holds yX3_holds, Cond.initialized RX3, Cond.code yX3_holds cX3_holds 2 (some .boolean), Cond.fieldLink RX3 9 "PocketKeeper$Magazine" "room" "I", Cond.methodLink RX3 28 yX3_sizeOf, Cond.instanceMethod yX3_sizeOf, Cond.selects RX3 yX3_sizeOf yX3_sizeOf, Cond.code yX3_sizeOf cX3_sizeOf 2 (some .int), Cond.fieldLink RX3 15 "PocketKeeper$Magazine" "bigTools" "I", Cond.methodLink RX3 22 yJ6_bitCount_0f7a4, Cond.static yJ6_bitCount_0f7a4]
noncomputable def wsX7_staying_r2 : List Cond := [Cond.initialized RJ6, Cond.code yJ6_bitCount_0f7a4 cJ6_bitCount_0f7a4 1 (some .int), Cond.constant RJ6 265 (1431655765), Cond.constant RJ6 266 (858993459), Cond.constant RJ6 267 (252645135), Cond.methodLink RX7 31 yX7_firstToGo, Cond.instanceMethod yX7_firstToGo, Cond.selects RX7 yX7_firstToGo yX7_firstToGo, Cond.initialized RX7, Cond.code yX7_firstToGo cX7_firstToGo 6 (some .int), Cond.static yX8_hasTool, Cond.initialized RX8, Cond.code yX8_hasTool cX8_hasTool 2 (some .boolean), Cond.methodLink RX7 39 yX7_rank, Cond.instanceMethod yX7_rank, Cond.selects RX7 yX7_rank yX7_rank, Cond.code yX7_rank cX7_rank 5 (some .int), Cond.methodLink RX7 42 yX6_nextPlace, Cond.instanceMethod yX6_nextPlace, Cond.selects RX6 yX6_nextPlace yX6_nextPlace, Cond.code yX6_nextPlace cX6_nextPlace 4 (some .int), Cond.fieldLink RX6 21 "PocketKeeper$Row" "size" "I", Cond.fieldLink RX6 18 "PocketKeeper$Row" "broken" "[I", Cond.methodLink RX6 56 yX6_needs]
noncomputable def wsX7_staying_r3 : List Cond := [Cond.methodLink RX7 45 yX3_bigTools, Cond.instanceMethod yX3_bigTools, Cond.selects RX3 yX3_bigTools yX3_bigTools, Cond.code yX3_bigTools cX3_bigTools 1 (some .int)]
noncomputable def wsX7_staying : List Cond := .code yX7_staying cX7_staying 5 (some .int) :: ((wsX7_staying_r1 ++ (wsX7_staying_r2 ++ wsX7_staying_r3)) ++ wsX50 ++ wsX70 ++ wsX60 ++ wsX30)
noncomputable def wsX1_keepAll_r1 : List Cond := [Cond.fieldLink RX1 21 "PocketKeeper$Keeping" "row" "LPocketKeeper$Row;", Cond.fieldLink RX1 9 "PocketKeeper$Keeping" "inside" "[I", Cond.fieldLink RX1 15 "PocketKeeper$Keeping" "coming" "[I", Cond.fieldLink RX1 18 "PocketKeeper$Keeping" "going" "[I", Cond.methodLink RX1 29 yX6_size, Cond.instanceMethod yX6_size, Cond.selects RX6 yX6_size yX6_size, Cond.initialized RX6, Cond.code yX6_size cX6_size 1 (some .int), Cond.fieldLink RX6 21 "PocketKeeper$Row" "size" "I", Cond.methodLink RX1 35 yX6_needs, Cond.instanceMethod yX6_needs, Cond.selects RX6 yX6_needs yX6_needs, Cond.code yX6_needs cX6_needs 2 (some .int), Cond.fieldLink RX6 9 "PocketKeeper$Row" "needsAsTold" "[I", Cond.fieldLink RX6 15 "PocketKeeper$Row" "numbers" "[I", Cond.methodLink RX1 39 ⟨"PocketKeeper$Keeping", "staying", "(II)I"⟩, Cond.sameMethod "PocketKeeper$Keeping" "PocketKeeper$Keeping" "staying" "(II)I", Cond.selects RX5 ⟨"PocketKeeper$Keeping", "staying", "(II)I"⟩ yX5_staying, Cond.instanceMethod yX5_staying, Cond.initialized RX5, Cond.code yX5_staying cX5_staying 3 (some .int), Cond.fieldLink RX5 7 "PocketKeeper$PlanKeeping" "search" "LPocketKeeper$LeastSearch;", Cond.methodLink RX5 13 yX2_leastSetAtLeastCost]
noncomputable def wsX1_keepAll_r2 : List Cond := [Cond.instanceMethod yX2_leastSetAtLeastCost, Cond.selects RX2 yX2_leastSetAtLeastCost yX2_leastSetAtLeastCost, Cond.initialized RX2, Cond.code yX2_leastSetAtLeastCost cX2_leastSetAtLeastCost 7 (some .int), Cond.fieldLink RX2 9 "PocketKeeper$LeastSearch" "worthKeeping" "[I", Cond.fieldLink RX2 15 "PocketKeeper$LeastSearch" "costBehind" "[I", Cond.methodLink RX2 48 yX2_cell, Cond.static yX2_cell, Cond.code yX2_cell cX2_cell 2 (some .int), Cond.methodLink RX2 52 yX2_subsets, Cond.static yX2_subsets, Cond.code yX2_subsets cX2_subsets 1 (some .int), Cond.methodLink RX2 83 yJ6_bitCount_0f7a4, Cond.static yJ6_bitCount_0f7a4, Cond.initialized RJ6, Cond.code yJ6_bitCount_0f7a4 cJ6_bitCount_0f7a4 1 (some .int), Cond.constant RJ6 265 (1431655765), Cond.constant RJ6 266 (858993459), Cond.constant RJ6 267 (252645135), Cond.methodLink RX2 55 yX2_subsetBehind, Cond.static yX2_subsetBehind, Cond.code yX2_subsetBehind cX2_subsetBehind 2 (some .int), Cond.selects RX7 ⟨"PocketKeeper$Keeping", "staying", "(II)I"⟩ yX7_staying, Cond.instanceMethod yX7_staying]
noncomputable def wsX1_keepAll_r3 : List Cond := [Cond.initialized RX7, Cond.code yX7_staying cX7_staying 5 (some .int), Cond.fieldLink RX7 9 "PocketKeeper$SoonestKeeping" "magazine" "LPocketKeeper$Magazine;", Cond.sameField "PocketKeeper$SoonestKeeping" "PocketKeeper$Keeping" "magazine" "LPocketKeeper$Magazine;", Cond.fieldLink RX7 15 "PocketKeeper$SoonestKeeping" "row" "LPocketKeeper$Row;", Cond.sameField "PocketKeeper$SoonestKeeping" "PocketKeeper$Keeping" "row" "LPocketKeeper$Row;", Cond.methodLink RX7 19 yX6_needs, Cond.methodLink RX7 25 yX3_holds, Cond.instanceMethod yX3_holds, Cond.selects RX3 yX3_holds yX3_holds, Cond.initialized RX3, Cond.code yX3_holds cX3_holds 2 (some .boolean), Cond.fieldLink RX3 9 "PocketKeeper$Magazine" "room" "I", Cond.methodLink RX3 28 yX3_sizeOf, Cond.instanceMethod yX3_sizeOf, Cond.selects RX3 yX3_sizeOf yX3_sizeOf, Cond.code yX3_sizeOf cX3_sizeOf 2 (some .int), Cond.fieldLink RX3 15 "PocketKeeper$Magazine" "bigTools" "I", Cond.methodLink RX3 22 yJ6_bitCount_0f7a4, Cond.methodLink RX7 31 yX7_firstToGo, Cond.instanceMethod yX7_firstToGo, Cond.selects RX7 yX7_firstToGo yX7_firstToGo, Cond.code yX7_firstToGo cX7_firstToGo 6 (some .int), Cond.static yX8_hasTool]
noncomputable def wsX1_keepAll_r4 : List Cond := [Cond.initialized RX8, Cond.code yX8_hasTool cX8_hasTool 2 (some .boolean), Cond.methodLink RX7 39 yX7_rank, Cond.instanceMethod yX7_rank, Cond.selects RX7 yX7_rank yX7_rank, Cond.code yX7_rank cX7_rank 5 (some .int), Cond.methodLink RX7 42 yX6_nextPlace, Cond.instanceMethod yX6_nextPlace, Cond.selects RX6 yX6_nextPlace yX6_nextPlace, Cond.code yX6_nextPlace cX6_nextPlace 4 (some .int), Cond.fieldLink RX6 18 "PocketKeeper$Row" "broken" "[I", Cond.methodLink RX6 56 yX6_needs, Cond.methodLink RX7 45 yX3_bigTools, Cond.instanceMethod yX3_bigTools, Cond.selects RX3 yX3_bigTools yX3_bigTools, Cond.code yX3_bigTools cX3_bigTools 1 (some .int), Cond.methodLink RX1 43 yX6_broken, Cond.instanceMethod yX6_broken, Cond.selects RX6 yX6_broken yX6_broken, Cond.code yX6_broken cX6_broken 2 (some .int)]
noncomputable def wsX1_keepAll : List Cond := .code yX1_keepAll cX1_keepAll 4 none :: ((wsX1_keepAll_r1 ++ (wsX1_keepAll_r2 ++ (wsX1_keepAll_r3 ++ wsX1_keepAll_r4))) ++ wsX50 ++ wsX70 ++ wsX60 ++ wsX20 ++ wsX30)
noncomputable def wsX1_inside : List Cond := .code yX1_inside cX1_inside 2 (some .int) :: ([.fieldLink RX1 9 "PocketKeeper$Keeping" "inside" "[I"] ++ wsX50 ++ wsX70)
noncomputable def wsX1_coming : List Cond := .code yX1_coming cX1_coming 2 (some .int) :: ([.fieldLink RX1 15 "PocketKeeper$Keeping" "coming" "[I"] ++ wsX50 ++ wsX70)
noncomputable def wsX1_going : List Cond := .code yX1_going cX1_going 2 (some .int) :: ([.fieldLink RX1 18 "PocketKeeper$Keeping" "going" "[I"] ++ wsX50 ++ wsX70)
noncomputable def wsX1_totalCost : List Cond := .code yX1_totalCost cX1_totalCost 3 (some .int) :: ([.fieldLink RX1 21 "PocketKeeper$Keeping" "row" "LPocketKeeper$Row;", .fieldLink RX1 25 "PocketKeeper$Keeping" "magazine" "LPocketKeeper$Magazine;", .fieldLink RX1 15 "PocketKeeper$Keeping" "coming" "[I", .methodLink RX1 29 yX6_size, .instanceMethod yX6_size, .selects RX6 yX6_size yX6_size, .initialized RX6, .code yX6_size cX6_size 1 (some .int), .fieldLink RX6 21 "PocketKeeper$Row" "size" "I", .methodLink RX1 46 yX3_sizeOf, .instanceMethod yX3_sizeOf, .selects RX3 yX3_sizeOf yX3_sizeOf, .initialized RX3, .code yX3_sizeOf cX3_sizeOf 2 (some .int), .fieldLink RX3 15 "PocketKeeper$Magazine" "bigTools" "I", .methodLink RX3 22 yJ6_bitCount_0f7a4, .static yJ6_bitCount_0f7a4, .initialized RJ6, .code yJ6_bitCount_0f7a4 cJ6_bitCount_0f7a4 1 (some .int), .constant RJ6 265 (1431655765), .constant RJ6 266 (858993459), .constant RJ6 267 (252645135)] ++ wsX50 ++ wsX70 ++ wsX60 ++ wsX30)
noncomputable def wsX1_totalComing : List Cond := .code yX1_totalComing cX1_totalComing 3 (some .int) :: ([.fieldLink RX1 21 "PocketKeeper$Keeping" "row" "LPocketKeeper$Row;", .fieldLink RX1 15 "PocketKeeper$Keeping" "coming" "[I", .methodLink RX1 29 yX6_size, .instanceMethod yX6_size, .selects RX6 yX6_size yX6_size, .initialized RX6, .code yX6_size cX6_size 1 (some .int), .fieldLink RX6 21 "PocketKeeper$Row" "size" "I", .methodLink RX1 51 yJ6_bitCount_0f7a4, .static yJ6_bitCount_0f7a4, .initialized RJ6, .code yJ6_bitCount_0f7a4 cJ6_bitCount_0f7a4 1 (some .int), .constant RJ6 265 (1431655765), .constant RJ6 266 (858993459), .constant RJ6 267 (252645135)] ++ wsX50 ++ wsX70 ++ wsX60)
noncomputable def wsX2_init : List Cond := .code yX2_init cX2_init 3 none :: ([.methodLink RX2 3 objectInit, .instanceMethod objectInit, .code objectInit ⟨#[0xb1]⟩ 1 none, .arrayClass .int, .fieldLink RX2 9 "PocketKeeper$LeastSearch" "worthKeeping" "[I", .fieldLink RX2 15 "PocketKeeper$LeastSearch" "costBehind" "[I", .fieldLink RX2 18 "PocketKeeper$LeastSearch" "row" "LPocketKeeper$Row;", .fieldLink RX2 22 "PocketKeeper$LeastSearch" "magazine" "LPocketKeeper$Magazine;"] ++ wsX20)
noncomputable def wsX3_init : List Cond := .code yX3_init cX3_init 1 none :: ([.methodLink RX3 3 objectInit, .instanceMethod objectInit, .code objectInit ⟨#[0xb1]⟩ 1 none, .fieldLink RX3 9 "PocketKeeper$Magazine" "room" "I"] ++ wsX30)
noncomputable def wsX3_room : List Cond := .code yX3_room cX3_room 1 (some .int) :: ([.fieldLink RX3 9 "PocketKeeper$Magazine" "room" "I"] ++ wsX30)
noncomputable def wsX8_withTool : List Cond := .code yX8_withTool cX8_withTool 3 (some .int) :: ([])
noncomputable def wsX3_setBig : List Cond := .code yX3_setBig cX3_setBig 3 none :: ([.fieldLink RX3 15 "PocketKeeper$Magazine" "bigTools" "I", .static yX8_withTool, .initialized RX8, .code yX8_withTool cX8_withTool 3 (some .int)] ++ wsX30)
noncomputable def wsX3_setRoom : List Cond := .code yX3_setRoom cX3_setRoom 2 none :: ([.fieldLink RX3 9 "PocketKeeper$Magazine" "room" "I"] ++ wsX30)
noncomputable def wsX4_init : List Cond := .code yX4_init cX4_init 1 none :: ([.methodLink RX4 3 objectInit, .instanceMethod objectInit, .code objectInit ⟨#[0xb1]⟩ 1 none, .arrayClass .char, .fieldLink RX4 9 "PocketKeeper$Page" "letters" "[C"] ++ wsX40)
noncomputable def wsX4_length : List Cond := .code yX4_length cX4_length 1 (some .int) :: ([.fieldLink RX4 15 "PocketKeeper$Page" "length" "I"] ++ wsX40)
noncomputable def wsX4_isFull : List Cond := .code yX4_isFull cX4_isFull 1 (some .boolean) :: ([.fieldLink RX4 15 "PocketKeeper$Page" "length" "I"] ++ wsX40)
noncomputable def wsX4_write : List Cond := .code yX4_write cX4_write 2 none :: ([.fieldLink RX4 9 "PocketKeeper$Page" "letters" "[C", .fieldLink RX4 15 "PocketKeeper$Page" "length" "I", .methodLink RX4 19 yX4_isFull, .instanceMethod yX4_isFull, .selects RX4 yX4_isFull yX4_isFull, .initialized RX4, .code yX4_isFull cX4_isFull 1 (some .boolean)] ++ wsX40)
noncomputable def wsX4_wipe : List Cond := .code yX4_wipe cX4_wipe 1 none :: ([.fieldLink RX4 15 "PocketKeeper$Page" "length" "I"] ++ wsX40)
noncomputable def wsX4_codeAt : List Cond := .code yX4_codeAt cX4_codeAt 2 (some .int) :: ([.fieldLink RX4 15 "PocketKeeper$Page" "length" "I", .fieldLink RX4 9 "PocketKeeper$Page" "letters" "[C"] ++ wsX40)
noncomputable def wsX4_firstFault : List Cond := .code yX4_firstFault cX4_firstFault 5 (some .int) :: ([.fieldLink RX4 15 "PocketKeeper$Page" "length" "I", .fieldLink RX4 9 "PocketKeeper$Page" "letters" "[C"] ++ wsX40)
noncomputable def wsX4_isWhole : List Cond := .code yX4_isWhole cX4_isWhole 1 (some .boolean) :: ([.fieldLink RX4 15 "PocketKeeper$Page" "length" "I", .fieldLink RX4 9 "PocketKeeper$Page" "letters" "[C", .methodLink RX4 23 yX4_firstFault, .instanceMethod yX4_firstFault, .selects RX4 yX4_firstFault yX4_firstFault, .initialized RX4, .code yX4_firstFault cX4_firstFault 5 (some .int)] ++ wsX40)
noncomputable def wsX5_init : List Cond := .code yX5_init cX5_init 4 none :: ([.fieldLink RX5 7 "PocketKeeper$PlanKeeping" "search" "LPocketKeeper$LeastSearch;", .methodLink RX5 1 yX1_init, .instanceMethod yX1_init, .initialized RX1, .code yX1_init cX1_init 3 none, .methodLink RX1 3 objectInit, .instanceMethod objectInit, .code objectInit ⟨#[0xb1]⟩ 1 none, .arrayClass .int, .fieldLink RX1 9 "PocketKeeper$Keeping" "inside" "[I", .fieldLink RX1 15 "PocketKeeper$Keeping" "coming" "[I", .fieldLink RX1 18 "PocketKeeper$Keeping" "going" "[I", .fieldLink RX1 21 "PocketKeeper$Keeping" "row" "LPocketKeeper$Row;", .fieldLink RX1 25 "PocketKeeper$Keeping" "magazine" "LPocketKeeper$Magazine;"] ++ wsX50 ++ wsX70)
noncomputable def wsX6_init : List Cond := .code yX6_init cX6_init 1 none :: ([.methodLink RX6 3 objectInit, .instanceMethod objectInit, .code objectInit ⟨#[0xb1]⟩ 1 none, .arrayClass .int, .fieldLink RX6 9 "PocketKeeper$Row" "needsAsTold" "[I", .fieldLink RX6 15 "PocketKeeper$Row" "numbers" "[I", .fieldLink RX6 18 "PocketKeeper$Row" "broken" "[I"] ++ wsX60)
noncomputable def wsX6_changes : List Cond := .code yX6_changes cX6_changes 1 (some .int) :: ([.fieldLink RX6 25 "PocketKeeper$Row" "changes" "I"] ++ wsX60)
noncomputable def wsX6_reads : List Cond := .code yX6_reads cX6_reads 1 (some .int) :: ([.fieldLink RX6 28 "PocketKeeper$Row" "reads" "I"] ++ wsX60)
noncomputable def wsX6_isPlace : List Cond := .code yX6_isPlace cX6_isPlace 2 (some .boolean) :: ([.fieldLink RX6 21 "PocketKeeper$Row" "size" "I"] ++ wsX60)
noncomputable def wsX6_number : List Cond := .code yX6_number cX6_number 2 (some .int) :: ([.fieldLink RX6 15 "PocketKeeper$Row" "numbers" "[I"] ++ wsX60)
noncomputable def wsX6_clear : List Cond := .code yX6_clear cX6_clear 2 none :: ([.fieldLink RX6 9 "PocketKeeper$Row" "needsAsTold" "[I", .fieldLink RX6 15 "PocketKeeper$Row" "numbers" "[I", .fieldLink RX6 18 "PocketKeeper$Row" "broken" "[I", .fieldLink RX6 25 "PocketKeeper$Row" "changes" "I"] ++ wsX60)
noncomputable def wsX6_read_r1 : List Cond := [Cond.fieldLink RX6 9 "PocketKeeper$Row" "needsAsTold" "[I", Cond.fieldLink RX6 21 "PocketKeeper$Row" "size" "I", Cond.fieldLink RX6 28 "PocketKeeper$Row" "reads" "I", Cond.methodLink RX6 31 yX4_isWhole, Cond.instanceMethod yX4_isWhole, Cond.selects RX4 yX4_isWhole yX4_isWhole, Cond.initialized RX4, Cond.code yX4_isWhole cX4_isWhole 1 (some .boolean), Cond.fieldLink RX4 15 "PocketKeeper$Page" "length" "I", Cond.fieldLink RX4 9 "PocketKeeper$Page" "letters" "[C", Cond.methodLink RX4 23 yX4_firstFault, Cond.instanceMethod yX4_firstFault, Cond.selects RX4 yX4_firstFault yX4_firstFault, Cond.code yX4_firstFault cX4_firstFault 5 (some .int), Cond.methodLink RX6 37 yX6_clear, Cond.instanceMethod yX6_clear, Cond.selects RX6 yX6_clear yX6_clear, Cond.initialized RX6, Cond.code yX6_clear cX6_clear 2 none, Cond.fieldLink RX6 15 "PocketKeeper$Row" "numbers" "[I", Cond.fieldLink RX6 18 "PocketKeeper$Row" "broken" "[I", Cond.fieldLink RX6 25 "PocketKeeper$Row" "changes" "I", Cond.methodLink RX6 40 yX4_length, Cond.instanceMethod yX4_length]
noncomputable def wsX6_read_r2 : List Cond := [Cond.selects RX4 yX4_length yX4_length, Cond.code yX4_length cX4_length 1 (some .int), Cond.methodLink RX6 44 yX4_codeAt, Cond.instanceMethod yX4_codeAt, Cond.selects RX4 yX4_codeAt yX4_codeAt, Cond.code yX4_codeAt cX4_codeAt 2 (some .int)]
noncomputable def wsX6_read : List Cond := .code yX6_read cX6_read 4 (some .boolean) :: ((wsX6_read_r1 ++ wsX6_read_r2) ++ wsX60 ++ wsX40)
noncomputable def wsX6_setBreak : List Cond := .code yX6_setBreak cX6_setBreak 4 none :: ([.fieldLink RX6 18 "PocketKeeper$Row" "broken" "[I", .static yX8_withTool, .initialized RX8, .code yX8_withTool cX8_withTool 3 (some .int)] ++ wsX60)
noncomputable def wsX6_countChange : List Cond := .code yX6_countChange cX6_countChange 1 none :: ([.fieldLink RX6 25 "PocketKeeper$Row" "changes" "I"] ++ wsX60)
noncomputable def wsX6_allNeeds : List Cond := .code yX6_allNeeds cX6_allNeeds 3 (some .int) :: ([.fieldLink RX6 21 "PocketKeeper$Row" "size" "I", .methodLink RX6 56 yX6_needs, .instanceMethod yX6_needs, .selects RX6 yX6_needs yX6_needs, .initialized RX6, .code yX6_needs cX6_needs 2 (some .int), .fieldLink RX6 9 "PocketKeeper$Row" "needsAsTold" "[I", .fieldLink RX6 15 "PocketKeeper$Row" "numbers" "[I"] ++ wsX60)
noncomputable def wsX6_allBreaks : List Cond := .code yX6_allBreaks cX6_allBreaks 3 (some .int) :: ([.fieldLink RX6 21 "PocketKeeper$Row" "size" "I", .fieldLink RX6 18 "PocketKeeper$Row" "broken" "[I", .methodLink RX6 59 yJ6_bitCount_0f7a4, .static yJ6_bitCount_0f7a4, .initialized RJ6, .code yJ6_bitCount_0f7a4 cJ6_bitCount_0f7a4 1 (some .int), .constant RJ6 265 (1431655765), .constant RJ6 266 (858993459), .constant RJ6 267 (252645135)] ++ wsX60)
noncomputable def wsX7_init : List Cond := .code yX7_init cX7_init 3 none :: ([.methodLink RX7 3 yX1_init, .instanceMethod yX1_init, .initialized RX1, .code yX1_init cX1_init 3 none, .methodLink RX1 3 objectInit, .instanceMethod objectInit, .code objectInit ⟨#[0xb1]⟩ 1 none, .arrayClass .int, .fieldLink RX1 9 "PocketKeeper$Keeping" "inside" "[I", .fieldLink RX1 15 "PocketKeeper$Keeping" "coming" "[I", .fieldLink RX1 18 "PocketKeeper$Keeping" "going" "[I", .fieldLink RX1 21 "PocketKeeper$Keeping" "row" "LPocketKeeper$Row;", .fieldLink RX1 25 "PocketKeeper$Keeping" "magazine" "LPocketKeeper$Magazine;"] ++ wsX50 ++ wsX70)
noncomputable def wsX8_init_r1 : List Cond := [Cond.methodLink RX8 3 objectInit, Cond.instanceMethod objectInit, Cond.code objectInit ⟨#[0xb1]⟩ 1 none, Cond.classLink RX8 9 RX4, Cond.instantiable RX4 2, Cond.initialized RX4, Cond.fieldLink RX8 12 "PocketKeeper" "page" "LPocketKeeper$Page;", Cond.classLink RX8 16 RX3, Cond.instantiable RX3 2, Cond.initialized RX3, Cond.fieldLink RX8 19 "PocketKeeper" "magazine" "LPocketKeeper$Magazine;", Cond.classLink RX8 23 RX6, Cond.instantiable RX6 6, Cond.initialized RX6, Cond.fieldLink RX8 26 "PocketKeeper" "row" "LPocketKeeper$Row;", Cond.classLink RX8 30 RX2, Cond.instantiable RX2 4, Cond.initialized RX2, Cond.fieldLink RX8 35 "PocketKeeper" "search" "LPocketKeeper$LeastSearch;", Cond.classLink RX8 39 RX7, Cond.instantiable RX7 5, Cond.initialized RX7, Cond.fieldLink RX8 42 "PocketKeeper" "bySoonest" "LPocketKeeper$Keeping;", Cond.classLink RX8 46 RX5]
noncomputable def wsX8_init_r2 : List Cond := [Cond.instantiable RX5 6, Cond.initialized RX5, Cond.fieldLink RX8 51 "PocketKeeper" "byPlan" "LPocketKeeper$Keeping;", Cond.classLink RX8 54 RX0, Cond.instantiable RX0 6, Cond.initialized RX0, Cond.fieldLink RX8 59 "PocketKeeper" "exchange" "LPocketKeeper$Exchange;", Cond.instanceMethod yX4_init, Cond.code yX4_init cX4_init 1 none, Cond.methodLink RX4 3 objectInit, Cond.arrayClass .char, Cond.fieldLink RX4 9 "PocketKeeper$Page" "letters" "[C", Cond.instanceMethod yX3_init, Cond.code yX3_init cX3_init 1 none, Cond.methodLink RX3 3 objectInit, Cond.fieldLink RX3 9 "PocketKeeper$Magazine" "room" "I", Cond.instanceMethod yX6_init, Cond.code yX6_init cX6_init 1 none, Cond.methodLink RX6 3 objectInit, Cond.arrayClass .int, Cond.fieldLink RX6 9 "PocketKeeper$Row" "needsAsTold" "[I", Cond.fieldLink RX6 15 "PocketKeeper$Row" "numbers" "[I", Cond.fieldLink RX6 18 "PocketKeeper$Row" "broken" "[I", Cond.methodLink RX8 32 yX2_init]
noncomputable def wsX8_init_r3 : List Cond := [Cond.instanceMethod yX2_init, Cond.code yX2_init cX2_init 3 none, Cond.methodLink RX2 3 objectInit, Cond.fieldLink RX2 9 "PocketKeeper$LeastSearch" "worthKeeping" "[I", Cond.fieldLink RX2 15 "PocketKeeper$LeastSearch" "costBehind" "[I", Cond.fieldLink RX2 18 "PocketKeeper$LeastSearch" "row" "LPocketKeeper$Row;", Cond.fieldLink RX2 22 "PocketKeeper$LeastSearch" "magazine" "LPocketKeeper$Magazine;", Cond.methodLink RX8 41 yX7_init, Cond.instanceMethod yX7_init, Cond.code yX7_init cX7_init 3 none, Cond.methodLink RX7 3 yX1_init, Cond.instanceMethod yX1_init, Cond.initialized RX1, Cond.code yX1_init cX1_init 3 none, Cond.methodLink RX1 3 objectInit, Cond.fieldLink RX1 9 "PocketKeeper$Keeping" "inside" "[I", Cond.fieldLink RX1 15 "PocketKeeper$Keeping" "coming" "[I", Cond.fieldLink RX1 18 "PocketKeeper$Keeping" "going" "[I", Cond.fieldLink RX1 21 "PocketKeeper$Keeping" "row" "LPocketKeeper$Row;", Cond.fieldLink RX1 25 "PocketKeeper$Keeping" "magazine" "LPocketKeeper$Magazine;", Cond.methodLink RX8 48 yX5_init, Cond.instanceMethod yX5_init, Cond.code yX5_init cX5_init 4 none, Cond.fieldLink RX5 7 "PocketKeeper$PlanKeeping" "search" "LPocketKeeper$LeastSearch;"]
noncomputable def wsX8_init_r4 : List Cond := [Cond.methodLink RX5 1 yX1_init, Cond.methodLink RX8 56 yX0_init, Cond.instanceMethod yX0_init, Cond.code yX0_init cX0_init 3 none, Cond.methodLink RX0 1 objectInit, Cond.fieldLink RX0 7 "PocketKeeper$Exchange" "row" "LPocketKeeper$Row;", Cond.fieldLink RX0 13 "PocketKeeper$Exchange" "search" "LPocketKeeper$LeastSearch;"]
noncomputable def wsX8_init : List Cond := .code yX8_init cX8_init 1 none :: ((wsX8_init_r1 ++ (wsX8_init_r2 ++ (wsX8_init_r3 ++ wsX8_init_r4))) ++ wsX40 ++ wsX80 ++ wsX30 ++ wsX60 ++ wsX20 ++ wsX70 ++ wsX50 ++ wsX00)
noncomputable def wsX8_letter : List Cond := .code yX8_letter cX8_letter 2 (some .int) :: ([.fieldLink RX8 12 "PocketKeeper" "page" "LPocketKeeper$Page;", .methodLink RX8 63 yX4_isFull, .instanceMethod yX4_isFull, .selects RX4 yX4_isFull yX4_isFull, .initialized RX4, .code yX4_isFull cX4_isFull 1 (some .boolean), .fieldLink RX4 15 "PocketKeeper$Page" "length" "I", .methodLink RX8 67 yX4_write, .instanceMethod yX4_write, .selects RX4 yX4_write yX4_write, .code yX4_write cX4_write 2 none, .fieldLink RX4 9 "PocketKeeper$Page" "letters" "[C", .methodLink RX4 19 yX4_isFull, .methodLink RX8 71 yX4_length, .instanceMethod yX4_length, .selects RX4 yX4_length yX4_length, .code yX4_length cX4_length 1 (some .int)] ++ wsX80 ++ wsX40)
noncomputable def wsX8_blank : List Cond := .code yX8_blank cX8_blank 2 (some .int) :: ([.fieldLink RX8 12 "PocketKeeper" "page" "LPocketKeeper$Page;", .methodLink RX8 71 yX4_length, .instanceMethod yX4_length, .selects RX4 yX4_length yX4_length, .initialized RX4, .code yX4_length cX4_length 1 (some .int), .fieldLink RX4 15 "PocketKeeper$Page" "length" "I", .methodLink RX8 75 yX4_wipe, .instanceMethod yX4_wipe, .selects RX4 yX4_wipe yX4_wipe, .code yX4_wipe cX4_wipe 1 none] ++ wsX80 ++ wsX40)
noncomputable def wsX8_fault : List Cond := .code yX8_fault cX8_fault 1 (some .int) :: ([.fieldLink RX8 12 "PocketKeeper" "page" "LPocketKeeper$Page;", .methodLink RX8 78 yX4_firstFault, .instanceMethod yX4_firstFault, .selects RX4 yX4_firstFault yX4_firstFault, .initialized RX4, .code yX4_firstFault cX4_firstFault 5 (some .int), .fieldLink RX4 15 "PocketKeeper$Page" "length" "I", .fieldLink RX4 9 "PocketKeeper$Page" "letters" "[C"] ++ wsX80 ++ wsX40)
noncomputable def wsX8_forgetKeepings : List Cond := .code yX8_forgetKeepings cX8_forgetKeepings 1 none :: ([.fieldLink RX8 254 "PocketKeeper" "keepingsStand" "Z", .fieldLink RX8 258 "PocketKeeper" "exchangeStands" "Z"] ++ wsX80)
noncomputable def wsX8_jobs_r1 : List Cond := [Cond.fieldLink RX8 26 "PocketKeeper" "row" "LPocketKeeper$Row;", Cond.fieldLink RX8 12 "PocketKeeper" "page" "LPocketKeeper$Page;", Cond.methodLink RX8 81 yX6_read, Cond.instanceMethod yX6_read, Cond.selects RX6 yX6_read yX6_read, Cond.initialized RX6, Cond.code yX6_read cX6_read 4 (some .boolean), Cond.fieldLink RX6 9 "PocketKeeper$Row" "needsAsTold" "[I", Cond.fieldLink RX6 21 "PocketKeeper$Row" "size" "I", Cond.fieldLink RX6 28 "PocketKeeper$Row" "reads" "I", Cond.methodLink RX6 31 yX4_isWhole, Cond.instanceMethod yX4_isWhole, Cond.selects RX4 yX4_isWhole yX4_isWhole, Cond.initialized RX4, Cond.code yX4_isWhole cX4_isWhole 1 (some .boolean), Cond.fieldLink RX4 15 "PocketKeeper$Page" "length" "I", Cond.fieldLink RX4 9 "PocketKeeper$Page" "letters" "[C", Cond.methodLink RX4 23 yX4_firstFault, Cond.instanceMethod yX4_firstFault, Cond.selects RX4 yX4_firstFault yX4_firstFault, Cond.code yX4_firstFault cX4_firstFault 5 (some .int), Cond.methodLink RX6 37 yX6_clear, Cond.instanceMethod yX6_clear, Cond.selects RX6 yX6_clear yX6_clear]
noncomputable def wsX8_jobs_r2 : List Cond := [Cond.code yX6_clear cX6_clear 2 none, Cond.fieldLink RX6 15 "PocketKeeper$Row" "numbers" "[I", Cond.fieldLink RX6 18 "PocketKeeper$Row" "broken" "[I", Cond.fieldLink RX6 25 "PocketKeeper$Row" "changes" "I", Cond.methodLink RX6 40 yX4_length, Cond.instanceMethod yX4_length, Cond.selects RX4 yX4_length yX4_length, Cond.code yX4_length cX4_length 1 (some .int), Cond.methodLink RX6 44 yX4_codeAt, Cond.instanceMethod yX4_codeAt, Cond.selects RX4 yX4_codeAt yX4_codeAt, Cond.code yX4_codeAt cX4_codeAt 2 (some .int), Cond.methodLink RX8 75 yX4_wipe, Cond.instanceMethod yX4_wipe, Cond.selects RX4 yX4_wipe yX4_wipe, Cond.code yX4_wipe cX4_wipe 1 none, Cond.methodLink RX8 85 yX8_forgetKeepings, Cond.instanceMethod yX8_forgetKeepings, Cond.selects RX8 yX8_forgetKeepings yX8_forgetKeepings, Cond.initialized RX8, Cond.code yX8_forgetKeepings cX8_forgetKeepings 1 none, Cond.fieldLink RX8 254 "PocketKeeper" "keepingsStand" "Z", Cond.fieldLink RX8 258 "PocketKeeper" "exchangeStands" "Z", Cond.methodLink RX8 88 yX6_size]
noncomputable def wsX8_jobs_r3 : List Cond := [Cond.instanceMethod yX6_size, Cond.selects RX6 yX6_size yX6_size, Cond.code yX6_size cX6_size 1 (some .int)]
noncomputable def wsX8_jobs : List Cond := .code yX8_jobs cX8_jobs 1 (some .int) :: ((wsX8_jobs_r1 ++ (wsX8_jobs_r2 ++ wsX8_jobs_r3)) ++ wsX80 ++ wsX60 ++ wsX40)
noncomputable def wsX8_isTool : List Cond := .code yX8_isTool cX8_isTool 1 (some .boolean) :: ([])
noncomputable def wsX8_big_r1 : List Cond := [Cond.fieldLink RX8 19 "PocketKeeper" "magazine" "LPocketKeeper$Magazine;", Cond.methodLink RX8 91 yX8_isTool, Cond.static yX8_isTool, Cond.initialized RX8, Cond.code yX8_isTool cX8_isTool 1 (some .boolean), Cond.methodLink RX8 95 yX3_bigTools, Cond.instanceMethod yX3_bigTools, Cond.selects RX3 yX3_bigTools yX3_bigTools, Cond.initialized RX3, Cond.code yX3_bigTools cX3_bigTools 1 (some .int), Cond.fieldLink RX3 15 "PocketKeeper$Magazine" "bigTools" "I", Cond.methodLink RX8 98 yX8_hasTool, Cond.static yX8_hasTool, Cond.code yX8_hasTool cX8_hasTool 2 (some .boolean), Cond.methodLink RX8 102 yX3_setBig, Cond.instanceMethod yX3_setBig, Cond.selects RX3 yX3_setBig yX3_setBig, Cond.code yX3_setBig cX3_setBig 3 none, Cond.static yX8_withTool, Cond.code yX8_withTool cX8_withTool 3 (some .int), Cond.methodLink RX8 85 yX8_forgetKeepings, Cond.instanceMethod yX8_forgetKeepings, Cond.selects RX8 yX8_forgetKeepings yX8_forgetKeepings, Cond.code yX8_forgetKeepings cX8_forgetKeepings 1 none]
noncomputable def wsX8_big_r2 : List Cond := [Cond.fieldLink RX8 254 "PocketKeeper" "keepingsStand" "Z", Cond.fieldLink RX8 258 "PocketKeeper" "exchangeStands" "Z"]
noncomputable def wsX8_big : List Cond := .code yX8_big cX8_big 4 (some .int) :: ((wsX8_big_r1 ++ wsX8_big_r2) ++ wsX80 ++ wsX30)
noncomputable def wsX8_pockets : List Cond := .code yX8_pockets cX8_pockets 3 (some .int) :: ([.fieldLink RX8 19 "PocketKeeper" "magazine" "LPocketKeeper$Magazine;", .methodLink RX8 106 yX3_room, .instanceMethod yX3_room, .selects RX3 yX3_room yX3_room, .initialized RX3, .code yX3_room cX3_room 1 (some .int), .fieldLink RX3 9 "PocketKeeper$Magazine" "room" "I", .methodLink RX8 109 yX3_setRoom, .instanceMethod yX3_setRoom, .selects RX3 yX3_setRoom yX3_setRoom, .code yX3_setRoom cX3_setRoom 2 none, .methodLink RX8 85 yX8_forgetKeepings, .instanceMethod yX8_forgetKeepings, .selects RX8 yX8_forgetKeepings yX8_forgetKeepings, .initialized RX8, .code yX8_forgetKeepings cX8_forgetKeepings 1 none, .fieldLink RX8 254 "PocketKeeper" "keepingsStand" "Z", .fieldLink RX8 258 "PocketKeeper" "exchangeStands" "Z"] ++ wsX80 ++ wsX30)
noncomputable def wsX8_breaks_r1 : List Cond := [Cond.fieldLink RX8 26 "PocketKeeper" "row" "LPocketKeeper$Row;", Cond.methodLink RX8 112 yX6_isPlace, Cond.instanceMethod yX6_isPlace, Cond.selects RX6 yX6_isPlace yX6_isPlace, Cond.initialized RX6, Cond.code yX6_isPlace cX6_isPlace 2 (some .boolean), Cond.fieldLink RX6 21 "PocketKeeper$Row" "size" "I", Cond.methodLink RX8 91 yX8_isTool, Cond.static yX8_isTool, Cond.initialized RX8, Cond.code yX8_isTool cX8_isTool 1 (some .boolean), Cond.methodLink RX8 115 yX6_broken, Cond.instanceMethod yX6_broken, Cond.selects RX6 yX6_broken yX6_broken, Cond.code yX6_broken cX6_broken 2 (some .int), Cond.fieldLink RX6 18 "PocketKeeper$Row" "broken" "[I", Cond.methodLink RX8 98 yX8_hasTool, Cond.static yX8_hasTool, Cond.code yX8_hasTool cX8_hasTool 2 (some .boolean), Cond.methodLink RX8 119 yX6_setBreak, Cond.instanceMethod yX6_setBreak, Cond.selects RX6 yX6_setBreak yX6_setBreak, Cond.code yX6_setBreak cX6_setBreak 4 none, Cond.static yX8_withTool]
noncomputable def wsX8_breaks_r2 : List Cond := [Cond.code yX8_withTool cX8_withTool 3 (some .int), Cond.methodLink RX8 85 yX8_forgetKeepings, Cond.instanceMethod yX8_forgetKeepings, Cond.selects RX8 yX8_forgetKeepings yX8_forgetKeepings, Cond.code yX8_forgetKeepings cX8_forgetKeepings 1 none, Cond.fieldLink RX8 254 "PocketKeeper" "keepingsStand" "Z", Cond.fieldLink RX8 258 "PocketKeeper" "exchangeStands" "Z"]
noncomputable def wsX8_breaks : List Cond := .code yX8_breaks cX8_breaks 5 (some .int) :: ((wsX8_breaks_r1 ++ wsX8_breaks_r2) ++ wsX80 ++ wsX60)
noncomputable def wsX8_changeOrder : List Cond := .code yX8_changeOrder cX8_changeOrder 3 none :: ([.fieldLink RX8 26 "PocketKeeper" "row" "LPocketKeeper$Row;", .methodLink RX8 246 yX6_exchange, .instanceMethod yX6_exchange, .selects RX6 yX6_exchange yX6_exchange, .initialized RX6, .code yX6_exchange cX6_exchange 4 none, .fieldLink RX6 15 "PocketKeeper$Row" "numbers" "[I", .methodLink RX8 248 yX6_countChange, .instanceMethod yX6_countChange, .selects RX6 yX6_countChange yX6_countChange, .code yX6_countChange cX6_countChange 1 none, .fieldLink RX6 25 "PocketKeeper$Row" "changes" "I", .methodLink RX8 85 yX8_forgetKeepings, .instanceMethod yX8_forgetKeepings, .selects RX8 yX8_forgetKeepings yX8_forgetKeepings, .initialized RX8, .code yX8_forgetKeepings cX8_forgetKeepings 1 none, .fieldLink RX8 254 "PocketKeeper" "keepingsStand" "Z", .fieldLink RX8 258 "PocketKeeper" "exchangeStands" "Z"] ++ wsX80 ++ wsX60)
noncomputable def wsX8_swap_r1 : List Cond := [Cond.fieldLink RX8 26 "PocketKeeper" "row" "LPocketKeeper$Row;", Cond.methodLink RX8 112 yX6_isPlace, Cond.instanceMethod yX6_isPlace, Cond.selects RX6 yX6_isPlace yX6_isPlace, Cond.initialized RX6, Cond.code yX6_isPlace cX6_isPlace 2 (some .boolean), Cond.fieldLink RX6 21 "PocketKeeper$Row" "size" "I", Cond.methodLink RX8 123 yX8_changeOrder, Cond.instanceMethod yX8_changeOrder, Cond.selects RX8 yX8_changeOrder yX8_changeOrder, Cond.initialized RX8, Cond.code yX8_changeOrder cX8_changeOrder 3 none, Cond.methodLink RX8 246 yX6_exchange, Cond.instanceMethod yX6_exchange, Cond.selects RX6 yX6_exchange yX6_exchange, Cond.code yX6_exchange cX6_exchange 4 none, Cond.fieldLink RX6 15 "PocketKeeper$Row" "numbers" "[I", Cond.methodLink RX8 248 yX6_countChange, Cond.instanceMethod yX6_countChange, Cond.selects RX6 yX6_countChange yX6_countChange, Cond.code yX6_countChange cX6_countChange 1 none, Cond.fieldLink RX6 25 "PocketKeeper$Row" "changes" "I", Cond.methodLink RX8 85 yX8_forgetKeepings, Cond.instanceMethod yX8_forgetKeepings]
noncomputable def wsX8_swap_r2 : List Cond := [Cond.selects RX8 yX8_forgetKeepings yX8_forgetKeepings, Cond.code yX8_forgetKeepings cX8_forgetKeepings 1 none, Cond.fieldLink RX8 254 "PocketKeeper" "keepingsStand" "Z", Cond.fieldLink RX8 258 "PocketKeeper" "exchangeStands" "Z", Cond.methodLink RX8 127 yX6_changes, Cond.instanceMethod yX6_changes, Cond.selects RX6 yX6_changes yX6_changes, Cond.code yX6_changes cX6_changes 1 (some .int)]
noncomputable def wsX8_swap : List Cond := .code yX8_swap cX8_swap 3 (some .int) :: ((wsX8_swap_r1 ++ wsX8_swap_r2) ++ wsX80 ++ wsX60)
noncomputable def wsX8_as : List Cond := .code yX8_as cX8_as 4 (some .int) :: ([.fieldLink RX8 19 "PocketKeeper" "magazine" "LPocketKeeper$Magazine;", .methodLink RX8 91 yX8_isTool, .static yX8_isTool, .initialized RX8, .code yX8_isTool cX8_isTool 1 (some .boolean), .methodLink RX8 95 yX3_bigTools, .instanceMethod yX3_bigTools, .selects RX3 yX3_bigTools yX3_bigTools, .initialized RX3, .code yX3_bigTools cX3_bigTools 1 (some .int), .fieldLink RX3 15 "PocketKeeper$Magazine" "bigTools" "I", .methodLink RX8 98 yX8_hasTool, .static yX8_hasTool, .code yX8_hasTool cX8_hasTool 2 (some .boolean)] ++ wsX80 ++ wsX30)
noncomputable def wsX8_job : List Cond := .code yX8_job cX8_job 3 (some .int) :: ([.fieldLink RX8 26 "PocketKeeper" "row" "LPocketKeeper$Row;", .methodLink RX8 112 yX6_isPlace, .instanceMethod yX6_isPlace, .selects RX6 yX6_isPlace yX6_isPlace, .initialized RX6, .code yX6_isPlace cX6_isPlace 2 (some .boolean), .fieldLink RX6 21 "PocketKeeper$Row" "size" "I", .methodLink RX8 130 yX6_needs, .instanceMethod yX6_needs, .selects RX6 yX6_needs yX6_needs, .code yX6_needs cX6_needs 2 (some .int), .fieldLink RX6 9 "PocketKeeper$Row" "needsAsTold" "[I", .fieldLink RX6 15 "PocketKeeper$Row" "numbers" "[I", .methodLink RX8 133 yX6_number, .instanceMethod yX6_number, .selects RX6 yX6_number yX6_number, .code yX6_number cX6_number 2 (some .int), .methodLink RX8 115 yX6_broken, .instanceMethod yX6_broken, .selects RX6 yX6_broken yX6_broken, .code yX6_broken cX6_broken 2 (some .int), .fieldLink RX6 18 "PocketKeeper$Row" "broken" "[I"] ++ wsX80 ++ wsX60)
noncomputable def wsX8_next : List Cond := .code yX8_next cX8_next 3 (some .int) :: ([.fieldLink RX8 26 "PocketKeeper" "row" "LPocketKeeper$Row;", .methodLink RX8 112 yX6_isPlace, .instanceMethod yX6_isPlace, .selects RX6 yX6_isPlace yX6_isPlace, .initialized RX6, .code yX6_isPlace cX6_isPlace 2 (some .boolean), .fieldLink RX6 21 "PocketKeeper$Row" "size" "I", .methodLink RX8 91 yX8_isTool, .static yX8_isTool, .initialized RX8, .code yX8_isTool cX8_isTool 1 (some .boolean), .methodLink RX8 136 yX6_nextPlace, .instanceMethod yX6_nextPlace, .selects RX6 yX6_nextPlace yX6_nextPlace, .code yX6_nextPlace cX6_nextPlace 4 (some .int), .fieldLink RX6 18 "PocketKeeper$Row" "broken" "[I", .static yX8_hasTool, .code yX8_hasTool cX8_hasTool 2 (some .boolean), .methodLink RX6 56 yX6_needs, .instanceMethod yX6_needs, .selects RX6 yX6_needs yX6_needs, .code yX6_needs cX6_needs 2 (some .int), .fieldLink RX6 9 "PocketKeeper$Row" "needsAsTold" "[I", .fieldLink RX6 15 "PocketKeeper$Row" "numbers" "[I"] ++ wsX80 ++ wsX60)
noncomputable def wsX8_isTooBig_r1 : List Cond := [Cond.fieldLink RX8 26 "PocketKeeper" "row" "LPocketKeeper$Row;", Cond.fieldLink RX8 19 "PocketKeeper" "magazine" "LPocketKeeper$Magazine;", Cond.methodLink RX8 88 yX6_size, Cond.instanceMethod yX6_size, Cond.selects RX6 yX6_size yX6_size, Cond.initialized RX6, Cond.code yX6_size cX6_size 1 (some .int), Cond.fieldLink RX6 21 "PocketKeeper$Row" "size" "I", Cond.methodLink RX8 130 yX6_needs, Cond.instanceMethod yX6_needs, Cond.selects RX6 yX6_needs yX6_needs, Cond.code yX6_needs cX6_needs 2 (some .int), Cond.fieldLink RX6 9 "PocketKeeper$Row" "needsAsTold" "[I", Cond.fieldLink RX6 15 "PocketKeeper$Row" "numbers" "[I", Cond.methodLink RX8 251 yX3_holds, Cond.instanceMethod yX3_holds, Cond.selects RX3 yX3_holds yX3_holds, Cond.initialized RX3, Cond.code yX3_holds cX3_holds 2 (some .boolean), Cond.fieldLink RX3 9 "PocketKeeper$Magazine" "room" "I", Cond.methodLink RX3 28 yX3_sizeOf, Cond.instanceMethod yX3_sizeOf, Cond.selects RX3 yX3_sizeOf yX3_sizeOf, Cond.code yX3_sizeOf cX3_sizeOf 2 (some .int)]
noncomputable def wsX8_isTooBig_r2 : List Cond := [Cond.fieldLink RX3 15 "PocketKeeper$Magazine" "bigTools" "I", Cond.methodLink RX3 22 yJ6_bitCount_0f7a4, Cond.static yJ6_bitCount_0f7a4, Cond.initialized RJ6, Cond.code yJ6_bitCount_0f7a4 cJ6_bitCount_0f7a4 1 (some .int), Cond.constant RJ6 265 (1431655765), Cond.constant RJ6 266 (858993459), Cond.constant RJ6 267 (252645135)]
noncomputable def wsX8_isTooBig : List Cond := .code yX8_isTooBig cX8_isTooBig 2 (some .boolean) :: ((wsX8_isTooBig_r1 ++ wsX8_isTooBig_r2) ++ wsX80 ++ wsX60 ++ wsX30)
noncomputable def wsX8_refusalOfKeeping_r1 : List Cond := [Cond.fieldLink RX8 26 "PocketKeeper" "row" "LPocketKeeper$Row;", Cond.methodLink RX8 112 yX6_isPlace, Cond.instanceMethod yX6_isPlace, Cond.selects RX6 yX6_isPlace yX6_isPlace, Cond.initialized RX6, Cond.code yX6_isPlace cX6_isPlace 2 (some .boolean), Cond.fieldLink RX6 21 "PocketKeeper$Row" "size" "I", Cond.methodLink RX8 189 yX8_isTooBig, Cond.instanceMethod yX8_isTooBig, Cond.selects RX8 yX8_isTooBig yX8_isTooBig, Cond.initialized RX8, Cond.code yX8_isTooBig cX8_isTooBig 2 (some .boolean), Cond.fieldLink RX8 19 "PocketKeeper" "magazine" "LPocketKeeper$Magazine;", Cond.methodLink RX8 88 yX6_size, Cond.instanceMethod yX6_size, Cond.selects RX6 yX6_size yX6_size, Cond.code yX6_size cX6_size 1 (some .int), Cond.methodLink RX8 130 yX6_needs, Cond.instanceMethod yX6_needs, Cond.selects RX6 yX6_needs yX6_needs, Cond.code yX6_needs cX6_needs 2 (some .int), Cond.fieldLink RX6 9 "PocketKeeper$Row" "needsAsTold" "[I", Cond.fieldLink RX6 15 "PocketKeeper$Row" "numbers" "[I", Cond.methodLink RX8 251 yX3_holds]
noncomputable def wsX8_refusalOfKeeping_r2 : List Cond := [Cond.instanceMethod yX3_holds, Cond.selects RX3 yX3_holds yX3_holds, Cond.initialized RX3, Cond.code yX3_holds cX3_holds 2 (some .boolean), Cond.fieldLink RX3 9 "PocketKeeper$Magazine" "room" "I", Cond.methodLink RX3 28 yX3_sizeOf, Cond.instanceMethod yX3_sizeOf, Cond.selects RX3 yX3_sizeOf yX3_sizeOf, Cond.code yX3_sizeOf cX3_sizeOf 2 (some .int), Cond.fieldLink RX3 15 "PocketKeeper$Magazine" "bigTools" "I", Cond.methodLink RX3 22 yJ6_bitCount_0f7a4, Cond.static yJ6_bitCount_0f7a4, Cond.initialized RJ6, Cond.code yJ6_bitCount_0f7a4 cJ6_bitCount_0f7a4 1 (some .int), Cond.constant RJ6 265 (1431655765), Cond.constant RJ6 266 (858993459), Cond.constant RJ6 267 (252645135)]
noncomputable def wsX8_refusalOfKeeping : List Cond := .code yX8_refusalOfKeeping cX8_refusalOfKeeping 3 (some .int) :: ((wsX8_refusalOfKeeping_r1 ++ wsX8_refusalOfKeeping_r2) ++ wsX80 ++ wsX60 ++ wsX30)
noncomputable def wsX8_standKeepings_r1 : List Cond := [Cond.fieldLink RX8 254 "PocketKeeper" "keepingsStand" "Z", Cond.fieldLink RX8 42 "PocketKeeper" "bySoonest" "LPocketKeeper$Keeping;", Cond.fieldLink RX8 35 "PocketKeeper" "search" "LPocketKeeper$LeastSearch;", Cond.fieldLink RX8 51 "PocketKeeper" "byPlan" "LPocketKeeper$Keeping;", Cond.methodLink RX8 261 ⟨"PocketKeeper$Keeping", "keepAll", "()V"⟩, Cond.sameMethod "PocketKeeper$Keeping" "PocketKeeper$Keeping" "keepAll" "()V", Cond.selects RX5 ⟨"PocketKeeper$Keeping", "keepAll", "()V"⟩ yX1_keepAll, Cond.instanceMethod yX1_keepAll, Cond.initialized RX1, Cond.code yX1_keepAll cX1_keepAll 4 none, Cond.fieldLink RX1 21 "PocketKeeper$Keeping" "row" "LPocketKeeper$Row;", Cond.fieldLink RX1 9 "PocketKeeper$Keeping" "inside" "[I", Cond.fieldLink RX1 15 "PocketKeeper$Keeping" "coming" "[I", Cond.fieldLink RX1 18 "PocketKeeper$Keeping" "going" "[I", Cond.methodLink RX1 29 yX6_size, Cond.instanceMethod yX6_size, Cond.selects RX6 yX6_size yX6_size, Cond.initialized RX6, Cond.code yX6_size cX6_size 1 (some .int), Cond.fieldLink RX6 21 "PocketKeeper$Row" "size" "I", Cond.methodLink RX1 35 yX6_needs, Cond.instanceMethod yX6_needs, Cond.selects RX6 yX6_needs yX6_needs, Cond.code yX6_needs cX6_needs 2 (some .int)]
noncomputable def wsX8_standKeepings_r2 : List Cond := [Cond.fieldLink RX6 9 "PocketKeeper$Row" "needsAsTold" "[I", Cond.fieldLink RX6 15 "PocketKeeper$Row" "numbers" "[I", Cond.methodLink RX1 39 ⟨"PocketKeeper$Keeping", "staying", "(II)I"⟩, Cond.sameMethod "PocketKeeper$Keeping" "PocketKeeper$Keeping" "staying" "(II)I", Cond.selects RX5 ⟨"PocketKeeper$Keeping", "staying", "(II)I"⟩ yX5_staying, Cond.instanceMethod yX5_staying, Cond.initialized RX5, Cond.code yX5_staying cX5_staying 3 (some .int), Cond.fieldLink RX5 7 "PocketKeeper$PlanKeeping" "search" "LPocketKeeper$LeastSearch;", Cond.methodLink RX5 13 yX2_leastSetAtLeastCost, Cond.instanceMethod yX2_leastSetAtLeastCost, Cond.selects RX2 yX2_leastSetAtLeastCost yX2_leastSetAtLeastCost, Cond.initialized RX2, Cond.code yX2_leastSetAtLeastCost cX2_leastSetAtLeastCost 7 (some .int), Cond.fieldLink RX2 9 "PocketKeeper$LeastSearch" "worthKeeping" "[I", Cond.fieldLink RX2 15 "PocketKeeper$LeastSearch" "costBehind" "[I", Cond.methodLink RX2 48 yX2_cell, Cond.static yX2_cell, Cond.code yX2_cell cX2_cell 2 (some .int), Cond.methodLink RX2 52 yX2_subsets, Cond.static yX2_subsets, Cond.code yX2_subsets cX2_subsets 1 (some .int), Cond.methodLink RX2 83 yJ6_bitCount_0f7a4, Cond.static yJ6_bitCount_0f7a4]
noncomputable def wsX8_standKeepings_r3 : List Cond := [Cond.initialized RJ6, Cond.code yJ6_bitCount_0f7a4 cJ6_bitCount_0f7a4 1 (some .int), Cond.constant RJ6 265 (1431655765), Cond.constant RJ6 266 (858993459), Cond.constant RJ6 267 (252645135), Cond.methodLink RX2 55 yX2_subsetBehind, Cond.static yX2_subsetBehind, Cond.code yX2_subsetBehind cX2_subsetBehind 2 (some .int), Cond.selects RX7 ⟨"PocketKeeper$Keeping", "staying", "(II)I"⟩ yX7_staying, Cond.instanceMethod yX7_staying, Cond.initialized RX7, Cond.code yX7_staying cX7_staying 5 (some .int), Cond.fieldLink RX7 9 "PocketKeeper$SoonestKeeping" "magazine" "LPocketKeeper$Magazine;", Cond.sameField "PocketKeeper$SoonestKeeping" "PocketKeeper$Keeping" "magazine" "LPocketKeeper$Magazine;", Cond.fieldLink RX7 15 "PocketKeeper$SoonestKeeping" "row" "LPocketKeeper$Row;", Cond.sameField "PocketKeeper$SoonestKeeping" "PocketKeeper$Keeping" "row" "LPocketKeeper$Row;", Cond.methodLink RX7 19 yX6_needs, Cond.methodLink RX7 25 yX3_holds, Cond.instanceMethod yX3_holds, Cond.selects RX3 yX3_holds yX3_holds, Cond.initialized RX3, Cond.code yX3_holds cX3_holds 2 (some .boolean), Cond.fieldLink RX3 9 "PocketKeeper$Magazine" "room" "I", Cond.methodLink RX3 28 yX3_sizeOf]
noncomputable def wsX8_standKeepings_r4 : List Cond := [Cond.instanceMethod yX3_sizeOf, Cond.selects RX3 yX3_sizeOf yX3_sizeOf, Cond.code yX3_sizeOf cX3_sizeOf 2 (some .int), Cond.fieldLink RX3 15 "PocketKeeper$Magazine" "bigTools" "I", Cond.methodLink RX3 22 yJ6_bitCount_0f7a4, Cond.methodLink RX7 31 yX7_firstToGo, Cond.instanceMethod yX7_firstToGo, Cond.selects RX7 yX7_firstToGo yX7_firstToGo, Cond.code yX7_firstToGo cX7_firstToGo 6 (some .int), Cond.static yX8_hasTool, Cond.initialized RX8, Cond.code yX8_hasTool cX8_hasTool 2 (some .boolean), Cond.methodLink RX7 39 yX7_rank, Cond.instanceMethod yX7_rank, Cond.selects RX7 yX7_rank yX7_rank, Cond.code yX7_rank cX7_rank 5 (some .int), Cond.methodLink RX7 42 yX6_nextPlace, Cond.instanceMethod yX6_nextPlace, Cond.selects RX6 yX6_nextPlace yX6_nextPlace, Cond.code yX6_nextPlace cX6_nextPlace 4 (some .int), Cond.fieldLink RX6 18 "PocketKeeper$Row" "broken" "[I", Cond.methodLink RX6 56 yX6_needs, Cond.methodLink RX7 45 yX3_bigTools, Cond.instanceMethod yX3_bigTools]
noncomputable def wsX8_standKeepings_r5 : List Cond := [Cond.selects RX3 yX3_bigTools yX3_bigTools, Cond.code yX3_bigTools cX3_bigTools 1 (some .int), Cond.methodLink RX1 43 yX6_broken, Cond.instanceMethod yX6_broken, Cond.selects RX6 yX6_broken yX6_broken, Cond.code yX6_broken cX6_broken 2 (some .int), Cond.selects RX7 ⟨"PocketKeeper$Keeping", "keepAll", "()V"⟩ yX1_keepAll, Cond.methodLink RX8 264 yX2_least, Cond.instanceMethod yX2_least, Cond.selects RX2 yX2_least yX2_least, Cond.code yX2_least cX2_least 2 (some .int), Cond.fieldLink RX2 18 "PocketKeeper$LeastSearch" "row" "LPocketKeeper$Row;", Cond.fieldLink RX2 22 "PocketKeeper$LeastSearch" "magazine" "LPocketKeeper$Magazine;", Cond.methodLink RX2 26 yX2_findWorthKeeping, Cond.instanceMethod yX2_findWorthKeeping, Cond.selects RX2 yX2_findWorthKeeping yX2_findWorthKeeping, Cond.code yX2_findWorthKeeping cX2_findWorthKeeping 4 none, Cond.methodLink RX2 29 yX6_size, Cond.methodLink RX2 39 yX6_needs, Cond.methodLink RX2 58 yX6_broken, Cond.methodLink RX2 35 yX2_fillPlace, Cond.instanceMethod yX2_fillPlace, Cond.selects RX2 yX2_fillPlace yX2_fillPlace, Cond.code yX2_fillPlace cX2_fillPlace 4 none]
noncomputable def wsX8_standKeepings_r6 : List Cond := [Cond.methodLink RX2 61 yX3_holds, Cond.methodLink RX2 65 yX2_costIfKept, Cond.instanceMethod yX2_costIfKept, Cond.selects RX2 yX2_costIfKept yX2_costIfKept, Cond.code yX2_costIfKept cX2_costIfKept 5 (some .int), Cond.methodLink RX2 43 yX3_sizeOf, Cond.methodLink RX2 68 yX2_costOfFewer, Cond.instanceMethod yX2_costOfFewer, Cond.selects RX2 yX2_costOfFewer yX2_costOfFewer, Cond.code yX2_costOfFewer cX2_costOfFewer 5 (some .int), Cond.constant RX2 73 (2147483647), Cond.methodLink RX2 78 Lib.Math.min.name, Cond.static Lib.Math.min.name, Cond.initialized "java/lang/Math", Cond.code Lib.Math.min.name Lib.Math.min.code 2 (some .int)]
noncomputable def wsX8_standKeepings : List Cond := .code yX8_standKeepings cX8_standKeepings 1 none :: ((wsX8_standKeepings_r1 ++ (wsX8_standKeepings_r2 ++ (wsX8_standKeepings_r3 ++ (wsX8_standKeepings_r4 ++ (wsX8_standKeepings_r5 ++ wsX8_standKeepings_r6))))) ++ wsX80 ++ wsX50 ++ wsX70 ++ wsX60 ++ wsX20 ++ wsX30)
noncomputable def wsX8_numberOfKeeping_r1 : List Cond := [Cond.fieldLink RX8 19 "PocketKeeper" "magazine" "LPocketKeeper$Magazine;", Cond.methodLink RX8 215 ⟨"PocketKeeper$Keeping", "inside", "(I)I"⟩, Cond.sameMethod "PocketKeeper$Keeping" "PocketKeeper$Keeping" "inside" "(I)I", Cond.selects RX5 ⟨"PocketKeeper$Keeping", "inside", "(I)I"⟩ yX1_inside, Cond.instanceMethod yX1_inside, Cond.initialized RX1, Cond.code yX1_inside cX1_inside 2 (some .int), Cond.fieldLink RX1 9 "PocketKeeper$Keeping" "inside" "[I", Cond.selects RX7 ⟨"PocketKeeper$Keeping", "inside", "(I)I"⟩ yX1_inside, Cond.methodLink RX8 220 ⟨"PocketKeeper$Keeping", "coming", "(I)I"⟩, Cond.sameMethod "PocketKeeper$Keeping" "PocketKeeper$Keeping" "coming" "(I)I", Cond.selects RX5 ⟨"PocketKeeper$Keeping", "coming", "(I)I"⟩ yX1_coming, Cond.instanceMethod yX1_coming, Cond.code yX1_coming cX1_coming 2 (some .int), Cond.fieldLink RX1 15 "PocketKeeper$Keeping" "coming" "[I", Cond.selects RX7 ⟨"PocketKeeper$Keeping", "coming", "(I)I"⟩ yX1_coming, Cond.methodLink RX8 223 ⟨"PocketKeeper$Keeping", "going", "(I)I"⟩, Cond.sameMethod "PocketKeeper$Keeping" "PocketKeeper$Keeping" "going" "(I)I", Cond.selects RX5 ⟨"PocketKeeper$Keeping", "going", "(I)I"⟩ yX1_going, Cond.instanceMethod yX1_going, Cond.code yX1_going cX1_going 2 (some .int), Cond.fieldLink RX1 18 "PocketKeeper$Keeping" "going" "[I", Cond.selects RX7 ⟨"PocketKeeper$Keeping", "going", "(I)I"⟩ yX1_going, Cond.methodLink RX8 226 yX3_sizeOf]
noncomputable def wsX8_numberOfKeeping_r2 : List Cond := [Cond.instanceMethod yX3_sizeOf, Cond.selects RX3 yX3_sizeOf yX3_sizeOf, Cond.initialized RX3, Cond.code yX3_sizeOf cX3_sizeOf 2 (some .int), Cond.fieldLink RX3 15 "PocketKeeper$Magazine" "bigTools" "I", Cond.methodLink RX3 22 yJ6_bitCount_0f7a4, Cond.static yJ6_bitCount_0f7a4, Cond.initialized RJ6, Cond.code yJ6_bitCount_0f7a4 cJ6_bitCount_0f7a4 1 (some .int), Cond.constant RJ6 265 (1431655765), Cond.constant RJ6 266 (858993459), Cond.constant RJ6 267 (252645135)]
noncomputable def wsX8_numberOfKeeping : List Cond := .code yX8_numberOfKeeping cX8_numberOfKeeping 4 (some .int) :: ((wsX8_numberOfKeeping_r1 ++ wsX8_numberOfKeeping_r2) ++ wsX80 ++ wsX50 ++ wsX70 ++ wsX30)
noncomputable def wsX8_soonest_r1 : List Cond := [Cond.fieldLink RX8 42 "PocketKeeper" "bySoonest" "LPocketKeeper$Keeping;", Cond.methodLink RX8 140 yX8_refusalOfKeeping, Cond.instanceMethod yX8_refusalOfKeeping, Cond.selects RX8 yX8_refusalOfKeeping yX8_refusalOfKeeping, Cond.initialized RX8, Cond.code yX8_refusalOfKeeping cX8_refusalOfKeeping 3 (some .int), Cond.fieldLink RX8 26 "PocketKeeper" "row" "LPocketKeeper$Row;", Cond.methodLink RX8 112 yX6_isPlace, Cond.instanceMethod yX6_isPlace, Cond.selects RX6 yX6_isPlace yX6_isPlace, Cond.initialized RX6, Cond.code yX6_isPlace cX6_isPlace 2 (some .boolean), Cond.fieldLink RX6 21 "PocketKeeper$Row" "size" "I", Cond.methodLink RX8 189 yX8_isTooBig, Cond.instanceMethod yX8_isTooBig, Cond.selects RX8 yX8_isTooBig yX8_isTooBig, Cond.code yX8_isTooBig cX8_isTooBig 2 (some .boolean), Cond.fieldLink RX8 19 "PocketKeeper" "magazine" "LPocketKeeper$Magazine;", Cond.methodLink RX8 88 yX6_size, Cond.instanceMethod yX6_size, Cond.selects RX6 yX6_size yX6_size, Cond.code yX6_size cX6_size 1 (some .int), Cond.methodLink RX8 130 yX6_needs, Cond.instanceMethod yX6_needs]
noncomputable def wsX8_soonest_r2 : List Cond := [Cond.selects RX6 yX6_needs yX6_needs, Cond.code yX6_needs cX6_needs 2 (some .int), Cond.fieldLink RX6 9 "PocketKeeper$Row" "needsAsTold" "[I", Cond.fieldLink RX6 15 "PocketKeeper$Row" "numbers" "[I", Cond.methodLink RX8 251 yX3_holds, Cond.instanceMethod yX3_holds, Cond.selects RX3 yX3_holds yX3_holds, Cond.initialized RX3, Cond.code yX3_holds cX3_holds 2 (some .boolean), Cond.fieldLink RX3 9 "PocketKeeper$Magazine" "room" "I", Cond.methodLink RX3 28 yX3_sizeOf, Cond.instanceMethod yX3_sizeOf, Cond.selects RX3 yX3_sizeOf yX3_sizeOf, Cond.code yX3_sizeOf cX3_sizeOf 2 (some .int), Cond.fieldLink RX3 15 "PocketKeeper$Magazine" "bigTools" "I", Cond.methodLink RX3 22 yJ6_bitCount_0f7a4, Cond.static yJ6_bitCount_0f7a4, Cond.initialized RJ6, Cond.code yJ6_bitCount_0f7a4 cJ6_bitCount_0f7a4 1 (some .int), Cond.constant RJ6 265 (1431655765), Cond.constant RJ6 266 (858993459), Cond.constant RJ6 267 (252645135), Cond.methodLink RX8 143 yX8_standKeepings, Cond.instanceMethod yX8_standKeepings]
noncomputable def wsX8_soonest_r3 : List Cond := [Cond.selects RX8 yX8_standKeepings yX8_standKeepings, Cond.code yX8_standKeepings cX8_standKeepings 1 none, Cond.fieldLink RX8 254 "PocketKeeper" "keepingsStand" "Z", Cond.fieldLink RX8 35 "PocketKeeper" "search" "LPocketKeeper$LeastSearch;", Cond.fieldLink RX8 51 "PocketKeeper" "byPlan" "LPocketKeeper$Keeping;", Cond.methodLink RX8 261 ⟨"PocketKeeper$Keeping", "keepAll", "()V"⟩, Cond.sameMethod "PocketKeeper$Keeping" "PocketKeeper$Keeping" "keepAll" "()V", Cond.selects RX5 ⟨"PocketKeeper$Keeping", "keepAll", "()V"⟩ yX1_keepAll, Cond.instanceMethod yX1_keepAll, Cond.initialized RX1, Cond.code yX1_keepAll cX1_keepAll 4 none, Cond.fieldLink RX1 21 "PocketKeeper$Keeping" "row" "LPocketKeeper$Row;", Cond.fieldLink RX1 9 "PocketKeeper$Keeping" "inside" "[I", Cond.fieldLink RX1 15 "PocketKeeper$Keeping" "coming" "[I", Cond.fieldLink RX1 18 "PocketKeeper$Keeping" "going" "[I", Cond.methodLink RX1 29 yX6_size, Cond.methodLink RX1 35 yX6_needs, Cond.methodLink RX1 39 ⟨"PocketKeeper$Keeping", "staying", "(II)I"⟩, Cond.sameMethod "PocketKeeper$Keeping" "PocketKeeper$Keeping" "staying" "(II)I", Cond.selects RX5 ⟨"PocketKeeper$Keeping", "staying", "(II)I"⟩ yX5_staying, Cond.instanceMethod yX5_staying, Cond.initialized RX5, Cond.code yX5_staying cX5_staying 3 (some .int), Cond.fieldLink RX5 7 "PocketKeeper$PlanKeeping" "search" "LPocketKeeper$LeastSearch;"]
noncomputable def wsX8_soonest_r4 : List Cond := [Cond.methodLink RX5 13 yX2_leastSetAtLeastCost, Cond.instanceMethod yX2_leastSetAtLeastCost, Cond.selects RX2 yX2_leastSetAtLeastCost yX2_leastSetAtLeastCost, Cond.initialized RX2, Cond.code yX2_leastSetAtLeastCost cX2_leastSetAtLeastCost 7 (some .int), Cond.fieldLink RX2 9 "PocketKeeper$LeastSearch" "worthKeeping" "[I", Cond.fieldLink RX2 15 "PocketKeeper$LeastSearch" "costBehind" "[I", Cond.methodLink RX2 48 yX2_cell, Cond.static yX2_cell, Cond.code yX2_cell cX2_cell 2 (some .int), Cond.methodLink RX2 52 yX2_subsets, Cond.static yX2_subsets, Cond.code yX2_subsets cX2_subsets 1 (some .int), Cond.methodLink RX2 83 yJ6_bitCount_0f7a4, Cond.methodLink RX2 55 yX2_subsetBehind, Cond.static yX2_subsetBehind, Cond.code yX2_subsetBehind cX2_subsetBehind 2 (some .int), Cond.selects RX7 ⟨"PocketKeeper$Keeping", "staying", "(II)I"⟩ yX7_staying, Cond.instanceMethod yX7_staying, Cond.initialized RX7, Cond.code yX7_staying cX7_staying 5 (some .int), Cond.fieldLink RX7 9 "PocketKeeper$SoonestKeeping" "magazine" "LPocketKeeper$Magazine;", Cond.sameField "PocketKeeper$SoonestKeeping" "PocketKeeper$Keeping" "magazine" "LPocketKeeper$Magazine;", Cond.fieldLink RX7 15 "PocketKeeper$SoonestKeeping" "row" "LPocketKeeper$Row;"]
noncomputable def wsX8_soonest_r5 : List Cond := [Cond.sameField "PocketKeeper$SoonestKeeping" "PocketKeeper$Keeping" "row" "LPocketKeeper$Row;", Cond.methodLink RX7 19 yX6_needs, Cond.methodLink RX7 25 yX3_holds, Cond.methodLink RX7 31 yX7_firstToGo, Cond.instanceMethod yX7_firstToGo, Cond.selects RX7 yX7_firstToGo yX7_firstToGo, Cond.code yX7_firstToGo cX7_firstToGo 6 (some .int), Cond.static yX8_hasTool, Cond.code yX8_hasTool cX8_hasTool 2 (some .boolean), Cond.methodLink RX7 39 yX7_rank, Cond.instanceMethod yX7_rank, Cond.selects RX7 yX7_rank yX7_rank, Cond.code yX7_rank cX7_rank 5 (some .int), Cond.methodLink RX7 42 yX6_nextPlace, Cond.instanceMethod yX6_nextPlace, Cond.selects RX6 yX6_nextPlace yX6_nextPlace, Cond.code yX6_nextPlace cX6_nextPlace 4 (some .int), Cond.fieldLink RX6 18 "PocketKeeper$Row" "broken" "[I", Cond.methodLink RX6 56 yX6_needs, Cond.methodLink RX7 45 yX3_bigTools, Cond.instanceMethod yX3_bigTools, Cond.selects RX3 yX3_bigTools yX3_bigTools, Cond.code yX3_bigTools cX3_bigTools 1 (some .int), Cond.methodLink RX1 43 yX6_broken]
noncomputable def wsX8_soonest_r6 : List Cond := [Cond.instanceMethod yX6_broken, Cond.selects RX6 yX6_broken yX6_broken, Cond.code yX6_broken cX6_broken 2 (some .int), Cond.selects RX7 ⟨"PocketKeeper$Keeping", "keepAll", "()V"⟩ yX1_keepAll, Cond.methodLink RX8 264 yX2_least, Cond.instanceMethod yX2_least, Cond.selects RX2 yX2_least yX2_least, Cond.code yX2_least cX2_least 2 (some .int), Cond.fieldLink RX2 18 "PocketKeeper$LeastSearch" "row" "LPocketKeeper$Row;", Cond.fieldLink RX2 22 "PocketKeeper$LeastSearch" "magazine" "LPocketKeeper$Magazine;", Cond.methodLink RX2 26 yX2_findWorthKeeping, Cond.instanceMethod yX2_findWorthKeeping, Cond.selects RX2 yX2_findWorthKeeping yX2_findWorthKeeping, Cond.code yX2_findWorthKeeping cX2_findWorthKeeping 4 none, Cond.methodLink RX2 29 yX6_size, Cond.methodLink RX2 39 yX6_needs, Cond.methodLink RX2 58 yX6_broken, Cond.methodLink RX2 35 yX2_fillPlace, Cond.instanceMethod yX2_fillPlace, Cond.selects RX2 yX2_fillPlace yX2_fillPlace, Cond.code yX2_fillPlace cX2_fillPlace 4 none, Cond.methodLink RX2 61 yX3_holds, Cond.methodLink RX2 65 yX2_costIfKept, Cond.instanceMethod yX2_costIfKept]
noncomputable def wsX8_soonest_r7 : List Cond := [Cond.selects RX2 yX2_costIfKept yX2_costIfKept, Cond.code yX2_costIfKept cX2_costIfKept 5 (some .int), Cond.methodLink RX2 43 yX3_sizeOf, Cond.methodLink RX2 68 yX2_costOfFewer, Cond.instanceMethod yX2_costOfFewer, Cond.selects RX2 yX2_costOfFewer yX2_costOfFewer, Cond.code yX2_costOfFewer cX2_costOfFewer 5 (some .int), Cond.constant RX2 73 (2147483647), Cond.methodLink RX2 78 Lib.Math.min.name, Cond.static Lib.Math.min.name, Cond.initialized "java/lang/Math", Cond.code Lib.Math.min.name Lib.Math.min.code 2 (some .int), Cond.methodLink RX8 146 yX8_numberOfKeeping, Cond.instanceMethod yX8_numberOfKeeping, Cond.selects RX8 yX8_numberOfKeeping yX8_numberOfKeeping, Cond.code yX8_numberOfKeeping cX8_numberOfKeeping 4 (some .int), Cond.methodLink RX8 215 ⟨"PocketKeeper$Keeping", "inside", "(I)I"⟩, Cond.sameMethod "PocketKeeper$Keeping" "PocketKeeper$Keeping" "inside" "(I)I", Cond.selects RX5 ⟨"PocketKeeper$Keeping", "inside", "(I)I"⟩ yX1_inside, Cond.instanceMethod yX1_inside, Cond.code yX1_inside cX1_inside 2 (some .int), Cond.selects RX7 ⟨"PocketKeeper$Keeping", "inside", "(I)I"⟩ yX1_inside, Cond.methodLink RX8 220 ⟨"PocketKeeper$Keeping", "coming", "(I)I"⟩, Cond.sameMethod "PocketKeeper$Keeping" "PocketKeeper$Keeping" "coming" "(I)I"]
noncomputable def wsX8_soonest_r8 : List Cond := [Cond.selects RX5 ⟨"PocketKeeper$Keeping", "coming", "(I)I"⟩ yX1_coming, Cond.instanceMethod yX1_coming, Cond.code yX1_coming cX1_coming 2 (some .int), Cond.selects RX7 ⟨"PocketKeeper$Keeping", "coming", "(I)I"⟩ yX1_coming, Cond.methodLink RX8 223 ⟨"PocketKeeper$Keeping", "going", "(I)I"⟩, Cond.sameMethod "PocketKeeper$Keeping" "PocketKeeper$Keeping" "going" "(I)I", Cond.selects RX5 ⟨"PocketKeeper$Keeping", "going", "(I)I"⟩ yX1_going, Cond.instanceMethod yX1_going, Cond.code yX1_going cX1_going 2 (some .int), Cond.selects RX7 ⟨"PocketKeeper$Keeping", "going", "(I)I"⟩ yX1_going, Cond.methodLink RX8 226 yX3_sizeOf]
noncomputable def wsX8_soonest : List Cond := .code yX8_soonest cX8_soonest 4 (some .int) :: ((wsX8_soonest_r1 ++ (wsX8_soonest_r2 ++ (wsX8_soonest_r3 ++ (wsX8_soonest_r4 ++ (wsX8_soonest_r5 ++ (wsX8_soonest_r6 ++ (wsX8_soonest_r7 ++ wsX8_soonest_r8))))))) ++ wsX80 ++ wsX60 ++ wsX30 ++ wsX50 ++ wsX70 ++ wsX20)
noncomputable def wsX8_plan_r1 : List Cond := [Cond.fieldLink RX8 51 "PocketKeeper" "byPlan" "LPocketKeeper$Keeping;", Cond.methodLink RX8 140 yX8_refusalOfKeeping, Cond.instanceMethod yX8_refusalOfKeeping, Cond.selects RX8 yX8_refusalOfKeeping yX8_refusalOfKeeping, Cond.initialized RX8, Cond.code yX8_refusalOfKeeping cX8_refusalOfKeeping 3 (some .int), Cond.fieldLink RX8 26 "PocketKeeper" "row" "LPocketKeeper$Row;", Cond.methodLink RX8 112 yX6_isPlace, Cond.instanceMethod yX6_isPlace, Cond.selects RX6 yX6_isPlace yX6_isPlace, Cond.initialized RX6, Cond.code yX6_isPlace cX6_isPlace 2 (some .boolean), Cond.fieldLink RX6 21 "PocketKeeper$Row" "size" "I", Cond.methodLink RX8 189 yX8_isTooBig, Cond.instanceMethod yX8_isTooBig, Cond.selects RX8 yX8_isTooBig yX8_isTooBig, Cond.code yX8_isTooBig cX8_isTooBig 2 (some .boolean), Cond.fieldLink RX8 19 "PocketKeeper" "magazine" "LPocketKeeper$Magazine;", Cond.methodLink RX8 88 yX6_size, Cond.instanceMethod yX6_size, Cond.selects RX6 yX6_size yX6_size, Cond.code yX6_size cX6_size 1 (some .int), Cond.methodLink RX8 130 yX6_needs, Cond.instanceMethod yX6_needs]
noncomputable def wsX8_plan_r2 : List Cond := [Cond.selects RX6 yX6_needs yX6_needs, Cond.code yX6_needs cX6_needs 2 (some .int), Cond.fieldLink RX6 9 "PocketKeeper$Row" "needsAsTold" "[I", Cond.fieldLink RX6 15 "PocketKeeper$Row" "numbers" "[I", Cond.methodLink RX8 251 yX3_holds, Cond.instanceMethod yX3_holds, Cond.selects RX3 yX3_holds yX3_holds, Cond.initialized RX3, Cond.code yX3_holds cX3_holds 2 (some .boolean), Cond.fieldLink RX3 9 "PocketKeeper$Magazine" "room" "I", Cond.methodLink RX3 28 yX3_sizeOf, Cond.instanceMethod yX3_sizeOf, Cond.selects RX3 yX3_sizeOf yX3_sizeOf, Cond.code yX3_sizeOf cX3_sizeOf 2 (some .int), Cond.fieldLink RX3 15 "PocketKeeper$Magazine" "bigTools" "I", Cond.methodLink RX3 22 yJ6_bitCount_0f7a4, Cond.static yJ6_bitCount_0f7a4, Cond.initialized RJ6, Cond.code yJ6_bitCount_0f7a4 cJ6_bitCount_0f7a4 1 (some .int), Cond.constant RJ6 265 (1431655765), Cond.constant RJ6 266 (858993459), Cond.constant RJ6 267 (252645135), Cond.methodLink RX8 143 yX8_standKeepings, Cond.instanceMethod yX8_standKeepings]
noncomputable def wsX8_plan_r3 : List Cond := [Cond.selects RX8 yX8_standKeepings yX8_standKeepings, Cond.code yX8_standKeepings cX8_standKeepings 1 none, Cond.fieldLink RX8 254 "PocketKeeper" "keepingsStand" "Z", Cond.fieldLink RX8 42 "PocketKeeper" "bySoonest" "LPocketKeeper$Keeping;", Cond.fieldLink RX8 35 "PocketKeeper" "search" "LPocketKeeper$LeastSearch;", Cond.methodLink RX8 261 ⟨"PocketKeeper$Keeping", "keepAll", "()V"⟩, Cond.sameMethod "PocketKeeper$Keeping" "PocketKeeper$Keeping" "keepAll" "()V", Cond.selects RX5 ⟨"PocketKeeper$Keeping", "keepAll", "()V"⟩ yX1_keepAll, Cond.instanceMethod yX1_keepAll, Cond.initialized RX1, Cond.code yX1_keepAll cX1_keepAll 4 none, Cond.fieldLink RX1 21 "PocketKeeper$Keeping" "row" "LPocketKeeper$Row;", Cond.fieldLink RX1 9 "PocketKeeper$Keeping" "inside" "[I", Cond.fieldLink RX1 15 "PocketKeeper$Keeping" "coming" "[I", Cond.fieldLink RX1 18 "PocketKeeper$Keeping" "going" "[I", Cond.methodLink RX1 29 yX6_size, Cond.methodLink RX1 35 yX6_needs, Cond.methodLink RX1 39 ⟨"PocketKeeper$Keeping", "staying", "(II)I"⟩, Cond.sameMethod "PocketKeeper$Keeping" "PocketKeeper$Keeping" "staying" "(II)I", Cond.selects RX5 ⟨"PocketKeeper$Keeping", "staying", "(II)I"⟩ yX5_staying, Cond.instanceMethod yX5_staying, Cond.initialized RX5, Cond.code yX5_staying cX5_staying 3 (some .int), Cond.fieldLink RX5 7 "PocketKeeper$PlanKeeping" "search" "LPocketKeeper$LeastSearch;"]
noncomputable def wsX8_plan_r4 : List Cond := [Cond.methodLink RX5 13 yX2_leastSetAtLeastCost, Cond.instanceMethod yX2_leastSetAtLeastCost, Cond.selects RX2 yX2_leastSetAtLeastCost yX2_leastSetAtLeastCost, Cond.initialized RX2, Cond.code yX2_leastSetAtLeastCost cX2_leastSetAtLeastCost 7 (some .int), Cond.fieldLink RX2 9 "PocketKeeper$LeastSearch" "worthKeeping" "[I", Cond.fieldLink RX2 15 "PocketKeeper$LeastSearch" "costBehind" "[I", Cond.methodLink RX2 48 yX2_cell, Cond.static yX2_cell, Cond.code yX2_cell cX2_cell 2 (some .int), Cond.methodLink RX2 52 yX2_subsets, Cond.static yX2_subsets, Cond.code yX2_subsets cX2_subsets 1 (some .int), Cond.methodLink RX2 83 yJ6_bitCount_0f7a4, Cond.methodLink RX2 55 yX2_subsetBehind, Cond.static yX2_subsetBehind, Cond.code yX2_subsetBehind cX2_subsetBehind 2 (some .int), Cond.selects RX7 ⟨"PocketKeeper$Keeping", "staying", "(II)I"⟩ yX7_staying, Cond.instanceMethod yX7_staying, Cond.initialized RX7, Cond.code yX7_staying cX7_staying 5 (some .int), Cond.fieldLink RX7 9 "PocketKeeper$SoonestKeeping" "magazine" "LPocketKeeper$Magazine;", Cond.sameField "PocketKeeper$SoonestKeeping" "PocketKeeper$Keeping" "magazine" "LPocketKeeper$Magazine;", Cond.fieldLink RX7 15 "PocketKeeper$SoonestKeeping" "row" "LPocketKeeper$Row;"]
noncomputable def wsX8_plan_r5 : List Cond := [Cond.sameField "PocketKeeper$SoonestKeeping" "PocketKeeper$Keeping" "row" "LPocketKeeper$Row;", Cond.methodLink RX7 19 yX6_needs, Cond.methodLink RX7 25 yX3_holds, Cond.methodLink RX7 31 yX7_firstToGo, Cond.instanceMethod yX7_firstToGo, Cond.selects RX7 yX7_firstToGo yX7_firstToGo, Cond.code yX7_firstToGo cX7_firstToGo 6 (some .int), Cond.static yX8_hasTool, Cond.code yX8_hasTool cX8_hasTool 2 (some .boolean), Cond.methodLink RX7 39 yX7_rank, Cond.instanceMethod yX7_rank, Cond.selects RX7 yX7_rank yX7_rank, Cond.code yX7_rank cX7_rank 5 (some .int), Cond.methodLink RX7 42 yX6_nextPlace, Cond.instanceMethod yX6_nextPlace, Cond.selects RX6 yX6_nextPlace yX6_nextPlace, Cond.code yX6_nextPlace cX6_nextPlace 4 (some .int), Cond.fieldLink RX6 18 "PocketKeeper$Row" "broken" "[I", Cond.methodLink RX6 56 yX6_needs, Cond.methodLink RX7 45 yX3_bigTools, Cond.instanceMethod yX3_bigTools, Cond.selects RX3 yX3_bigTools yX3_bigTools, Cond.code yX3_bigTools cX3_bigTools 1 (some .int), Cond.methodLink RX1 43 yX6_broken]
noncomputable def wsX8_plan_r6 : List Cond := [Cond.instanceMethod yX6_broken, Cond.selects RX6 yX6_broken yX6_broken, Cond.code yX6_broken cX6_broken 2 (some .int), Cond.selects RX7 ⟨"PocketKeeper$Keeping", "keepAll", "()V"⟩ yX1_keepAll, Cond.methodLink RX8 264 yX2_least, Cond.instanceMethod yX2_least, Cond.selects RX2 yX2_least yX2_least, Cond.code yX2_least cX2_least 2 (some .int), Cond.fieldLink RX2 18 "PocketKeeper$LeastSearch" "row" "LPocketKeeper$Row;", Cond.fieldLink RX2 22 "PocketKeeper$LeastSearch" "magazine" "LPocketKeeper$Magazine;", Cond.methodLink RX2 26 yX2_findWorthKeeping, Cond.instanceMethod yX2_findWorthKeeping, Cond.selects RX2 yX2_findWorthKeeping yX2_findWorthKeeping, Cond.code yX2_findWorthKeeping cX2_findWorthKeeping 4 none, Cond.methodLink RX2 29 yX6_size, Cond.methodLink RX2 39 yX6_needs, Cond.methodLink RX2 58 yX6_broken, Cond.methodLink RX2 35 yX2_fillPlace, Cond.instanceMethod yX2_fillPlace, Cond.selects RX2 yX2_fillPlace yX2_fillPlace, Cond.code yX2_fillPlace cX2_fillPlace 4 none, Cond.methodLink RX2 61 yX3_holds, Cond.methodLink RX2 65 yX2_costIfKept, Cond.instanceMethod yX2_costIfKept]
noncomputable def wsX8_plan_r7 : List Cond := [Cond.selects RX2 yX2_costIfKept yX2_costIfKept, Cond.code yX2_costIfKept cX2_costIfKept 5 (some .int), Cond.methodLink RX2 43 yX3_sizeOf, Cond.methodLink RX2 68 yX2_costOfFewer, Cond.instanceMethod yX2_costOfFewer, Cond.selects RX2 yX2_costOfFewer yX2_costOfFewer, Cond.code yX2_costOfFewer cX2_costOfFewer 5 (some .int), Cond.constant RX2 73 (2147483647), Cond.methodLink RX2 78 Lib.Math.min.name, Cond.static Lib.Math.min.name, Cond.initialized "java/lang/Math", Cond.code Lib.Math.min.name Lib.Math.min.code 2 (some .int), Cond.methodLink RX8 146 yX8_numberOfKeeping, Cond.instanceMethod yX8_numberOfKeeping, Cond.selects RX8 yX8_numberOfKeeping yX8_numberOfKeeping, Cond.code yX8_numberOfKeeping cX8_numberOfKeeping 4 (some .int), Cond.methodLink RX8 215 ⟨"PocketKeeper$Keeping", "inside", "(I)I"⟩, Cond.sameMethod "PocketKeeper$Keeping" "PocketKeeper$Keeping" "inside" "(I)I", Cond.selects RX5 ⟨"PocketKeeper$Keeping", "inside", "(I)I"⟩ yX1_inside, Cond.instanceMethod yX1_inside, Cond.code yX1_inside cX1_inside 2 (some .int), Cond.selects RX7 ⟨"PocketKeeper$Keeping", "inside", "(I)I"⟩ yX1_inside, Cond.methodLink RX8 220 ⟨"PocketKeeper$Keeping", "coming", "(I)I"⟩, Cond.sameMethod "PocketKeeper$Keeping" "PocketKeeper$Keeping" "coming" "(I)I"]
noncomputable def wsX8_plan_r8 : List Cond := [Cond.selects RX5 ⟨"PocketKeeper$Keeping", "coming", "(I)I"⟩ yX1_coming, Cond.instanceMethod yX1_coming, Cond.code yX1_coming cX1_coming 2 (some .int), Cond.selects RX7 ⟨"PocketKeeper$Keeping", "coming", "(I)I"⟩ yX1_coming, Cond.methodLink RX8 223 ⟨"PocketKeeper$Keeping", "going", "(I)I"⟩, Cond.sameMethod "PocketKeeper$Keeping" "PocketKeeper$Keeping" "going" "(I)I", Cond.selects RX5 ⟨"PocketKeeper$Keeping", "going", "(I)I"⟩ yX1_going, Cond.instanceMethod yX1_going, Cond.code yX1_going cX1_going 2 (some .int), Cond.selects RX7 ⟨"PocketKeeper$Keeping", "going", "(I)I"⟩ yX1_going, Cond.methodLink RX8 226 yX3_sizeOf]
noncomputable def wsX8_plan : List Cond := .code yX8_plan cX8_plan 4 (some .int) :: ((wsX8_plan_r1 ++ (wsX8_plan_r2 ++ (wsX8_plan_r3 ++ (wsX8_plan_r4 ++ (wsX8_plan_r5 ++ (wsX8_plan_r6 ++ (wsX8_plan_r7 ++ wsX8_plan_r8))))))) ++ wsX80 ++ wsX60 ++ wsX30 ++ wsX50 ++ wsX70 ++ wsX20)
noncomputable def wsX8_canKeep_r1 : List Cond := [Cond.fieldLink RX8 26 "PocketKeeper" "row" "LPocketKeeper$Row;", Cond.methodLink RX8 88 yX6_size, Cond.instanceMethod yX6_size, Cond.selects RX6 yX6_size yX6_size, Cond.initialized RX6, Cond.code yX6_size cX6_size 1 (some .int), Cond.fieldLink RX6 21 "PocketKeeper$Row" "size" "I", Cond.methodLink RX8 189 yX8_isTooBig, Cond.instanceMethod yX8_isTooBig, Cond.selects RX8 yX8_isTooBig yX8_isTooBig, Cond.initialized RX8, Cond.code yX8_isTooBig cX8_isTooBig 2 (some .boolean), Cond.fieldLink RX8 19 "PocketKeeper" "magazine" "LPocketKeeper$Magazine;", Cond.methodLink RX8 130 yX6_needs, Cond.instanceMethod yX6_needs, Cond.selects RX6 yX6_needs yX6_needs, Cond.code yX6_needs cX6_needs 2 (some .int), Cond.fieldLink RX6 9 "PocketKeeper$Row" "needsAsTold" "[I", Cond.fieldLink RX6 15 "PocketKeeper$Row" "numbers" "[I", Cond.methodLink RX8 251 yX3_holds, Cond.instanceMethod yX3_holds, Cond.selects RX3 yX3_holds yX3_holds, Cond.initialized RX3, Cond.code yX3_holds cX3_holds 2 (some .boolean)]
noncomputable def wsX8_canKeep_r2 : List Cond := [Cond.fieldLink RX3 9 "PocketKeeper$Magazine" "room" "I", Cond.methodLink RX3 28 yX3_sizeOf, Cond.instanceMethod yX3_sizeOf, Cond.selects RX3 yX3_sizeOf yX3_sizeOf, Cond.code yX3_sizeOf cX3_sizeOf 2 (some .int), Cond.fieldLink RX3 15 "PocketKeeper$Magazine" "bigTools" "I", Cond.methodLink RX3 22 yJ6_bitCount_0f7a4, Cond.static yJ6_bitCount_0f7a4, Cond.initialized RJ6, Cond.code yJ6_bitCount_0f7a4 cJ6_bitCount_0f7a4 1 (some .int), Cond.constant RJ6 265 (1431655765), Cond.constant RJ6 266 (858993459), Cond.constant RJ6 267 (252645135)]
noncomputable def wsX8_canKeep : List Cond := .code yX8_canKeep cX8_canKeep 1 (some .boolean) :: ((wsX8_canKeep_r1 ++ wsX8_canKeep_r2) ++ wsX80 ++ wsX60 ++ wsX30)
noncomputable def wsX8_numberOfCost_r1 : List Cond := [Cond.fieldLink RX8 42 "PocketKeeper" "bySoonest" "LPocketKeeper$Keeping;", Cond.fieldLink RX8 51 "PocketKeeper" "byPlan" "LPocketKeeper$Keeping;", Cond.fieldLink RX8 19 "PocketKeeper" "magazine" "LPocketKeeper$Magazine;", Cond.fieldLink RX8 26 "PocketKeeper" "row" "LPocketKeeper$Row;", Cond.methodLink RX8 229 ⟨"PocketKeeper$Keeping", "totalCost", "()I"⟩, Cond.sameMethod "PocketKeeper$Keeping" "PocketKeeper$Keeping" "totalCost" "()I", Cond.selects RX5 ⟨"PocketKeeper$Keeping", "totalCost", "()I"⟩ yX1_totalCost, Cond.instanceMethod yX1_totalCost, Cond.initialized RX1, Cond.code yX1_totalCost cX1_totalCost 3 (some .int), Cond.fieldLink RX1 21 "PocketKeeper$Keeping" "row" "LPocketKeeper$Row;", Cond.fieldLink RX1 25 "PocketKeeper$Keeping" "magazine" "LPocketKeeper$Magazine;", Cond.fieldLink RX1 15 "PocketKeeper$Keeping" "coming" "[I", Cond.methodLink RX1 29 yX6_size, Cond.instanceMethod yX6_size, Cond.selects RX6 yX6_size yX6_size, Cond.initialized RX6, Cond.code yX6_size cX6_size 1 (some .int), Cond.fieldLink RX6 21 "PocketKeeper$Row" "size" "I", Cond.methodLink RX1 46 yX3_sizeOf, Cond.instanceMethod yX3_sizeOf, Cond.selects RX3 yX3_sizeOf yX3_sizeOf, Cond.initialized RX3, Cond.code yX3_sizeOf cX3_sizeOf 2 (some .int)]
noncomputable def wsX8_numberOfCost_r2 : List Cond := [Cond.fieldLink RX3 15 "PocketKeeper$Magazine" "bigTools" "I", Cond.methodLink RX3 22 yJ6_bitCount_0f7a4, Cond.static yJ6_bitCount_0f7a4, Cond.initialized RJ6, Cond.code yJ6_bitCount_0f7a4 cJ6_bitCount_0f7a4 1 (some .int), Cond.constant RJ6 265 (1431655765), Cond.constant RJ6 266 (858993459), Cond.constant RJ6 267 (252645135), Cond.selects RX7 ⟨"PocketKeeper$Keeping", "totalCost", "()I"⟩ yX1_totalCost, Cond.methodLink RX8 232 yX6_allNeeds, Cond.instanceMethod yX6_allNeeds, Cond.selects RX6 yX6_allNeeds yX6_allNeeds, Cond.code yX6_allNeeds cX6_allNeeds 3 (some .int), Cond.methodLink RX6 56 yX6_needs, Cond.instanceMethod yX6_needs, Cond.selects RX6 yX6_needs yX6_needs, Cond.code yX6_needs cX6_needs 2 (some .int), Cond.fieldLink RX6 9 "PocketKeeper$Row" "needsAsTold" "[I", Cond.fieldLink RX6 15 "PocketKeeper$Row" "numbers" "[I", Cond.methodLink RX8 226 yX3_sizeOf, Cond.methodLink RX8 235 ⟨"PocketKeeper$Keeping", "totalComing", "()I"⟩, Cond.sameMethod "PocketKeeper$Keeping" "PocketKeeper$Keeping" "totalComing" "()I", Cond.selects RX5 ⟨"PocketKeeper$Keeping", "totalComing", "()I"⟩ yX1_totalComing, Cond.instanceMethod yX1_totalComing]
noncomputable def wsX8_numberOfCost_r3 : List Cond := [Cond.code yX1_totalComing cX1_totalComing 3 (some .int), Cond.methodLink RX1 51 yJ6_bitCount_0f7a4, Cond.selects RX7 ⟨"PocketKeeper$Keeping", "totalComing", "()I"⟩ yX1_totalComing]
noncomputable def wsX8_numberOfCost : List Cond := .code yX8_numberOfCost cX8_numberOfCost 2 (some .int) :: ((wsX8_numberOfCost_r1 ++ (wsX8_numberOfCost_r2 ++ wsX8_numberOfCost_r3)) ++ wsX80 ++ wsX50 ++ wsX70 ++ wsX60 ++ wsX30)
noncomputable def wsX8_cost_r1 : List Cond := [Cond.methodLink RX8 150 yX8_canKeep, Cond.instanceMethod yX8_canKeep, Cond.selects RX8 yX8_canKeep yX8_canKeep, Cond.initialized RX8, Cond.code yX8_canKeep cX8_canKeep 1 (some .boolean), Cond.fieldLink RX8 26 "PocketKeeper" "row" "LPocketKeeper$Row;", Cond.methodLink RX8 88 yX6_size, Cond.instanceMethod yX6_size, Cond.selects RX6 yX6_size yX6_size, Cond.initialized RX6, Cond.code yX6_size cX6_size 1 (some .int), Cond.fieldLink RX6 21 "PocketKeeper$Row" "size" "I", Cond.methodLink RX8 189 yX8_isTooBig, Cond.instanceMethod yX8_isTooBig, Cond.selects RX8 yX8_isTooBig yX8_isTooBig, Cond.code yX8_isTooBig cX8_isTooBig 2 (some .boolean), Cond.fieldLink RX8 19 "PocketKeeper" "magazine" "LPocketKeeper$Magazine;", Cond.methodLink RX8 130 yX6_needs, Cond.instanceMethod yX6_needs, Cond.selects RX6 yX6_needs yX6_needs, Cond.code yX6_needs cX6_needs 2 (some .int), Cond.fieldLink RX6 9 "PocketKeeper$Row" "needsAsTold" "[I", Cond.fieldLink RX6 15 "PocketKeeper$Row" "numbers" "[I", Cond.methodLink RX8 251 yX3_holds]
noncomputable def wsX8_cost_r2 : List Cond := [Cond.instanceMethod yX3_holds, Cond.selects RX3 yX3_holds yX3_holds, Cond.initialized RX3, Cond.code yX3_holds cX3_holds 2 (some .boolean), Cond.fieldLink RX3 9 "PocketKeeper$Magazine" "room" "I", Cond.methodLink RX3 28 yX3_sizeOf, Cond.instanceMethod yX3_sizeOf, Cond.selects RX3 yX3_sizeOf yX3_sizeOf, Cond.code yX3_sizeOf cX3_sizeOf 2 (some .int), Cond.fieldLink RX3 15 "PocketKeeper$Magazine" "bigTools" "I", Cond.methodLink RX3 22 yJ6_bitCount_0f7a4, Cond.static yJ6_bitCount_0f7a4, Cond.initialized RJ6, Cond.code yJ6_bitCount_0f7a4 cJ6_bitCount_0f7a4 1 (some .int), Cond.constant RJ6 265 (1431655765), Cond.constant RJ6 266 (858993459), Cond.constant RJ6 267 (252645135), Cond.methodLink RX8 143 yX8_standKeepings, Cond.instanceMethod yX8_standKeepings, Cond.selects RX8 yX8_standKeepings yX8_standKeepings, Cond.code yX8_standKeepings cX8_standKeepings 1 none, Cond.fieldLink RX8 254 "PocketKeeper" "keepingsStand" "Z", Cond.fieldLink RX8 42 "PocketKeeper" "bySoonest" "LPocketKeeper$Keeping;", Cond.fieldLink RX8 35 "PocketKeeper" "search" "LPocketKeeper$LeastSearch;"]
noncomputable def wsX8_cost_r3 : List Cond := [Cond.fieldLink RX8 51 "PocketKeeper" "byPlan" "LPocketKeeper$Keeping;", Cond.methodLink RX8 261 ⟨"PocketKeeper$Keeping", "keepAll", "()V"⟩, Cond.sameMethod "PocketKeeper$Keeping" "PocketKeeper$Keeping" "keepAll" "()V", Cond.selects RX5 ⟨"PocketKeeper$Keeping", "keepAll", "()V"⟩ yX1_keepAll, Cond.instanceMethod yX1_keepAll, Cond.initialized RX1, Cond.code yX1_keepAll cX1_keepAll 4 none, Cond.fieldLink RX1 21 "PocketKeeper$Keeping" "row" "LPocketKeeper$Row;", Cond.fieldLink RX1 9 "PocketKeeper$Keeping" "inside" "[I", Cond.fieldLink RX1 15 "PocketKeeper$Keeping" "coming" "[I", Cond.fieldLink RX1 18 "PocketKeeper$Keeping" "going" "[I", Cond.methodLink RX1 29 yX6_size, Cond.methodLink RX1 35 yX6_needs, Cond.methodLink RX1 39 ⟨"PocketKeeper$Keeping", "staying", "(II)I"⟩, Cond.sameMethod "PocketKeeper$Keeping" "PocketKeeper$Keeping" "staying" "(II)I", Cond.selects RX5 ⟨"PocketKeeper$Keeping", "staying", "(II)I"⟩ yX5_staying, Cond.instanceMethod yX5_staying, Cond.initialized RX5, Cond.code yX5_staying cX5_staying 3 (some .int), Cond.fieldLink RX5 7 "PocketKeeper$PlanKeeping" "search" "LPocketKeeper$LeastSearch;", Cond.methodLink RX5 13 yX2_leastSetAtLeastCost, Cond.instanceMethod yX2_leastSetAtLeastCost, Cond.selects RX2 yX2_leastSetAtLeastCost yX2_leastSetAtLeastCost, Cond.initialized RX2]
noncomputable def wsX8_cost_r4 : List Cond := [Cond.code yX2_leastSetAtLeastCost cX2_leastSetAtLeastCost 7 (some .int), Cond.fieldLink RX2 9 "PocketKeeper$LeastSearch" "worthKeeping" "[I", Cond.fieldLink RX2 15 "PocketKeeper$LeastSearch" "costBehind" "[I", Cond.methodLink RX2 48 yX2_cell, Cond.static yX2_cell, Cond.code yX2_cell cX2_cell 2 (some .int), Cond.methodLink RX2 52 yX2_subsets, Cond.static yX2_subsets, Cond.code yX2_subsets cX2_subsets 1 (some .int), Cond.methodLink RX2 83 yJ6_bitCount_0f7a4, Cond.methodLink RX2 55 yX2_subsetBehind, Cond.static yX2_subsetBehind, Cond.code yX2_subsetBehind cX2_subsetBehind 2 (some .int), Cond.selects RX7 ⟨"PocketKeeper$Keeping", "staying", "(II)I"⟩ yX7_staying, Cond.instanceMethod yX7_staying, Cond.initialized RX7, Cond.code yX7_staying cX7_staying 5 (some .int), Cond.fieldLink RX7 9 "PocketKeeper$SoonestKeeping" "magazine" "LPocketKeeper$Magazine;", Cond.sameField "PocketKeeper$SoonestKeeping" "PocketKeeper$Keeping" "magazine" "LPocketKeeper$Magazine;", Cond.fieldLink RX7 15 "PocketKeeper$SoonestKeeping" "row" "LPocketKeeper$Row;", Cond.sameField "PocketKeeper$SoonestKeeping" "PocketKeeper$Keeping" "row" "LPocketKeeper$Row;", Cond.methodLink RX7 19 yX6_needs, Cond.methodLink RX7 25 yX3_holds, Cond.methodLink RX7 31 yX7_firstToGo]
noncomputable def wsX8_cost_r5 : List Cond := [Cond.instanceMethod yX7_firstToGo, Cond.selects RX7 yX7_firstToGo yX7_firstToGo, Cond.code yX7_firstToGo cX7_firstToGo 6 (some .int), Cond.static yX8_hasTool, Cond.code yX8_hasTool cX8_hasTool 2 (some .boolean), Cond.methodLink RX7 39 yX7_rank, Cond.instanceMethod yX7_rank, Cond.selects RX7 yX7_rank yX7_rank, Cond.code yX7_rank cX7_rank 5 (some .int), Cond.methodLink RX7 42 yX6_nextPlace, Cond.instanceMethod yX6_nextPlace, Cond.selects RX6 yX6_nextPlace yX6_nextPlace, Cond.code yX6_nextPlace cX6_nextPlace 4 (some .int), Cond.fieldLink RX6 18 "PocketKeeper$Row" "broken" "[I", Cond.methodLink RX6 56 yX6_needs, Cond.methodLink RX7 45 yX3_bigTools, Cond.instanceMethod yX3_bigTools, Cond.selects RX3 yX3_bigTools yX3_bigTools, Cond.code yX3_bigTools cX3_bigTools 1 (some .int), Cond.methodLink RX1 43 yX6_broken, Cond.instanceMethod yX6_broken, Cond.selects RX6 yX6_broken yX6_broken, Cond.code yX6_broken cX6_broken 2 (some .int), Cond.selects RX7 ⟨"PocketKeeper$Keeping", "keepAll", "()V"⟩ yX1_keepAll]
noncomputable def wsX8_cost_r6 : List Cond := [Cond.methodLink RX8 264 yX2_least, Cond.instanceMethod yX2_least, Cond.selects RX2 yX2_least yX2_least, Cond.code yX2_least cX2_least 2 (some .int), Cond.fieldLink RX2 18 "PocketKeeper$LeastSearch" "row" "LPocketKeeper$Row;", Cond.fieldLink RX2 22 "PocketKeeper$LeastSearch" "magazine" "LPocketKeeper$Magazine;", Cond.methodLink RX2 26 yX2_findWorthKeeping, Cond.instanceMethod yX2_findWorthKeeping, Cond.selects RX2 yX2_findWorthKeeping yX2_findWorthKeeping, Cond.code yX2_findWorthKeeping cX2_findWorthKeeping 4 none, Cond.methodLink RX2 29 yX6_size, Cond.methodLink RX2 39 yX6_needs, Cond.methodLink RX2 58 yX6_broken, Cond.methodLink RX2 35 yX2_fillPlace, Cond.instanceMethod yX2_fillPlace, Cond.selects RX2 yX2_fillPlace yX2_fillPlace, Cond.code yX2_fillPlace cX2_fillPlace 4 none, Cond.methodLink RX2 61 yX3_holds, Cond.methodLink RX2 65 yX2_costIfKept, Cond.instanceMethod yX2_costIfKept, Cond.selects RX2 yX2_costIfKept yX2_costIfKept, Cond.code yX2_costIfKept cX2_costIfKept 5 (some .int), Cond.methodLink RX2 43 yX3_sizeOf, Cond.methodLink RX2 68 yX2_costOfFewer]
noncomputable def wsX8_cost_r7 : List Cond := [Cond.instanceMethod yX2_costOfFewer, Cond.selects RX2 yX2_costOfFewer yX2_costOfFewer, Cond.code yX2_costOfFewer cX2_costOfFewer 5 (some .int), Cond.constant RX2 73 (2147483647), Cond.methodLink RX2 78 Lib.Math.min.name, Cond.static Lib.Math.min.name, Cond.initialized "java/lang/Math", Cond.code Lib.Math.min.name Lib.Math.min.code 2 (some .int), Cond.methodLink RX8 153 yX8_numberOfCost, Cond.instanceMethod yX8_numberOfCost, Cond.selects RX8 yX8_numberOfCost yX8_numberOfCost, Cond.code yX8_numberOfCost cX8_numberOfCost 2 (some .int), Cond.methodLink RX8 229 ⟨"PocketKeeper$Keeping", "totalCost", "()I"⟩, Cond.sameMethod "PocketKeeper$Keeping" "PocketKeeper$Keeping" "totalCost" "()I", Cond.selects RX5 ⟨"PocketKeeper$Keeping", "totalCost", "()I"⟩ yX1_totalCost, Cond.instanceMethod yX1_totalCost, Cond.code yX1_totalCost cX1_totalCost 3 (some .int), Cond.fieldLink RX1 25 "PocketKeeper$Keeping" "magazine" "LPocketKeeper$Magazine;", Cond.methodLink RX1 46 yX3_sizeOf, Cond.selects RX7 ⟨"PocketKeeper$Keeping", "totalCost", "()I"⟩ yX1_totalCost, Cond.methodLink RX8 232 yX6_allNeeds, Cond.instanceMethod yX6_allNeeds, Cond.selects RX6 yX6_allNeeds yX6_allNeeds, Cond.code yX6_allNeeds cX6_allNeeds 3 (some .int)]
noncomputable def wsX8_cost_r8 : List Cond := [Cond.methodLink RX8 226 yX3_sizeOf, Cond.methodLink RX8 235 ⟨"PocketKeeper$Keeping", "totalComing", "()I"⟩, Cond.sameMethod "PocketKeeper$Keeping" "PocketKeeper$Keeping" "totalComing" "()I", Cond.selects RX5 ⟨"PocketKeeper$Keeping", "totalComing", "()I"⟩ yX1_totalComing, Cond.instanceMethod yX1_totalComing, Cond.code yX1_totalComing cX1_totalComing 3 (some .int), Cond.methodLink RX1 51 yJ6_bitCount_0f7a4, Cond.selects RX7 ⟨"PocketKeeper$Keeping", "totalComing", "()I"⟩ yX1_totalComing]
noncomputable def wsX8_cost : List Cond := .code yX8_cost cX8_cost 2 (some .int) :: ((wsX8_cost_r1 ++ (wsX8_cost_r2 ++ (wsX8_cost_r3 ++ (wsX8_cost_r4 ++ (wsX8_cost_r5 ++ (wsX8_cost_r6 ++ (wsX8_cost_r7 ++ wsX8_cost_r8))))))) ++ wsX80 ++ wsX60 ++ wsX30 ++ wsX50 ++ wsX70 ++ wsX20)
noncomputable def wsX8_bitsOfDouble : List Cond := .code yX8_bitsOfDouble cX8_bitsOfDouble 7 (some .long) :: ([.constantLong RX8 270 (1023), .constantDouble RX8 272 (4611686018427387904), .constantDouble RX8 274 (4841369599423283200)])
noncomputable def wsX8_bitsOfMean_r1 : List Cond := [Cond.fieldLink RX8 42 "PocketKeeper" "bySoonest" "LPocketKeeper$Keeping;", Cond.fieldLink RX8 26 "PocketKeeper" "row" "LPocketKeeper$Row;", Cond.methodLink RX8 229 ⟨"PocketKeeper$Keeping", "totalCost", "()I"⟩, Cond.sameMethod "PocketKeeper$Keeping" "PocketKeeper$Keeping" "totalCost" "()I", Cond.selects RX5 ⟨"PocketKeeper$Keeping", "totalCost", "()I"⟩ yX1_totalCost, Cond.instanceMethod yX1_totalCost, Cond.initialized RX1, Cond.code yX1_totalCost cX1_totalCost 3 (some .int), Cond.fieldLink RX1 21 "PocketKeeper$Keeping" "row" "LPocketKeeper$Row;", Cond.fieldLink RX1 25 "PocketKeeper$Keeping" "magazine" "LPocketKeeper$Magazine;", Cond.fieldLink RX1 15 "PocketKeeper$Keeping" "coming" "[I", Cond.methodLink RX1 29 yX6_size, Cond.instanceMethod yX6_size, Cond.selects RX6 yX6_size yX6_size, Cond.initialized RX6, Cond.code yX6_size cX6_size 1 (some .int), Cond.fieldLink RX6 21 "PocketKeeper$Row" "size" "I", Cond.methodLink RX1 46 yX3_sizeOf, Cond.instanceMethod yX3_sizeOf, Cond.selects RX3 yX3_sizeOf yX3_sizeOf, Cond.initialized RX3, Cond.code yX3_sizeOf cX3_sizeOf 2 (some .int), Cond.fieldLink RX3 15 "PocketKeeper$Magazine" "bigTools" "I", Cond.methodLink RX3 22 yJ6_bitCount_0f7a4]
noncomputable def wsX8_bitsOfMean_r2 : List Cond := [Cond.static yJ6_bitCount_0f7a4, Cond.initialized RJ6, Cond.code yJ6_bitCount_0f7a4 cJ6_bitCount_0f7a4 1 (some .int), Cond.constant RJ6 265 (1431655765), Cond.constant RJ6 266 (858993459), Cond.constant RJ6 267 (252645135), Cond.selects RX7 ⟨"PocketKeeper$Keeping", "totalCost", "()I"⟩ yX1_totalCost, Cond.methodLink RX8 88 yX6_size, Cond.methodLink RX8 238 yX8_bitsOfDouble, Cond.static yX8_bitsOfDouble, Cond.initialized RX8, Cond.code yX8_bitsOfDouble cX8_bitsOfDouble 7 (some .long), Cond.constantLong RX8 270 (1023), Cond.constantDouble RX8 272 (4611686018427387904), Cond.constantDouble RX8 274 (4841369599423283200)]
noncomputable def wsX8_bitsOfMean : List Cond := .code yX8_bitsOfMean cX8_bitsOfMean 1 (some .long) :: ((wsX8_bitsOfMean_r1 ++ wsX8_bitsOfMean_r2) ++ wsX80 ++ wsX50 ++ wsX70 ++ wsX60 ++ wsX30)
noncomputable def wsX8_mean_r1 : List Cond := [Cond.constantLong RX8 156 (-1003), Cond.methodLink RX8 150 yX8_canKeep, Cond.instanceMethod yX8_canKeep, Cond.selects RX8 yX8_canKeep yX8_canKeep, Cond.initialized RX8, Cond.code yX8_canKeep cX8_canKeep 1 (some .boolean), Cond.fieldLink RX8 26 "PocketKeeper" "row" "LPocketKeeper$Row;", Cond.methodLink RX8 88 yX6_size, Cond.instanceMethod yX6_size, Cond.selects RX6 yX6_size yX6_size, Cond.initialized RX6, Cond.code yX6_size cX6_size 1 (some .int), Cond.fieldLink RX6 21 "PocketKeeper$Row" "size" "I", Cond.methodLink RX8 189 yX8_isTooBig, Cond.instanceMethod yX8_isTooBig, Cond.selects RX8 yX8_isTooBig yX8_isTooBig, Cond.code yX8_isTooBig cX8_isTooBig 2 (some .boolean), Cond.fieldLink RX8 19 "PocketKeeper" "magazine" "LPocketKeeper$Magazine;", Cond.methodLink RX8 130 yX6_needs, Cond.instanceMethod yX6_needs, Cond.selects RX6 yX6_needs yX6_needs, Cond.code yX6_needs cX6_needs 2 (some .int), Cond.fieldLink RX6 9 "PocketKeeper$Row" "needsAsTold" "[I", Cond.fieldLink RX6 15 "PocketKeeper$Row" "numbers" "[I"]
noncomputable def wsX8_mean_r2 : List Cond := [Cond.methodLink RX8 251 yX3_holds, Cond.instanceMethod yX3_holds, Cond.selects RX3 yX3_holds yX3_holds, Cond.initialized RX3, Cond.code yX3_holds cX3_holds 2 (some .boolean), Cond.fieldLink RX3 9 "PocketKeeper$Magazine" "room" "I", Cond.methodLink RX3 28 yX3_sizeOf, Cond.instanceMethod yX3_sizeOf, Cond.selects RX3 yX3_sizeOf yX3_sizeOf, Cond.code yX3_sizeOf cX3_sizeOf 2 (some .int), Cond.fieldLink RX3 15 "PocketKeeper$Magazine" "bigTools" "I", Cond.methodLink RX3 22 yJ6_bitCount_0f7a4, Cond.static yJ6_bitCount_0f7a4, Cond.initialized RJ6, Cond.code yJ6_bitCount_0f7a4 cJ6_bitCount_0f7a4 1 (some .int), Cond.constant RJ6 265 (1431655765), Cond.constant RJ6 266 (858993459), Cond.constant RJ6 267 (252645135), Cond.methodLink RX8 143 yX8_standKeepings, Cond.instanceMethod yX8_standKeepings, Cond.selects RX8 yX8_standKeepings yX8_standKeepings, Cond.code yX8_standKeepings cX8_standKeepings 1 none, Cond.fieldLink RX8 254 "PocketKeeper" "keepingsStand" "Z", Cond.fieldLink RX8 42 "PocketKeeper" "bySoonest" "LPocketKeeper$Keeping;"]
noncomputable def wsX8_mean_r3 : List Cond := [Cond.fieldLink RX8 35 "PocketKeeper" "search" "LPocketKeeper$LeastSearch;", Cond.fieldLink RX8 51 "PocketKeeper" "byPlan" "LPocketKeeper$Keeping;", Cond.methodLink RX8 261 ⟨"PocketKeeper$Keeping", "keepAll", "()V"⟩, Cond.sameMethod "PocketKeeper$Keeping" "PocketKeeper$Keeping" "keepAll" "()V", Cond.selects RX5 ⟨"PocketKeeper$Keeping", "keepAll", "()V"⟩ yX1_keepAll, Cond.instanceMethod yX1_keepAll, Cond.initialized RX1, Cond.code yX1_keepAll cX1_keepAll 4 none, Cond.fieldLink RX1 21 "PocketKeeper$Keeping" "row" "LPocketKeeper$Row;", Cond.fieldLink RX1 9 "PocketKeeper$Keeping" "inside" "[I", Cond.fieldLink RX1 15 "PocketKeeper$Keeping" "coming" "[I", Cond.fieldLink RX1 18 "PocketKeeper$Keeping" "going" "[I", Cond.methodLink RX1 29 yX6_size, Cond.methodLink RX1 35 yX6_needs, Cond.methodLink RX1 39 ⟨"PocketKeeper$Keeping", "staying", "(II)I"⟩, Cond.sameMethod "PocketKeeper$Keeping" "PocketKeeper$Keeping" "staying" "(II)I", Cond.selects RX5 ⟨"PocketKeeper$Keeping", "staying", "(II)I"⟩ yX5_staying, Cond.instanceMethod yX5_staying, Cond.initialized RX5, Cond.code yX5_staying cX5_staying 3 (some .int), Cond.fieldLink RX5 7 "PocketKeeper$PlanKeeping" "search" "LPocketKeeper$LeastSearch;", Cond.methodLink RX5 13 yX2_leastSetAtLeastCost, Cond.instanceMethod yX2_leastSetAtLeastCost, Cond.selects RX2 yX2_leastSetAtLeastCost yX2_leastSetAtLeastCost]
noncomputable def wsX8_mean_r4 : List Cond := [Cond.initialized RX2, Cond.code yX2_leastSetAtLeastCost cX2_leastSetAtLeastCost 7 (some .int), Cond.fieldLink RX2 9 "PocketKeeper$LeastSearch" "worthKeeping" "[I", Cond.fieldLink RX2 15 "PocketKeeper$LeastSearch" "costBehind" "[I", Cond.methodLink RX2 48 yX2_cell, Cond.static yX2_cell, Cond.code yX2_cell cX2_cell 2 (some .int), Cond.methodLink RX2 52 yX2_subsets, Cond.static yX2_subsets, Cond.code yX2_subsets cX2_subsets 1 (some .int), Cond.methodLink RX2 83 yJ6_bitCount_0f7a4, Cond.methodLink RX2 55 yX2_subsetBehind, Cond.static yX2_subsetBehind, Cond.code yX2_subsetBehind cX2_subsetBehind 2 (some .int), Cond.selects RX7 ⟨"PocketKeeper$Keeping", "staying", "(II)I"⟩ yX7_staying, Cond.instanceMethod yX7_staying, Cond.initialized RX7, Cond.code yX7_staying cX7_staying 5 (some .int), Cond.fieldLink RX7 9 "PocketKeeper$SoonestKeeping" "magazine" "LPocketKeeper$Magazine;", Cond.sameField "PocketKeeper$SoonestKeeping" "PocketKeeper$Keeping" "magazine" "LPocketKeeper$Magazine;", Cond.fieldLink RX7 15 "PocketKeeper$SoonestKeeping" "row" "LPocketKeeper$Row;", Cond.sameField "PocketKeeper$SoonestKeeping" "PocketKeeper$Keeping" "row" "LPocketKeeper$Row;", Cond.methodLink RX7 19 yX6_needs, Cond.methodLink RX7 25 yX3_holds]
noncomputable def wsX8_mean_r5 : List Cond := [Cond.methodLink RX7 31 yX7_firstToGo, Cond.instanceMethod yX7_firstToGo, Cond.selects RX7 yX7_firstToGo yX7_firstToGo, Cond.code yX7_firstToGo cX7_firstToGo 6 (some .int), Cond.static yX8_hasTool, Cond.code yX8_hasTool cX8_hasTool 2 (some .boolean), Cond.methodLink RX7 39 yX7_rank, Cond.instanceMethod yX7_rank, Cond.selects RX7 yX7_rank yX7_rank, Cond.code yX7_rank cX7_rank 5 (some .int), Cond.methodLink RX7 42 yX6_nextPlace, Cond.instanceMethod yX6_nextPlace, Cond.selects RX6 yX6_nextPlace yX6_nextPlace, Cond.code yX6_nextPlace cX6_nextPlace 4 (some .int), Cond.fieldLink RX6 18 "PocketKeeper$Row" "broken" "[I", Cond.methodLink RX6 56 yX6_needs, Cond.methodLink RX7 45 yX3_bigTools, Cond.instanceMethod yX3_bigTools, Cond.selects RX3 yX3_bigTools yX3_bigTools, Cond.code yX3_bigTools cX3_bigTools 1 (some .int), Cond.methodLink RX1 43 yX6_broken, Cond.instanceMethod yX6_broken, Cond.selects RX6 yX6_broken yX6_broken, Cond.code yX6_broken cX6_broken 2 (some .int)]
noncomputable def wsX8_mean_r6 : List Cond := [Cond.selects RX7 ⟨"PocketKeeper$Keeping", "keepAll", "()V"⟩ yX1_keepAll, Cond.methodLink RX8 264 yX2_least, Cond.instanceMethod yX2_least, Cond.selects RX2 yX2_least yX2_least, Cond.code yX2_least cX2_least 2 (some .int), Cond.fieldLink RX2 18 "PocketKeeper$LeastSearch" "row" "LPocketKeeper$Row;", Cond.fieldLink RX2 22 "PocketKeeper$LeastSearch" "magazine" "LPocketKeeper$Magazine;", Cond.methodLink RX2 26 yX2_findWorthKeeping, Cond.instanceMethod yX2_findWorthKeeping, Cond.selects RX2 yX2_findWorthKeeping yX2_findWorthKeeping, Cond.code yX2_findWorthKeeping cX2_findWorthKeeping 4 none, Cond.methodLink RX2 29 yX6_size, Cond.methodLink RX2 39 yX6_needs, Cond.methodLink RX2 58 yX6_broken, Cond.methodLink RX2 35 yX2_fillPlace, Cond.instanceMethod yX2_fillPlace, Cond.selects RX2 yX2_fillPlace yX2_fillPlace, Cond.code yX2_fillPlace cX2_fillPlace 4 none, Cond.methodLink RX2 61 yX3_holds, Cond.methodLink RX2 65 yX2_costIfKept, Cond.instanceMethod yX2_costIfKept, Cond.selects RX2 yX2_costIfKept yX2_costIfKept, Cond.code yX2_costIfKept cX2_costIfKept 5 (some .int), Cond.methodLink RX2 43 yX3_sizeOf]
noncomputable def wsX8_mean_r7 : List Cond := [Cond.methodLink RX2 68 yX2_costOfFewer, Cond.instanceMethod yX2_costOfFewer, Cond.selects RX2 yX2_costOfFewer yX2_costOfFewer, Cond.code yX2_costOfFewer cX2_costOfFewer 5 (some .int), Cond.constant RX2 73 (2147483647), Cond.methodLink RX2 78 Lib.Math.min.name, Cond.static Lib.Math.min.name, Cond.initialized "java/lang/Math", Cond.code Lib.Math.min.name Lib.Math.min.code 2 (some .int), Cond.methodLink RX8 158 yX8_bitsOfMean, Cond.instanceMethod yX8_bitsOfMean, Cond.selects RX8 yX8_bitsOfMean yX8_bitsOfMean, Cond.code yX8_bitsOfMean cX8_bitsOfMean 1 (some .long), Cond.methodLink RX8 229 ⟨"PocketKeeper$Keeping", "totalCost", "()I"⟩, Cond.sameMethod "PocketKeeper$Keeping" "PocketKeeper$Keeping" "totalCost" "()I", Cond.selects RX5 ⟨"PocketKeeper$Keeping", "totalCost", "()I"⟩ yX1_totalCost, Cond.instanceMethod yX1_totalCost, Cond.code yX1_totalCost cX1_totalCost 3 (some .int), Cond.fieldLink RX1 25 "PocketKeeper$Keeping" "magazine" "LPocketKeeper$Magazine;", Cond.methodLink RX1 46 yX3_sizeOf, Cond.selects RX7 ⟨"PocketKeeper$Keeping", "totalCost", "()I"⟩ yX1_totalCost, Cond.methodLink RX8 238 yX8_bitsOfDouble, Cond.static yX8_bitsOfDouble, Cond.code yX8_bitsOfDouble cX8_bitsOfDouble 7 (some .long)]
noncomputable def wsX8_mean_r8 : List Cond := [Cond.constantLong RX8 270 (1023), Cond.constantDouble RX8 272 (4611686018427387904), Cond.constantDouble RX8 274 (4841369599423283200)]
noncomputable def wsX8_mean : List Cond := .code yX8_mean cX8_mean 1 (some .long) :: ((wsX8_mean_r1 ++ (wsX8_mean_r2 ++ (wsX8_mean_r3 ++ (wsX8_mean_r4 ++ (wsX8_mean_r5 ++ (wsX8_mean_r6 ++ (wsX8_mean_r7 ++ wsX8_mean_r8))))))) ++ wsX80 ++ wsX60 ++ wsX30 ++ wsX50 ++ wsX70 ++ wsX20)
noncomputable def wsX8_bitsOfFloat : List Cond := .code yX8_bitsOfFloat cX8_bitsOfFloat 4 (some .int) :: ([.constantFloat RX8 276 (1258291200)])
noncomputable def wsX8_bitsOfRatio_r1 : List Cond := [Cond.fieldLink RX8 42 "PocketKeeper" "bySoonest" "LPocketKeeper$Keeping;", Cond.fieldLink RX8 51 "PocketKeeper" "byPlan" "LPocketKeeper$Keeping;", Cond.methodLink RX8 229 ⟨"PocketKeeper$Keeping", "totalCost", "()I"⟩, Cond.sameMethod "PocketKeeper$Keeping" "PocketKeeper$Keeping" "totalCost" "()I", Cond.selects RX5 ⟨"PocketKeeper$Keeping", "totalCost", "()I"⟩ yX1_totalCost, Cond.instanceMethod yX1_totalCost, Cond.initialized RX1, Cond.code yX1_totalCost cX1_totalCost 3 (some .int), Cond.fieldLink RX1 21 "PocketKeeper$Keeping" "row" "LPocketKeeper$Row;", Cond.fieldLink RX1 25 "PocketKeeper$Keeping" "magazine" "LPocketKeeper$Magazine;", Cond.fieldLink RX1 15 "PocketKeeper$Keeping" "coming" "[I", Cond.methodLink RX1 29 yX6_size, Cond.instanceMethod yX6_size, Cond.selects RX6 yX6_size yX6_size, Cond.initialized RX6, Cond.code yX6_size cX6_size 1 (some .int), Cond.fieldLink RX6 21 "PocketKeeper$Row" "size" "I", Cond.methodLink RX1 46 yX3_sizeOf, Cond.instanceMethod yX3_sizeOf, Cond.selects RX3 yX3_sizeOf yX3_sizeOf, Cond.initialized RX3, Cond.code yX3_sizeOf cX3_sizeOf 2 (some .int), Cond.fieldLink RX3 15 "PocketKeeper$Magazine" "bigTools" "I", Cond.methodLink RX3 22 yJ6_bitCount_0f7a4]
noncomputable def wsX8_bitsOfRatio_r2 : List Cond := [Cond.static yJ6_bitCount_0f7a4, Cond.initialized RJ6, Cond.code yJ6_bitCount_0f7a4 cJ6_bitCount_0f7a4 1 (some .int), Cond.constant RJ6 265 (1431655765), Cond.constant RJ6 266 (858993459), Cond.constant RJ6 267 (252645135), Cond.selects RX7 ⟨"PocketKeeper$Keeping", "totalCost", "()I"⟩ yX1_totalCost, Cond.methodLink RX8 242 yX8_bitsOfFloat, Cond.static yX8_bitsOfFloat, Cond.initialized RX8, Cond.code yX8_bitsOfFloat cX8_bitsOfFloat 4 (some .int), Cond.constantFloat RX8 276 (1258291200)]
noncomputable def wsX8_bitsOfRatio : List Cond := .code yX8_bitsOfRatio cX8_bitsOfRatio 1 (some .int) :: ((wsX8_bitsOfRatio_r1 ++ wsX8_bitsOfRatio_r2) ++ wsX80 ++ wsX50 ++ wsX70 ++ wsX60 ++ wsX30)
noncomputable def wsX8_ratio_r1 : List Cond := [Cond.methodLink RX8 150 yX8_canKeep, Cond.instanceMethod yX8_canKeep, Cond.selects RX8 yX8_canKeep yX8_canKeep, Cond.initialized RX8, Cond.code yX8_canKeep cX8_canKeep 1 (some .boolean), Cond.fieldLink RX8 26 "PocketKeeper" "row" "LPocketKeeper$Row;", Cond.methodLink RX8 88 yX6_size, Cond.instanceMethod yX6_size, Cond.selects RX6 yX6_size yX6_size, Cond.initialized RX6, Cond.code yX6_size cX6_size 1 (some .int), Cond.fieldLink RX6 21 "PocketKeeper$Row" "size" "I", Cond.methodLink RX8 189 yX8_isTooBig, Cond.instanceMethod yX8_isTooBig, Cond.selects RX8 yX8_isTooBig yX8_isTooBig, Cond.code yX8_isTooBig cX8_isTooBig 2 (some .boolean), Cond.fieldLink RX8 19 "PocketKeeper" "magazine" "LPocketKeeper$Magazine;", Cond.methodLink RX8 130 yX6_needs, Cond.instanceMethod yX6_needs, Cond.selects RX6 yX6_needs yX6_needs, Cond.code yX6_needs cX6_needs 2 (some .int), Cond.fieldLink RX6 9 "PocketKeeper$Row" "needsAsTold" "[I", Cond.fieldLink RX6 15 "PocketKeeper$Row" "numbers" "[I", Cond.methodLink RX8 251 yX3_holds]
noncomputable def wsX8_ratio_r2 : List Cond := [Cond.instanceMethod yX3_holds, Cond.selects RX3 yX3_holds yX3_holds, Cond.initialized RX3, Cond.code yX3_holds cX3_holds 2 (some .boolean), Cond.fieldLink RX3 9 "PocketKeeper$Magazine" "room" "I", Cond.methodLink RX3 28 yX3_sizeOf, Cond.instanceMethod yX3_sizeOf, Cond.selects RX3 yX3_sizeOf yX3_sizeOf, Cond.code yX3_sizeOf cX3_sizeOf 2 (some .int), Cond.fieldLink RX3 15 "PocketKeeper$Magazine" "bigTools" "I", Cond.methodLink RX3 22 yJ6_bitCount_0f7a4, Cond.static yJ6_bitCount_0f7a4, Cond.initialized RJ6, Cond.code yJ6_bitCount_0f7a4 cJ6_bitCount_0f7a4 1 (some .int), Cond.constant RJ6 265 (1431655765), Cond.constant RJ6 266 (858993459), Cond.constant RJ6 267 (252645135), Cond.methodLink RX8 143 yX8_standKeepings, Cond.instanceMethod yX8_standKeepings, Cond.selects RX8 yX8_standKeepings yX8_standKeepings, Cond.code yX8_standKeepings cX8_standKeepings 1 none, Cond.fieldLink RX8 254 "PocketKeeper" "keepingsStand" "Z", Cond.fieldLink RX8 42 "PocketKeeper" "bySoonest" "LPocketKeeper$Keeping;", Cond.fieldLink RX8 35 "PocketKeeper" "search" "LPocketKeeper$LeastSearch;"]
noncomputable def wsX8_ratio_r3 : List Cond := [Cond.fieldLink RX8 51 "PocketKeeper" "byPlan" "LPocketKeeper$Keeping;", Cond.methodLink RX8 261 ⟨"PocketKeeper$Keeping", "keepAll", "()V"⟩, Cond.sameMethod "PocketKeeper$Keeping" "PocketKeeper$Keeping" "keepAll" "()V", Cond.selects RX5 ⟨"PocketKeeper$Keeping", "keepAll", "()V"⟩ yX1_keepAll, Cond.instanceMethod yX1_keepAll, Cond.initialized RX1, Cond.code yX1_keepAll cX1_keepAll 4 none, Cond.fieldLink RX1 21 "PocketKeeper$Keeping" "row" "LPocketKeeper$Row;", Cond.fieldLink RX1 9 "PocketKeeper$Keeping" "inside" "[I", Cond.fieldLink RX1 15 "PocketKeeper$Keeping" "coming" "[I", Cond.fieldLink RX1 18 "PocketKeeper$Keeping" "going" "[I", Cond.methodLink RX1 29 yX6_size, Cond.methodLink RX1 35 yX6_needs, Cond.methodLink RX1 39 ⟨"PocketKeeper$Keeping", "staying", "(II)I"⟩, Cond.sameMethod "PocketKeeper$Keeping" "PocketKeeper$Keeping" "staying" "(II)I", Cond.selects RX5 ⟨"PocketKeeper$Keeping", "staying", "(II)I"⟩ yX5_staying, Cond.instanceMethod yX5_staying, Cond.initialized RX5, Cond.code yX5_staying cX5_staying 3 (some .int), Cond.fieldLink RX5 7 "PocketKeeper$PlanKeeping" "search" "LPocketKeeper$LeastSearch;", Cond.methodLink RX5 13 yX2_leastSetAtLeastCost, Cond.instanceMethod yX2_leastSetAtLeastCost, Cond.selects RX2 yX2_leastSetAtLeastCost yX2_leastSetAtLeastCost, Cond.initialized RX2]
noncomputable def wsX8_ratio_r4 : List Cond := [Cond.code yX2_leastSetAtLeastCost cX2_leastSetAtLeastCost 7 (some .int), Cond.fieldLink RX2 9 "PocketKeeper$LeastSearch" "worthKeeping" "[I", Cond.fieldLink RX2 15 "PocketKeeper$LeastSearch" "costBehind" "[I", Cond.methodLink RX2 48 yX2_cell, Cond.static yX2_cell, Cond.code yX2_cell cX2_cell 2 (some .int), Cond.methodLink RX2 52 yX2_subsets, Cond.static yX2_subsets, Cond.code yX2_subsets cX2_subsets 1 (some .int), Cond.methodLink RX2 83 yJ6_bitCount_0f7a4, Cond.methodLink RX2 55 yX2_subsetBehind, Cond.static yX2_subsetBehind, Cond.code yX2_subsetBehind cX2_subsetBehind 2 (some .int), Cond.selects RX7 ⟨"PocketKeeper$Keeping", "staying", "(II)I"⟩ yX7_staying, Cond.instanceMethod yX7_staying, Cond.initialized RX7, Cond.code yX7_staying cX7_staying 5 (some .int), Cond.fieldLink RX7 9 "PocketKeeper$SoonestKeeping" "magazine" "LPocketKeeper$Magazine;", Cond.sameField "PocketKeeper$SoonestKeeping" "PocketKeeper$Keeping" "magazine" "LPocketKeeper$Magazine;", Cond.fieldLink RX7 15 "PocketKeeper$SoonestKeeping" "row" "LPocketKeeper$Row;", Cond.sameField "PocketKeeper$SoonestKeeping" "PocketKeeper$Keeping" "row" "LPocketKeeper$Row;", Cond.methodLink RX7 19 yX6_needs, Cond.methodLink RX7 25 yX3_holds, Cond.methodLink RX7 31 yX7_firstToGo]
noncomputable def wsX8_ratio_r5 : List Cond := [Cond.instanceMethod yX7_firstToGo, Cond.selects RX7 yX7_firstToGo yX7_firstToGo, Cond.code yX7_firstToGo cX7_firstToGo 6 (some .int), Cond.static yX8_hasTool, Cond.code yX8_hasTool cX8_hasTool 2 (some .boolean), Cond.methodLink RX7 39 yX7_rank, Cond.instanceMethod yX7_rank, Cond.selects RX7 yX7_rank yX7_rank, Cond.code yX7_rank cX7_rank 5 (some .int), Cond.methodLink RX7 42 yX6_nextPlace, Cond.instanceMethod yX6_nextPlace, Cond.selects RX6 yX6_nextPlace yX6_nextPlace, Cond.code yX6_nextPlace cX6_nextPlace 4 (some .int), Cond.fieldLink RX6 18 "PocketKeeper$Row" "broken" "[I", Cond.methodLink RX6 56 yX6_needs, Cond.methodLink RX7 45 yX3_bigTools, Cond.instanceMethod yX3_bigTools, Cond.selects RX3 yX3_bigTools yX3_bigTools, Cond.code yX3_bigTools cX3_bigTools 1 (some .int), Cond.methodLink RX1 43 yX6_broken, Cond.instanceMethod yX6_broken, Cond.selects RX6 yX6_broken yX6_broken, Cond.code yX6_broken cX6_broken 2 (some .int), Cond.selects RX7 ⟨"PocketKeeper$Keeping", "keepAll", "()V"⟩ yX1_keepAll]
noncomputable def wsX8_ratio_r6 : List Cond := [Cond.methodLink RX8 264 yX2_least, Cond.instanceMethod yX2_least, Cond.selects RX2 yX2_least yX2_least, Cond.code yX2_least cX2_least 2 (some .int), Cond.fieldLink RX2 18 "PocketKeeper$LeastSearch" "row" "LPocketKeeper$Row;", Cond.fieldLink RX2 22 "PocketKeeper$LeastSearch" "magazine" "LPocketKeeper$Magazine;", Cond.methodLink RX2 26 yX2_findWorthKeeping, Cond.instanceMethod yX2_findWorthKeeping, Cond.selects RX2 yX2_findWorthKeeping yX2_findWorthKeeping, Cond.code yX2_findWorthKeeping cX2_findWorthKeeping 4 none, Cond.methodLink RX2 29 yX6_size, Cond.methodLink RX2 39 yX6_needs, Cond.methodLink RX2 58 yX6_broken, Cond.methodLink RX2 35 yX2_fillPlace, Cond.instanceMethod yX2_fillPlace, Cond.selects RX2 yX2_fillPlace yX2_fillPlace, Cond.code yX2_fillPlace cX2_fillPlace 4 none, Cond.methodLink RX2 61 yX3_holds, Cond.methodLink RX2 65 yX2_costIfKept, Cond.instanceMethod yX2_costIfKept, Cond.selects RX2 yX2_costIfKept yX2_costIfKept, Cond.code yX2_costIfKept cX2_costIfKept 5 (some .int), Cond.methodLink RX2 43 yX3_sizeOf, Cond.methodLink RX2 68 yX2_costOfFewer]
noncomputable def wsX8_ratio_r7 : List Cond := [Cond.instanceMethod yX2_costOfFewer, Cond.selects RX2 yX2_costOfFewer yX2_costOfFewer, Cond.code yX2_costOfFewer cX2_costOfFewer 5 (some .int), Cond.constant RX2 73 (2147483647), Cond.methodLink RX2 78 Lib.Math.min.name, Cond.static Lib.Math.min.name, Cond.initialized "java/lang/Math", Cond.code Lib.Math.min.name Lib.Math.min.code 2 (some .int), Cond.methodLink RX8 162 yX8_bitsOfRatio, Cond.instanceMethod yX8_bitsOfRatio, Cond.selects RX8 yX8_bitsOfRatio yX8_bitsOfRatio, Cond.code yX8_bitsOfRatio cX8_bitsOfRatio 1 (some .int), Cond.methodLink RX8 229 ⟨"PocketKeeper$Keeping", "totalCost", "()I"⟩, Cond.sameMethod "PocketKeeper$Keeping" "PocketKeeper$Keeping" "totalCost" "()I", Cond.selects RX5 ⟨"PocketKeeper$Keeping", "totalCost", "()I"⟩ yX1_totalCost, Cond.instanceMethod yX1_totalCost, Cond.code yX1_totalCost cX1_totalCost 3 (some .int), Cond.fieldLink RX1 25 "PocketKeeper$Keeping" "magazine" "LPocketKeeper$Magazine;", Cond.methodLink RX1 46 yX3_sizeOf, Cond.selects RX7 ⟨"PocketKeeper$Keeping", "totalCost", "()I"⟩ yX1_totalCost, Cond.methodLink RX8 242 yX8_bitsOfFloat, Cond.static yX8_bitsOfFloat, Cond.code yX8_bitsOfFloat cX8_bitsOfFloat 4 (some .int), Cond.constantFloat RX8 276 (1258291200)]
noncomputable def wsX8_ratio : List Cond := .code yX8_ratio cX8_ratio 1 (some .int) :: ((wsX8_ratio_r1 ++ (wsX8_ratio_r2 ++ (wsX8_ratio_r3 ++ (wsX8_ratio_r4 ++ (wsX8_ratio_r5 ++ (wsX8_ratio_r6 ++ wsX8_ratio_r7)))))) ++ wsX80 ++ wsX60 ++ wsX30 ++ wsX50 ++ wsX70 ++ wsX20)
noncomputable def wsX8_standExchange_r1 : List Cond := [Cond.fieldLink RX8 258 "PocketKeeper" "exchangeStands" "Z", Cond.fieldLink RX8 59 "PocketKeeper" "exchange" "LPocketKeeper$Exchange;", Cond.methodLink RX8 267 yX0_find, Cond.instanceMethod yX0_find, Cond.selects RX0 yX0_find yX0_find, Cond.initialized RX0, Cond.code yX0_find cX0_find 4 none, Cond.fieldLink RX0 17 "PocketKeeper$Exchange" "found" "Z", Cond.fieldLink RX0 13 "PocketKeeper$Exchange" "search" "LPocketKeeper$LeastSearch;", Cond.fieldLink RX0 28 "PocketKeeper$Exchange" "leastThen" "I", Cond.fieldLink RX0 7 "PocketKeeper$Exchange" "row" "LPocketKeeper$Row;", Cond.methodLink RX0 31 yX2_least, Cond.instanceMethod yX2_least, Cond.selects RX2 yX2_least yX2_least, Cond.initialized RX2, Cond.code yX2_least cX2_least 2 (some .int), Cond.fieldLink RX2 18 "PocketKeeper$LeastSearch" "row" "LPocketKeeper$Row;", Cond.fieldLink RX2 22 "PocketKeeper$LeastSearch" "magazine" "LPocketKeeper$Magazine;", Cond.fieldLink RX2 15 "PocketKeeper$LeastSearch" "costBehind" "[I", Cond.methodLink RX2 26 yX2_findWorthKeeping, Cond.instanceMethod yX2_findWorthKeeping, Cond.selects RX2 yX2_findWorthKeeping yX2_findWorthKeeping, Cond.code yX2_findWorthKeeping cX2_findWorthKeeping 4 none, Cond.fieldLink RX2 9 "PocketKeeper$LeastSearch" "worthKeeping" "[I"]
noncomputable def wsX8_standExchange_r2 : List Cond := [Cond.methodLink RX2 29 yX6_size, Cond.instanceMethod yX6_size, Cond.selects RX6 yX6_size yX6_size, Cond.initialized RX6, Cond.code yX6_size cX6_size 1 (some .int), Cond.fieldLink RX6 21 "PocketKeeper$Row" "size" "I", Cond.methodLink RX2 39 yX6_needs, Cond.instanceMethod yX6_needs, Cond.selects RX6 yX6_needs yX6_needs, Cond.code yX6_needs cX6_needs 2 (some .int), Cond.fieldLink RX6 9 "PocketKeeper$Row" "needsAsTold" "[I", Cond.fieldLink RX6 15 "PocketKeeper$Row" "numbers" "[I", Cond.methodLink RX2 58 yX6_broken, Cond.instanceMethod yX6_broken, Cond.selects RX6 yX6_broken yX6_broken, Cond.code yX6_broken cX6_broken 2 (some .int), Cond.fieldLink RX6 18 "PocketKeeper$Row" "broken" "[I", Cond.methodLink RX2 35 yX2_fillPlace, Cond.instanceMethod yX2_fillPlace, Cond.selects RX2 yX2_fillPlace yX2_fillPlace, Cond.code yX2_fillPlace cX2_fillPlace 4 none, Cond.methodLink RX2 52 yX2_subsets, Cond.static yX2_subsets, Cond.code yX2_subsets cX2_subsets 1 (some .int)]
noncomputable def wsX8_standExchange_r3 : List Cond := [Cond.methodLink RX2 83 yJ6_bitCount_0f7a4, Cond.static yJ6_bitCount_0f7a4, Cond.initialized RJ6, Cond.code yJ6_bitCount_0f7a4 cJ6_bitCount_0f7a4 1 (some .int), Cond.constant RJ6 265 (1431655765), Cond.constant RJ6 266 (858993459), Cond.constant RJ6 267 (252645135), Cond.methodLink RX2 48 yX2_cell, Cond.static yX2_cell, Cond.code yX2_cell cX2_cell 2 (some .int), Cond.methodLink RX2 61 yX3_holds, Cond.instanceMethod yX3_holds, Cond.selects RX3 yX3_holds yX3_holds, Cond.initialized RX3, Cond.code yX3_holds cX3_holds 2 (some .boolean), Cond.fieldLink RX3 9 "PocketKeeper$Magazine" "room" "I", Cond.methodLink RX3 28 yX3_sizeOf, Cond.instanceMethod yX3_sizeOf, Cond.selects RX3 yX3_sizeOf yX3_sizeOf, Cond.code yX3_sizeOf cX3_sizeOf 2 (some .int), Cond.fieldLink RX3 15 "PocketKeeper$Magazine" "bigTools" "I", Cond.methodLink RX3 22 yJ6_bitCount_0f7a4, Cond.methodLink RX2 65 yX2_costIfKept, Cond.instanceMethod yX2_costIfKept]
noncomputable def wsX8_standExchange_r4 : List Cond := [Cond.selects RX2 yX2_costIfKept yX2_costIfKept, Cond.code yX2_costIfKept cX2_costIfKept 5 (some .int), Cond.methodLink RX2 43 yX3_sizeOf, Cond.methodLink RX2 68 yX2_costOfFewer, Cond.instanceMethod yX2_costOfFewer, Cond.selects RX2 yX2_costOfFewer yX2_costOfFewer, Cond.code yX2_costOfFewer cX2_costOfFewer 5 (some .int), Cond.constant RX2 73 (2147483647), Cond.methodLink RX2 78 Lib.Math.min.name, Cond.static Lib.Math.min.name, Cond.initialized "java/lang/Math", Cond.code Lib.Math.min.name Lib.Math.min.code 2 (some .int), Cond.static yX8_hasTool, Cond.initialized RX8, Cond.code yX8_hasTool cX8_hasTool 2 (some .boolean), Cond.methodLink RX2 55 yX2_subsetBehind, Cond.static yX2_subsetBehind, Cond.code yX2_subsetBehind cX2_subsetBehind 2 (some .int), Cond.methodLink RX0 37 yX6_size, Cond.methodLink RX0 42 yX6_exchange, Cond.instanceMethod yX6_exchange, Cond.selects RX6 yX6_exchange yX6_exchange, Cond.code yX6_exchange cX6_exchange 4 none, Cond.methodLink RX0 46 yX0_note]
noncomputable def wsX8_standExchange_r5 : List Cond := [Cond.instanceMethod yX0_note, Cond.selects RX0 yX0_note yX0_note, Cond.code yX0_note cX0_note 4 none, Cond.fieldLink RX0 21 "PocketKeeper$Exchange" "first" "I", Cond.fieldLink RX0 25 "PocketKeeper$Exchange" "second" "I"]
noncomputable def wsX8_standExchange : List Cond := .code yX8_standExchange cX8_standExchange 1 none :: ((wsX8_standExchange_r1 ++ (wsX8_standExchange_r2 ++ (wsX8_standExchange_r3 ++ (wsX8_standExchange_r4 ++ wsX8_standExchange_r5)))) ++ wsX80 ++ wsX00 ++ wsX20 ++ wsX60 ++ wsX30)
noncomputable def wsX8_numberOfExchange : List Cond := .code yX8_numberOfExchange cX8_numberOfExchange 2 (some .int) :: ([.fieldLink RX8 59 "PocketKeeper" "exchange" "LPocketKeeper$Exchange;", .methodLink RX8 171 yX0_isFound, .instanceMethod yX0_isFound, .selects RX0 yX0_isFound yX0_isFound, .initialized RX0, .code yX0_isFound cX0_isFound 1 (some .boolean), .fieldLink RX0 17 "PocketKeeper$Exchange" "found" "Z", .methodLink RX8 174 yX0_first, .instanceMethod yX0_first, .selects RX0 yX0_first yX0_first, .code yX0_first cX0_first 1 (some .int), .fieldLink RX0 21 "PocketKeeper$Exchange" "first" "I", .methodLink RX8 177 yX0_second, .instanceMethod yX0_second, .selects RX0 yX0_second yX0_second, .code yX0_second cX0_second 1 (some .int), .fieldLink RX0 25 "PocketKeeper$Exchange" "second" "I", .methodLink RX8 180 yX0_leastThen, .instanceMethod yX0_leastThen, .selects RX0 yX0_leastThen yX0_leastThen, .code yX0_leastThen cX0_leastThen 1 (some .int), .fieldLink RX0 28 "PocketKeeper$Exchange" "leastThen" "I"] ++ wsX80 ++ wsX00)
noncomputable def wsX8_pair_r1 : List Cond := [Cond.methodLink RX8 150 yX8_canKeep, Cond.instanceMethod yX8_canKeep, Cond.selects RX8 yX8_canKeep yX8_canKeep, Cond.initialized RX8, Cond.code yX8_canKeep cX8_canKeep 1 (some .boolean), Cond.fieldLink RX8 26 "PocketKeeper" "row" "LPocketKeeper$Row;", Cond.methodLink RX8 88 yX6_size, Cond.instanceMethod yX6_size, Cond.selects RX6 yX6_size yX6_size, Cond.initialized RX6, Cond.code yX6_size cX6_size 1 (some .int), Cond.fieldLink RX6 21 "PocketKeeper$Row" "size" "I", Cond.methodLink RX8 189 yX8_isTooBig, Cond.instanceMethod yX8_isTooBig, Cond.selects RX8 yX8_isTooBig yX8_isTooBig, Cond.code yX8_isTooBig cX8_isTooBig 2 (some .boolean), Cond.fieldLink RX8 19 "PocketKeeper" "magazine" "LPocketKeeper$Magazine;", Cond.methodLink RX8 130 yX6_needs, Cond.instanceMethod yX6_needs, Cond.selects RX6 yX6_needs yX6_needs, Cond.code yX6_needs cX6_needs 2 (some .int), Cond.fieldLink RX6 9 "PocketKeeper$Row" "needsAsTold" "[I", Cond.fieldLink RX6 15 "PocketKeeper$Row" "numbers" "[I", Cond.methodLink RX8 251 yX3_holds]
noncomputable def wsX8_pair_r2 : List Cond := [Cond.instanceMethod yX3_holds, Cond.selects RX3 yX3_holds yX3_holds, Cond.initialized RX3, Cond.code yX3_holds cX3_holds 2 (some .boolean), Cond.fieldLink RX3 9 "PocketKeeper$Magazine" "room" "I", Cond.methodLink RX3 28 yX3_sizeOf, Cond.instanceMethod yX3_sizeOf, Cond.selects RX3 yX3_sizeOf yX3_sizeOf, Cond.code yX3_sizeOf cX3_sizeOf 2 (some .int), Cond.fieldLink RX3 15 "PocketKeeper$Magazine" "bigTools" "I", Cond.methodLink RX3 22 yJ6_bitCount_0f7a4, Cond.static yJ6_bitCount_0f7a4, Cond.initialized RJ6, Cond.code yJ6_bitCount_0f7a4 cJ6_bitCount_0f7a4 1 (some .int), Cond.constant RJ6 265 (1431655765), Cond.constant RJ6 266 (858993459), Cond.constant RJ6 267 (252645135), Cond.methodLink RX8 165 yX8_standExchange, Cond.instanceMethod yX8_standExchange, Cond.selects RX8 yX8_standExchange yX8_standExchange, Cond.code yX8_standExchange cX8_standExchange 1 none, Cond.fieldLink RX8 258 "PocketKeeper" "exchangeStands" "Z", Cond.fieldLink RX8 59 "PocketKeeper" "exchange" "LPocketKeeper$Exchange;", Cond.methodLink RX8 267 yX0_find]
noncomputable def wsX8_pair_r3 : List Cond := [Cond.instanceMethod yX0_find, Cond.selects RX0 yX0_find yX0_find, Cond.initialized RX0, Cond.code yX0_find cX0_find 4 none, Cond.fieldLink RX0 17 "PocketKeeper$Exchange" "found" "Z", Cond.fieldLink RX0 13 "PocketKeeper$Exchange" "search" "LPocketKeeper$LeastSearch;", Cond.fieldLink RX0 28 "PocketKeeper$Exchange" "leastThen" "I", Cond.fieldLink RX0 7 "PocketKeeper$Exchange" "row" "LPocketKeeper$Row;", Cond.methodLink RX0 31 yX2_least, Cond.instanceMethod yX2_least, Cond.selects RX2 yX2_least yX2_least, Cond.initialized RX2, Cond.code yX2_least cX2_least 2 (some .int), Cond.fieldLink RX2 18 "PocketKeeper$LeastSearch" "row" "LPocketKeeper$Row;", Cond.fieldLink RX2 22 "PocketKeeper$LeastSearch" "magazine" "LPocketKeeper$Magazine;", Cond.fieldLink RX2 15 "PocketKeeper$LeastSearch" "costBehind" "[I", Cond.methodLink RX2 26 yX2_findWorthKeeping, Cond.instanceMethod yX2_findWorthKeeping, Cond.selects RX2 yX2_findWorthKeeping yX2_findWorthKeeping, Cond.code yX2_findWorthKeeping cX2_findWorthKeeping 4 none, Cond.fieldLink RX2 9 "PocketKeeper$LeastSearch" "worthKeeping" "[I", Cond.methodLink RX2 29 yX6_size, Cond.methodLink RX2 39 yX6_needs, Cond.methodLink RX2 58 yX6_broken]
noncomputable def wsX8_pair_r4 : List Cond := [Cond.instanceMethod yX6_broken, Cond.selects RX6 yX6_broken yX6_broken, Cond.code yX6_broken cX6_broken 2 (some .int), Cond.fieldLink RX6 18 "PocketKeeper$Row" "broken" "[I", Cond.methodLink RX2 35 yX2_fillPlace, Cond.instanceMethod yX2_fillPlace, Cond.selects RX2 yX2_fillPlace yX2_fillPlace, Cond.code yX2_fillPlace cX2_fillPlace 4 none, Cond.methodLink RX2 52 yX2_subsets, Cond.static yX2_subsets, Cond.code yX2_subsets cX2_subsets 1 (some .int), Cond.methodLink RX2 83 yJ6_bitCount_0f7a4, Cond.methodLink RX2 48 yX2_cell, Cond.static yX2_cell, Cond.code yX2_cell cX2_cell 2 (some .int), Cond.methodLink RX2 61 yX3_holds, Cond.methodLink RX2 65 yX2_costIfKept, Cond.instanceMethod yX2_costIfKept, Cond.selects RX2 yX2_costIfKept yX2_costIfKept, Cond.code yX2_costIfKept cX2_costIfKept 5 (some .int), Cond.methodLink RX2 43 yX3_sizeOf, Cond.methodLink RX2 68 yX2_costOfFewer, Cond.instanceMethod yX2_costOfFewer, Cond.selects RX2 yX2_costOfFewer yX2_costOfFewer]
noncomputable def wsX8_pair_r5 : List Cond := [Cond.code yX2_costOfFewer cX2_costOfFewer 5 (some .int), Cond.constant RX2 73 (2147483647), Cond.methodLink RX2 78 Lib.Math.min.name, Cond.static Lib.Math.min.name, Cond.initialized "java/lang/Math", Cond.code Lib.Math.min.name Lib.Math.min.code 2 (some .int), Cond.static yX8_hasTool, Cond.code yX8_hasTool cX8_hasTool 2 (some .boolean), Cond.methodLink RX2 55 yX2_subsetBehind, Cond.static yX2_subsetBehind, Cond.code yX2_subsetBehind cX2_subsetBehind 2 (some .int), Cond.methodLink RX0 37 yX6_size, Cond.methodLink RX0 42 yX6_exchange, Cond.instanceMethod yX6_exchange, Cond.selects RX6 yX6_exchange yX6_exchange, Cond.code yX6_exchange cX6_exchange 4 none, Cond.methodLink RX0 46 yX0_note, Cond.instanceMethod yX0_note, Cond.selects RX0 yX0_note yX0_note, Cond.code yX0_note cX0_note 4 none, Cond.fieldLink RX0 21 "PocketKeeper$Exchange" "first" "I", Cond.fieldLink RX0 25 "PocketKeeper$Exchange" "second" "I", Cond.methodLink RX8 168 yX8_numberOfExchange, Cond.instanceMethod yX8_numberOfExchange]
noncomputable def wsX8_pair_r6 : List Cond := [Cond.selects RX8 yX8_numberOfExchange yX8_numberOfExchange, Cond.code yX8_numberOfExchange cX8_numberOfExchange 2 (some .int), Cond.methodLink RX8 171 yX0_isFound, Cond.instanceMethod yX0_isFound, Cond.selects RX0 yX0_isFound yX0_isFound, Cond.code yX0_isFound cX0_isFound 1 (some .boolean), Cond.methodLink RX8 174 yX0_first, Cond.instanceMethod yX0_first, Cond.selects RX0 yX0_first yX0_first, Cond.code yX0_first cX0_first 1 (some .int), Cond.methodLink RX8 177 yX0_second, Cond.instanceMethod yX0_second, Cond.selects RX0 yX0_second yX0_second, Cond.code yX0_second cX0_second 1 (some .int), Cond.methodLink RX8 180 yX0_leastThen, Cond.instanceMethod yX0_leastThen, Cond.selects RX0 yX0_leastThen yX0_leastThen, Cond.code yX0_leastThen cX0_leastThen 1 (some .int)]
noncomputable def wsX8_pair : List Cond := .code yX8_pair cX8_pair 2 (some .int) :: ((wsX8_pair_r1 ++ (wsX8_pair_r2 ++ (wsX8_pair_r3 ++ (wsX8_pair_r4 ++ (wsX8_pair_r5 ++ wsX8_pair_r6))))) ++ wsX80 ++ wsX60 ++ wsX30 ++ wsX00 ++ wsX20)
noncomputable def wsX8_better_r1 : List Cond := [Cond.fieldLink RX8 59 "PocketKeeper" "exchange" "LPocketKeeper$Exchange;", Cond.methodLink RX8 150 yX8_canKeep, Cond.instanceMethod yX8_canKeep, Cond.selects RX8 yX8_canKeep yX8_canKeep, Cond.initialized RX8, Cond.code yX8_canKeep cX8_canKeep 1 (some .boolean), Cond.fieldLink RX8 26 "PocketKeeper" "row" "LPocketKeeper$Row;", Cond.methodLink RX8 88 yX6_size, Cond.instanceMethod yX6_size, Cond.selects RX6 yX6_size yX6_size, Cond.initialized RX6, Cond.code yX6_size cX6_size 1 (some .int), Cond.fieldLink RX6 21 "PocketKeeper$Row" "size" "I", Cond.methodLink RX8 189 yX8_isTooBig, Cond.instanceMethod yX8_isTooBig, Cond.selects RX8 yX8_isTooBig yX8_isTooBig, Cond.code yX8_isTooBig cX8_isTooBig 2 (some .boolean), Cond.fieldLink RX8 19 "PocketKeeper" "magazine" "LPocketKeeper$Magazine;", Cond.methodLink RX8 130 yX6_needs, Cond.instanceMethod yX6_needs, Cond.selects RX6 yX6_needs yX6_needs, Cond.code yX6_needs cX6_needs 2 (some .int), Cond.fieldLink RX6 9 "PocketKeeper$Row" "needsAsTold" "[I", Cond.fieldLink RX6 15 "PocketKeeper$Row" "numbers" "[I"]
noncomputable def wsX8_better_r2 : List Cond := [Cond.methodLink RX8 251 yX3_holds, Cond.instanceMethod yX3_holds, Cond.selects RX3 yX3_holds yX3_holds, Cond.initialized RX3, Cond.code yX3_holds cX3_holds 2 (some .boolean), Cond.fieldLink RX3 9 "PocketKeeper$Magazine" "room" "I", Cond.methodLink RX3 28 yX3_sizeOf, Cond.instanceMethod yX3_sizeOf, Cond.selects RX3 yX3_sizeOf yX3_sizeOf, Cond.code yX3_sizeOf cX3_sizeOf 2 (some .int), Cond.fieldLink RX3 15 "PocketKeeper$Magazine" "bigTools" "I", Cond.methodLink RX3 22 yJ6_bitCount_0f7a4, Cond.static yJ6_bitCount_0f7a4, Cond.initialized RJ6, Cond.code yJ6_bitCount_0f7a4 cJ6_bitCount_0f7a4 1 (some .int), Cond.constant RJ6 265 (1431655765), Cond.constant RJ6 266 (858993459), Cond.constant RJ6 267 (252645135), Cond.methodLink RX8 165 yX8_standExchange, Cond.instanceMethod yX8_standExchange, Cond.selects RX8 yX8_standExchange yX8_standExchange, Cond.code yX8_standExchange cX8_standExchange 1 none, Cond.fieldLink RX8 258 "PocketKeeper" "exchangeStands" "Z", Cond.methodLink RX8 267 yX0_find]
noncomputable def wsX8_better_r3 : List Cond := [Cond.instanceMethod yX0_find, Cond.selects RX0 yX0_find yX0_find, Cond.initialized RX0, Cond.code yX0_find cX0_find 4 none, Cond.fieldLink RX0 17 "PocketKeeper$Exchange" "found" "Z", Cond.fieldLink RX0 13 "PocketKeeper$Exchange" "search" "LPocketKeeper$LeastSearch;", Cond.fieldLink RX0 28 "PocketKeeper$Exchange" "leastThen" "I", Cond.fieldLink RX0 7 "PocketKeeper$Exchange" "row" "LPocketKeeper$Row;", Cond.methodLink RX0 31 yX2_least, Cond.instanceMethod yX2_least, Cond.selects RX2 yX2_least yX2_least, Cond.initialized RX2, Cond.code yX2_least cX2_least 2 (some .int), Cond.fieldLink RX2 18 "PocketKeeper$LeastSearch" "row" "LPocketKeeper$Row;", Cond.fieldLink RX2 22 "PocketKeeper$LeastSearch" "magazine" "LPocketKeeper$Magazine;", Cond.fieldLink RX2 15 "PocketKeeper$LeastSearch" "costBehind" "[I", Cond.methodLink RX2 26 yX2_findWorthKeeping, Cond.instanceMethod yX2_findWorthKeeping, Cond.selects RX2 yX2_findWorthKeeping yX2_findWorthKeeping, Cond.code yX2_findWorthKeeping cX2_findWorthKeeping 4 none, Cond.fieldLink RX2 9 "PocketKeeper$LeastSearch" "worthKeeping" "[I", Cond.methodLink RX2 29 yX6_size, Cond.methodLink RX2 39 yX6_needs, Cond.methodLink RX2 58 yX6_broken]
noncomputable def wsX8_better_r4 : List Cond := [Cond.instanceMethod yX6_broken, Cond.selects RX6 yX6_broken yX6_broken, Cond.code yX6_broken cX6_broken 2 (some .int), Cond.fieldLink RX6 18 "PocketKeeper$Row" "broken" "[I", Cond.methodLink RX2 35 yX2_fillPlace, Cond.instanceMethod yX2_fillPlace, Cond.selects RX2 yX2_fillPlace yX2_fillPlace, Cond.code yX2_fillPlace cX2_fillPlace 4 none, Cond.methodLink RX2 52 yX2_subsets, Cond.static yX2_subsets, Cond.code yX2_subsets cX2_subsets 1 (some .int), Cond.methodLink RX2 83 yJ6_bitCount_0f7a4, Cond.methodLink RX2 48 yX2_cell, Cond.static yX2_cell, Cond.code yX2_cell cX2_cell 2 (some .int), Cond.methodLink RX2 61 yX3_holds, Cond.methodLink RX2 65 yX2_costIfKept, Cond.instanceMethod yX2_costIfKept, Cond.selects RX2 yX2_costIfKept yX2_costIfKept, Cond.code yX2_costIfKept cX2_costIfKept 5 (some .int), Cond.methodLink RX2 43 yX3_sizeOf, Cond.methodLink RX2 68 yX2_costOfFewer, Cond.instanceMethod yX2_costOfFewer, Cond.selects RX2 yX2_costOfFewer yX2_costOfFewer]
noncomputable def wsX8_better_r5 : List Cond := [Cond.code yX2_costOfFewer cX2_costOfFewer 5 (some .int), Cond.constant RX2 73 (2147483647), Cond.methodLink RX2 78 Lib.Math.min.name, Cond.static Lib.Math.min.name, Cond.initialized "java/lang/Math", Cond.code Lib.Math.min.name Lib.Math.min.code 2 (some .int), Cond.static yX8_hasTool, Cond.code yX8_hasTool cX8_hasTool 2 (some .boolean), Cond.methodLink RX2 55 yX2_subsetBehind, Cond.static yX2_subsetBehind, Cond.code yX2_subsetBehind cX2_subsetBehind 2 (some .int), Cond.methodLink RX0 37 yX6_size, Cond.methodLink RX0 42 yX6_exchange, Cond.instanceMethod yX6_exchange, Cond.selects RX6 yX6_exchange yX6_exchange, Cond.code yX6_exchange cX6_exchange 4 none, Cond.methodLink RX0 46 yX0_note, Cond.instanceMethod yX0_note, Cond.selects RX0 yX0_note yX0_note, Cond.code yX0_note cX0_note 4 none, Cond.fieldLink RX0 21 "PocketKeeper$Exchange" "first" "I", Cond.fieldLink RX0 25 "PocketKeeper$Exchange" "second" "I", Cond.methodLink RX8 171 yX0_isFound, Cond.instanceMethod yX0_isFound]
noncomputable def wsX8_better_r6 : List Cond := [Cond.selects RX0 yX0_isFound yX0_isFound, Cond.code yX0_isFound cX0_isFound 1 (some .boolean), Cond.methodLink RX8 174 yX0_first, Cond.instanceMethod yX0_first, Cond.selects RX0 yX0_first yX0_first, Cond.code yX0_first cX0_first 1 (some .int), Cond.methodLink RX8 177 yX0_second, Cond.instanceMethod yX0_second, Cond.selects RX0 yX0_second yX0_second, Cond.code yX0_second cX0_second 1 (some .int), Cond.methodLink RX8 123 yX8_changeOrder, Cond.instanceMethod yX8_changeOrder, Cond.selects RX8 yX8_changeOrder yX8_changeOrder, Cond.code yX8_changeOrder cX8_changeOrder 3 none, Cond.methodLink RX8 246 yX6_exchange, Cond.methodLink RX8 248 yX6_countChange, Cond.instanceMethod yX6_countChange, Cond.selects RX6 yX6_countChange yX6_countChange, Cond.code yX6_countChange cX6_countChange 1 none, Cond.fieldLink RX6 25 "PocketKeeper$Row" "changes" "I", Cond.methodLink RX8 85 yX8_forgetKeepings, Cond.instanceMethod yX8_forgetKeepings, Cond.selects RX8 yX8_forgetKeepings yX8_forgetKeepings, Cond.code yX8_forgetKeepings cX8_forgetKeepings 1 none]
noncomputable def wsX8_better_r7 : List Cond := [Cond.fieldLink RX8 254 "PocketKeeper" "keepingsStand" "Z", Cond.methodLink RX8 180 yX0_leastThen, Cond.instanceMethod yX0_leastThen, Cond.selects RX0 yX0_leastThen yX0_leastThen, Cond.code yX0_leastThen cX0_leastThen 1 (some .int)]
noncomputable def wsX8_better : List Cond := .code yX8_better cX8_better 1 (some .int) :: ((wsX8_better_r1 ++ (wsX8_better_r2 ++ (wsX8_better_r3 ++ (wsX8_better_r4 ++ (wsX8_better_r5 ++ (wsX8_better_r6 ++ wsX8_better_r7)))))) ++ wsX80 ++ wsX60 ++ wsX30 ++ wsX00 ++ wsX20)
noncomputable def wsX8_count_r1 : List Cond := [Cond.fieldLink RX8 26 "PocketKeeper" "row" "LPocketKeeper$Row;", Cond.fieldLink RX8 12 "PocketKeeper" "page" "LPocketKeeper$Page;", Cond.fieldLink RX8 19 "PocketKeeper" "magazine" "LPocketKeeper$Magazine;", Cond.methodLink RX8 88 yX6_size, Cond.instanceMethod yX6_size, Cond.selects RX6 yX6_size yX6_size, Cond.initialized RX6, Cond.code yX6_size cX6_size 1 (some .int), Cond.fieldLink RX6 21 "PocketKeeper$Row" "size" "I", Cond.methodLink RX8 71 yX4_length, Cond.instanceMethod yX4_length, Cond.selects RX4 yX4_length yX4_length, Cond.initialized RX4, Cond.code yX4_length cX4_length 1 (some .int), Cond.fieldLink RX4 15 "PocketKeeper$Page" "length" "I", Cond.methodLink RX8 106 yX3_room, Cond.instanceMethod yX3_room, Cond.selects RX3 yX3_room yX3_room, Cond.initialized RX3, Cond.code yX3_room cX3_room 1 (some .int), Cond.fieldLink RX3 9 "PocketKeeper$Magazine" "room" "I", Cond.methodLink RX8 95 yX3_bigTools, Cond.instanceMethod yX3_bigTools, Cond.selects RX3 yX3_bigTools yX3_bigTools]
noncomputable def wsX8_count_r2 : List Cond := [Cond.code yX3_bigTools cX3_bigTools 1 (some .int), Cond.fieldLink RX3 15 "PocketKeeper$Magazine" "bigTools" "I", Cond.methodLink RX8 183 yX6_allBreaks, Cond.instanceMethod yX6_allBreaks, Cond.selects RX6 yX6_allBreaks yX6_allBreaks, Cond.code yX6_allBreaks cX6_allBreaks 3 (some .int), Cond.fieldLink RX6 18 "PocketKeeper$Row" "broken" "[I", Cond.methodLink RX6 59 yJ6_bitCount_0f7a4, Cond.static yJ6_bitCount_0f7a4, Cond.initialized RJ6, Cond.code yJ6_bitCount_0f7a4 cJ6_bitCount_0f7a4 1 (some .int), Cond.constant RJ6 265 (1431655765), Cond.constant RJ6 266 (858993459), Cond.constant RJ6 267 (252645135), Cond.methodLink RX8 127 yX6_changes, Cond.instanceMethod yX6_changes, Cond.selects RX6 yX6_changes yX6_changes, Cond.code yX6_changes cX6_changes 1 (some .int), Cond.fieldLink RX6 25 "PocketKeeper$Row" "changes" "I", Cond.methodLink RX8 186 yX6_reads, Cond.instanceMethod yX6_reads, Cond.selects RX6 yX6_reads yX6_reads, Cond.code yX6_reads cX6_reads 1 (some .int), Cond.fieldLink RX6 28 "PocketKeeper$Row" "reads" "I"]
noncomputable def wsX8_count_r3 : List Cond := [Cond.methodLink RX8 189 yX8_isTooBig, Cond.instanceMethod yX8_isTooBig, Cond.selects RX8 yX8_isTooBig yX8_isTooBig, Cond.initialized RX8, Cond.code yX8_isTooBig cX8_isTooBig 2 (some .boolean), Cond.methodLink RX8 130 yX6_needs, Cond.instanceMethod yX6_needs, Cond.selects RX6 yX6_needs yX6_needs, Cond.code yX6_needs cX6_needs 2 (some .int), Cond.fieldLink RX6 9 "PocketKeeper$Row" "needsAsTold" "[I", Cond.fieldLink RX6 15 "PocketKeeper$Row" "numbers" "[I", Cond.methodLink RX8 251 yX3_holds, Cond.instanceMethod yX3_holds, Cond.selects RX3 yX3_holds yX3_holds, Cond.code yX3_holds cX3_holds 2 (some .boolean), Cond.methodLink RX3 28 yX3_sizeOf, Cond.instanceMethod yX3_sizeOf, Cond.selects RX3 yX3_sizeOf yX3_sizeOf, Cond.code yX3_sizeOf cX3_sizeOf 2 (some .int), Cond.methodLink RX3 22 yJ6_bitCount_0f7a4]
noncomputable def wsX8_count : List Cond := .code yX8_count cX8_count 2 (some .int) :: ((wsX8_count_r1 ++ (wsX8_count_r2 ++ wsX8_count_r3)) ++ wsX80 ++ wsX60 ++ wsX40 ++ wsX30)
noncomputable def wsX8_digestOfRow_r1 : List Cond := [Cond.fieldLink RX8 26 "PocketKeeper" "row" "LPocketKeeper$Row;", Cond.constantLong RX8 201 (31), Cond.methodLink RX8 88 yX6_size, Cond.instanceMethod yX6_size, Cond.selects RX6 yX6_size yX6_size, Cond.initialized RX6, Cond.code yX6_size cX6_size 1 (some .int), Cond.fieldLink RX6 21 "PocketKeeper$Row" "size" "I", Cond.methodLink RX8 209 yX8_job, Cond.instanceMethod yX8_job, Cond.selects RX8 yX8_job yX8_job, Cond.initialized RX8, Cond.code yX8_job cX8_job 3 (some .int), Cond.methodLink RX8 112 yX6_isPlace, Cond.instanceMethod yX6_isPlace, Cond.selects RX6 yX6_isPlace yX6_isPlace, Cond.code yX6_isPlace cX6_isPlace 2 (some .boolean), Cond.methodLink RX8 130 yX6_needs, Cond.instanceMethod yX6_needs, Cond.selects RX6 yX6_needs yX6_needs, Cond.code yX6_needs cX6_needs 2 (some .int), Cond.fieldLink RX6 9 "PocketKeeper$Row" "needsAsTold" "[I", Cond.fieldLink RX6 15 "PocketKeeper$Row" "numbers" "[I", Cond.methodLink RX8 133 yX6_number]
noncomputable def wsX8_digestOfRow_r2 : List Cond := [Cond.instanceMethod yX6_number, Cond.selects RX6 yX6_number yX6_number, Cond.code yX6_number cX6_number 2 (some .int), Cond.methodLink RX8 115 yX6_broken, Cond.instanceMethod yX6_broken, Cond.selects RX6 yX6_broken yX6_broken, Cond.code yX6_broken cX6_broken 2 (some .int), Cond.fieldLink RX6 18 "PocketKeeper$Row" "broken" "[I", Cond.methodLink RX8 212 yX8_next, Cond.instanceMethod yX8_next, Cond.selects RX8 yX8_next yX8_next, Cond.code yX8_next cX8_next 3 (some .int), Cond.methodLink RX8 91 yX8_isTool, Cond.static yX8_isTool, Cond.code yX8_isTool cX8_isTool 1 (some .boolean), Cond.methodLink RX8 136 yX6_nextPlace, Cond.instanceMethod yX6_nextPlace, Cond.selects RX6 yX6_nextPlace yX6_nextPlace, Cond.code yX6_nextPlace cX6_nextPlace 4 (some .int), Cond.static yX8_hasTool, Cond.code yX8_hasTool cX8_hasTool 2 (some .boolean), Cond.methodLink RX6 56 yX6_needs]
noncomputable def wsX8_digestOfRow : List Cond := .code yX8_digestOfRow cX8_digestOfRow 7 (some .long) :: ((wsX8_digestOfRow_r1 ++ wsX8_digestOfRow_r2) ++ wsX80 ++ wsX60)
noncomputable def wsX8_digestOfKeepings_r1 : List Cond := [Cond.fieldLink RX8 26 "PocketKeeper" "row" "LPocketKeeper$Row;", Cond.constantLong RX8 201 (31), Cond.fieldLink RX8 42 "PocketKeeper" "bySoonest" "LPocketKeeper$Keeping;", Cond.fieldLink RX8 51 "PocketKeeper" "byPlan" "LPocketKeeper$Keeping;", Cond.methodLink RX8 88 yX6_size, Cond.instanceMethod yX6_size, Cond.selects RX6 yX6_size yX6_size, Cond.initialized RX6, Cond.code yX6_size cX6_size 1 (some .int), Cond.fieldLink RX6 21 "PocketKeeper$Row" "size" "I", Cond.methodLink RX8 146 yX8_numberOfKeeping, Cond.instanceMethod yX8_numberOfKeeping, Cond.selects RX8 yX8_numberOfKeeping yX8_numberOfKeeping, Cond.initialized RX8, Cond.code yX8_numberOfKeeping cX8_numberOfKeeping 4 (some .int), Cond.fieldLink RX8 19 "PocketKeeper" "magazine" "LPocketKeeper$Magazine;", Cond.methodLink RX8 215 ⟨"PocketKeeper$Keeping", "inside", "(I)I"⟩, Cond.sameMethod "PocketKeeper$Keeping" "PocketKeeper$Keeping" "inside" "(I)I", Cond.selects RX5 ⟨"PocketKeeper$Keeping", "inside", "(I)I"⟩ yX1_inside, Cond.instanceMethod yX1_inside, Cond.initialized RX1, Cond.code yX1_inside cX1_inside 2 (some .int), Cond.fieldLink RX1 9 "PocketKeeper$Keeping" "inside" "[I", Cond.selects RX7 ⟨"PocketKeeper$Keeping", "inside", "(I)I"⟩ yX1_inside]
noncomputable def wsX8_digestOfKeepings_r2 : List Cond := [Cond.methodLink RX8 220 ⟨"PocketKeeper$Keeping", "coming", "(I)I"⟩, Cond.sameMethod "PocketKeeper$Keeping" "PocketKeeper$Keeping" "coming" "(I)I", Cond.selects RX5 ⟨"PocketKeeper$Keeping", "coming", "(I)I"⟩ yX1_coming, Cond.instanceMethod yX1_coming, Cond.code yX1_coming cX1_coming 2 (some .int), Cond.fieldLink RX1 15 "PocketKeeper$Keeping" "coming" "[I", Cond.selects RX7 ⟨"PocketKeeper$Keeping", "coming", "(I)I"⟩ yX1_coming, Cond.methodLink RX8 223 ⟨"PocketKeeper$Keeping", "going", "(I)I"⟩, Cond.sameMethod "PocketKeeper$Keeping" "PocketKeeper$Keeping" "going" "(I)I", Cond.selects RX5 ⟨"PocketKeeper$Keeping", "going", "(I)I"⟩ yX1_going, Cond.instanceMethod yX1_going, Cond.code yX1_going cX1_going 2 (some .int), Cond.fieldLink RX1 18 "PocketKeeper$Keeping" "going" "[I", Cond.selects RX7 ⟨"PocketKeeper$Keeping", "going", "(I)I"⟩ yX1_going, Cond.methodLink RX8 226 yX3_sizeOf, Cond.instanceMethod yX3_sizeOf, Cond.selects RX3 yX3_sizeOf yX3_sizeOf, Cond.initialized RX3, Cond.code yX3_sizeOf cX3_sizeOf 2 (some .int), Cond.fieldLink RX3 15 "PocketKeeper$Magazine" "bigTools" "I", Cond.methodLink RX3 22 yJ6_bitCount_0f7a4, Cond.static yJ6_bitCount_0f7a4, Cond.initialized RJ6, Cond.code yJ6_bitCount_0f7a4 cJ6_bitCount_0f7a4 1 (some .int)]
noncomputable def wsX8_digestOfKeepings_r3 : List Cond := [Cond.constant RJ6 265 (1431655765), Cond.constant RJ6 266 (858993459), Cond.constant RJ6 267 (252645135), Cond.methodLink RX8 153 yX8_numberOfCost, Cond.instanceMethod yX8_numberOfCost, Cond.selects RX8 yX8_numberOfCost yX8_numberOfCost, Cond.code yX8_numberOfCost cX8_numberOfCost 2 (some .int), Cond.methodLink RX8 229 ⟨"PocketKeeper$Keeping", "totalCost", "()I"⟩, Cond.sameMethod "PocketKeeper$Keeping" "PocketKeeper$Keeping" "totalCost" "()I", Cond.selects RX5 ⟨"PocketKeeper$Keeping", "totalCost", "()I"⟩ yX1_totalCost, Cond.instanceMethod yX1_totalCost, Cond.code yX1_totalCost cX1_totalCost 3 (some .int), Cond.fieldLink RX1 21 "PocketKeeper$Keeping" "row" "LPocketKeeper$Row;", Cond.fieldLink RX1 25 "PocketKeeper$Keeping" "magazine" "LPocketKeeper$Magazine;", Cond.methodLink RX1 29 yX6_size, Cond.methodLink RX1 46 yX3_sizeOf, Cond.selects RX7 ⟨"PocketKeeper$Keeping", "totalCost", "()I"⟩ yX1_totalCost, Cond.methodLink RX8 232 yX6_allNeeds, Cond.instanceMethod yX6_allNeeds, Cond.selects RX6 yX6_allNeeds yX6_allNeeds, Cond.code yX6_allNeeds cX6_allNeeds 3 (some .int), Cond.methodLink RX6 56 yX6_needs, Cond.instanceMethod yX6_needs, Cond.selects RX6 yX6_needs yX6_needs]
noncomputable def wsX8_digestOfKeepings_r4 : List Cond := [Cond.code yX6_needs cX6_needs 2 (some .int), Cond.fieldLink RX6 9 "PocketKeeper$Row" "needsAsTold" "[I", Cond.fieldLink RX6 15 "PocketKeeper$Row" "numbers" "[I", Cond.methodLink RX8 235 ⟨"PocketKeeper$Keeping", "totalComing", "()I"⟩, Cond.sameMethod "PocketKeeper$Keeping" "PocketKeeper$Keeping" "totalComing" "()I", Cond.selects RX5 ⟨"PocketKeeper$Keeping", "totalComing", "()I"⟩ yX1_totalComing, Cond.instanceMethod yX1_totalComing, Cond.code yX1_totalComing cX1_totalComing 3 (some .int), Cond.methodLink RX1 51 yJ6_bitCount_0f7a4, Cond.selects RX7 ⟨"PocketKeeper$Keeping", "totalComing", "()I"⟩ yX1_totalComing, Cond.methodLink RX8 158 yX8_bitsOfMean, Cond.instanceMethod yX8_bitsOfMean, Cond.selects RX8 yX8_bitsOfMean yX8_bitsOfMean, Cond.code yX8_bitsOfMean cX8_bitsOfMean 1 (some .long), Cond.methodLink RX8 238 yX8_bitsOfDouble, Cond.static yX8_bitsOfDouble, Cond.code yX8_bitsOfDouble cX8_bitsOfDouble 7 (some .long), Cond.constantLong RX8 270 (1023), Cond.constantDouble RX8 272 (4611686018427387904), Cond.constantDouble RX8 274 (4841369599423283200), Cond.methodLink RX8 162 yX8_bitsOfRatio, Cond.instanceMethod yX8_bitsOfRatio, Cond.selects RX8 yX8_bitsOfRatio yX8_bitsOfRatio, Cond.code yX8_bitsOfRatio cX8_bitsOfRatio 1 (some .int)]
noncomputable def wsX8_digestOfKeepings_r5 : List Cond := [Cond.methodLink RX8 242 yX8_bitsOfFloat, Cond.static yX8_bitsOfFloat, Cond.code yX8_bitsOfFloat cX8_bitsOfFloat 4 (some .int), Cond.constantFloat RX8 276 (1258291200), Cond.methodLink RX8 168 yX8_numberOfExchange, Cond.instanceMethod yX8_numberOfExchange, Cond.selects RX8 yX8_numberOfExchange yX8_numberOfExchange, Cond.code yX8_numberOfExchange cX8_numberOfExchange 2 (some .int), Cond.fieldLink RX8 59 "PocketKeeper" "exchange" "LPocketKeeper$Exchange;", Cond.methodLink RX8 171 yX0_isFound, Cond.instanceMethod yX0_isFound, Cond.selects RX0 yX0_isFound yX0_isFound, Cond.initialized RX0, Cond.code yX0_isFound cX0_isFound 1 (some .boolean), Cond.fieldLink RX0 17 "PocketKeeper$Exchange" "found" "Z", Cond.methodLink RX8 174 yX0_first, Cond.instanceMethod yX0_first, Cond.selects RX0 yX0_first yX0_first, Cond.code yX0_first cX0_first 1 (some .int), Cond.fieldLink RX0 21 "PocketKeeper$Exchange" "first" "I", Cond.methodLink RX8 177 yX0_second, Cond.instanceMethod yX0_second, Cond.selects RX0 yX0_second yX0_second, Cond.code yX0_second cX0_second 1 (some .int)]
noncomputable def wsX8_digestOfKeepings_r6 : List Cond := [Cond.fieldLink RX0 25 "PocketKeeper$Exchange" "second" "I", Cond.methodLink RX8 180 yX0_leastThen, Cond.instanceMethod yX0_leastThen, Cond.selects RX0 yX0_leastThen yX0_leastThen, Cond.code yX0_leastThen cX0_leastThen 1 (some .int), Cond.fieldLink RX0 28 "PocketKeeper$Exchange" "leastThen" "I"]
noncomputable def wsX8_digestOfKeepings : List Cond := .code yX8_digestOfKeepings cX8_digestOfKeepings 7 (some .long) :: ((wsX8_digestOfKeepings_r1 ++ (wsX8_digestOfKeepings_r2 ++ (wsX8_digestOfKeepings_r3 ++ (wsX8_digestOfKeepings_r4 ++ (wsX8_digestOfKeepings_r5 ++ wsX8_digestOfKeepings_r6))))) ++ wsX80 ++ wsX60 ++ wsX50 ++ wsX70 ++ wsX30 ++ wsX00)
noncomputable def wsX8_digest_r1 : List Cond := [Cond.constantLong RX8 192 (1699), Cond.fieldLink RX8 12 "PocketKeeper" "page" "LPocketKeeper$Page;", Cond.constantLong RX8 201 (31), Cond.methodLink RX8 194 yX8_digestOfRow, Cond.instanceMethod yX8_digestOfRow, Cond.selects RX8 yX8_digestOfRow yX8_digestOfRow, Cond.initialized RX8, Cond.code yX8_digestOfRow cX8_digestOfRow 7 (some .long), Cond.fieldLink RX8 26 "PocketKeeper" "row" "LPocketKeeper$Row;", Cond.methodLink RX8 88 yX6_size, Cond.instanceMethod yX6_size, Cond.selects RX6 yX6_size yX6_size, Cond.initialized RX6, Cond.code yX6_size cX6_size 1 (some .int), Cond.fieldLink RX6 21 "PocketKeeper$Row" "size" "I", Cond.methodLink RX8 209 yX8_job, Cond.instanceMethod yX8_job, Cond.selects RX8 yX8_job yX8_job, Cond.code yX8_job cX8_job 3 (some .int), Cond.methodLink RX8 112 yX6_isPlace, Cond.instanceMethod yX6_isPlace, Cond.selects RX6 yX6_isPlace yX6_isPlace, Cond.code yX6_isPlace cX6_isPlace 2 (some .boolean), Cond.methodLink RX8 130 yX6_needs]
noncomputable def wsX8_digest_r2 : List Cond := [Cond.instanceMethod yX6_needs, Cond.selects RX6 yX6_needs yX6_needs, Cond.code yX6_needs cX6_needs 2 (some .int), Cond.fieldLink RX6 9 "PocketKeeper$Row" "needsAsTold" "[I", Cond.fieldLink RX6 15 "PocketKeeper$Row" "numbers" "[I", Cond.methodLink RX8 133 yX6_number, Cond.instanceMethod yX6_number, Cond.selects RX6 yX6_number yX6_number, Cond.code yX6_number cX6_number 2 (some .int), Cond.methodLink RX8 115 yX6_broken, Cond.instanceMethod yX6_broken, Cond.selects RX6 yX6_broken yX6_broken, Cond.code yX6_broken cX6_broken 2 (some .int), Cond.fieldLink RX6 18 "PocketKeeper$Row" "broken" "[I", Cond.methodLink RX8 212 yX8_next, Cond.instanceMethod yX8_next, Cond.selects RX8 yX8_next yX8_next, Cond.code yX8_next cX8_next 3 (some .int), Cond.methodLink RX8 91 yX8_isTool, Cond.static yX8_isTool, Cond.code yX8_isTool cX8_isTool 1 (some .boolean), Cond.methodLink RX8 136 yX6_nextPlace, Cond.instanceMethod yX6_nextPlace, Cond.selects RX6 yX6_nextPlace yX6_nextPlace]
noncomputable def wsX8_digest_r3 : List Cond := [Cond.code yX6_nextPlace cX6_nextPlace 4 (some .int), Cond.static yX8_hasTool, Cond.code yX8_hasTool cX8_hasTool 2 (some .boolean), Cond.methodLink RX6 56 yX6_needs, Cond.methodLink RX8 150 yX8_canKeep, Cond.instanceMethod yX8_canKeep, Cond.selects RX8 yX8_canKeep yX8_canKeep, Cond.code yX8_canKeep cX8_canKeep 1 (some .boolean), Cond.methodLink RX8 189 yX8_isTooBig, Cond.instanceMethod yX8_isTooBig, Cond.selects RX8 yX8_isTooBig yX8_isTooBig, Cond.code yX8_isTooBig cX8_isTooBig 2 (some .boolean), Cond.fieldLink RX8 19 "PocketKeeper" "magazine" "LPocketKeeper$Magazine;", Cond.methodLink RX8 251 yX3_holds, Cond.instanceMethod yX3_holds, Cond.selects RX3 yX3_holds yX3_holds, Cond.initialized RX3, Cond.code yX3_holds cX3_holds 2 (some .boolean), Cond.fieldLink RX3 9 "PocketKeeper$Magazine" "room" "I", Cond.methodLink RX3 28 yX3_sizeOf, Cond.instanceMethod yX3_sizeOf, Cond.selects RX3 yX3_sizeOf yX3_sizeOf, Cond.code yX3_sizeOf cX3_sizeOf 2 (some .int), Cond.fieldLink RX3 15 "PocketKeeper$Magazine" "bigTools" "I"]
noncomputable def wsX8_digest_r4 : List Cond := [Cond.methodLink RX3 22 yJ6_bitCount_0f7a4, Cond.static yJ6_bitCount_0f7a4, Cond.initialized RJ6, Cond.code yJ6_bitCount_0f7a4 cJ6_bitCount_0f7a4 1 (some .int), Cond.constant RJ6 265 (1431655765), Cond.constant RJ6 266 (858993459), Cond.constant RJ6 267 (252645135), Cond.methodLink RX8 143 yX8_standKeepings, Cond.instanceMethod yX8_standKeepings, Cond.selects RX8 yX8_standKeepings yX8_standKeepings, Cond.code yX8_standKeepings cX8_standKeepings 1 none, Cond.fieldLink RX8 254 "PocketKeeper" "keepingsStand" "Z", Cond.fieldLink RX8 42 "PocketKeeper" "bySoonest" "LPocketKeeper$Keeping;", Cond.fieldLink RX8 35 "PocketKeeper" "search" "LPocketKeeper$LeastSearch;", Cond.fieldLink RX8 51 "PocketKeeper" "byPlan" "LPocketKeeper$Keeping;", Cond.methodLink RX8 261 ⟨"PocketKeeper$Keeping", "keepAll", "()V"⟩, Cond.sameMethod "PocketKeeper$Keeping" "PocketKeeper$Keeping" "keepAll" "()V", Cond.selects RX5 ⟨"PocketKeeper$Keeping", "keepAll", "()V"⟩ yX1_keepAll, Cond.instanceMethod yX1_keepAll, Cond.initialized RX1, Cond.code yX1_keepAll cX1_keepAll 4 none, Cond.fieldLink RX1 21 "PocketKeeper$Keeping" "row" "LPocketKeeper$Row;", Cond.fieldLink RX1 9 "PocketKeeper$Keeping" "inside" "[I", Cond.fieldLink RX1 15 "PocketKeeper$Keeping" "coming" "[I"]
noncomputable def wsX8_digest_r5 : List Cond := [Cond.fieldLink RX1 18 "PocketKeeper$Keeping" "going" "[I", Cond.methodLink RX1 29 yX6_size, Cond.methodLink RX1 35 yX6_needs, Cond.methodLink RX1 39 ⟨"PocketKeeper$Keeping", "staying", "(II)I"⟩, Cond.sameMethod "PocketKeeper$Keeping" "PocketKeeper$Keeping" "staying" "(II)I", Cond.selects RX5 ⟨"PocketKeeper$Keeping", "staying", "(II)I"⟩ yX5_staying, Cond.instanceMethod yX5_staying, Cond.initialized RX5, Cond.code yX5_staying cX5_staying 3 (some .int), Cond.fieldLink RX5 7 "PocketKeeper$PlanKeeping" "search" "LPocketKeeper$LeastSearch;", Cond.methodLink RX5 13 yX2_leastSetAtLeastCost, Cond.instanceMethod yX2_leastSetAtLeastCost, Cond.selects RX2 yX2_leastSetAtLeastCost yX2_leastSetAtLeastCost, Cond.initialized RX2, Cond.code yX2_leastSetAtLeastCost cX2_leastSetAtLeastCost 7 (some .int), Cond.fieldLink RX2 9 "PocketKeeper$LeastSearch" "worthKeeping" "[I", Cond.fieldLink RX2 15 "PocketKeeper$LeastSearch" "costBehind" "[I", Cond.methodLink RX2 48 yX2_cell, Cond.static yX2_cell, Cond.code yX2_cell cX2_cell 2 (some .int), Cond.methodLink RX2 52 yX2_subsets, Cond.static yX2_subsets, Cond.code yX2_subsets cX2_subsets 1 (some .int), Cond.methodLink RX2 83 yJ6_bitCount_0f7a4]
noncomputable def wsX8_digest_r6 : List Cond := [Cond.methodLink RX2 55 yX2_subsetBehind, Cond.static yX2_subsetBehind, Cond.code yX2_subsetBehind cX2_subsetBehind 2 (some .int), Cond.selects RX7 ⟨"PocketKeeper$Keeping", "staying", "(II)I"⟩ yX7_staying, Cond.instanceMethod yX7_staying, Cond.initialized RX7, Cond.code yX7_staying cX7_staying 5 (some .int), Cond.fieldLink RX7 9 "PocketKeeper$SoonestKeeping" "magazine" "LPocketKeeper$Magazine;", Cond.sameField "PocketKeeper$SoonestKeeping" "PocketKeeper$Keeping" "magazine" "LPocketKeeper$Magazine;", Cond.fieldLink RX7 15 "PocketKeeper$SoonestKeeping" "row" "LPocketKeeper$Row;", Cond.sameField "PocketKeeper$SoonestKeeping" "PocketKeeper$Keeping" "row" "LPocketKeeper$Row;", Cond.methodLink RX7 19 yX6_needs, Cond.methodLink RX7 25 yX3_holds, Cond.methodLink RX7 31 yX7_firstToGo, Cond.instanceMethod yX7_firstToGo, Cond.selects RX7 yX7_firstToGo yX7_firstToGo, Cond.code yX7_firstToGo cX7_firstToGo 6 (some .int), Cond.methodLink RX7 39 yX7_rank, Cond.instanceMethod yX7_rank, Cond.selects RX7 yX7_rank yX7_rank, Cond.code yX7_rank cX7_rank 5 (some .int), Cond.methodLink RX7 42 yX6_nextPlace, Cond.methodLink RX7 45 yX3_bigTools, Cond.instanceMethod yX3_bigTools]
noncomputable def wsX8_digest_r7 : List Cond := [Cond.selects RX3 yX3_bigTools yX3_bigTools, Cond.code yX3_bigTools cX3_bigTools 1 (some .int), Cond.methodLink RX1 43 yX6_broken, Cond.selects RX7 ⟨"PocketKeeper$Keeping", "keepAll", "()V"⟩ yX1_keepAll, Cond.methodLink RX8 264 yX2_least, Cond.instanceMethod yX2_least, Cond.selects RX2 yX2_least yX2_least, Cond.code yX2_least cX2_least 2 (some .int), Cond.fieldLink RX2 18 "PocketKeeper$LeastSearch" "row" "LPocketKeeper$Row;", Cond.fieldLink RX2 22 "PocketKeeper$LeastSearch" "magazine" "LPocketKeeper$Magazine;", Cond.methodLink RX2 26 yX2_findWorthKeeping, Cond.instanceMethod yX2_findWorthKeeping, Cond.selects RX2 yX2_findWorthKeeping yX2_findWorthKeeping, Cond.code yX2_findWorthKeeping cX2_findWorthKeeping 4 none, Cond.methodLink RX2 29 yX6_size, Cond.methodLink RX2 39 yX6_needs, Cond.methodLink RX2 58 yX6_broken, Cond.methodLink RX2 35 yX2_fillPlace, Cond.instanceMethod yX2_fillPlace, Cond.selects RX2 yX2_fillPlace yX2_fillPlace, Cond.code yX2_fillPlace cX2_fillPlace 4 none, Cond.methodLink RX2 61 yX3_holds, Cond.methodLink RX2 65 yX2_costIfKept, Cond.instanceMethod yX2_costIfKept]
noncomputable def wsX8_digest_r8 : List Cond := [Cond.selects RX2 yX2_costIfKept yX2_costIfKept, Cond.code yX2_costIfKept cX2_costIfKept 5 (some .int), Cond.methodLink RX2 43 yX3_sizeOf, Cond.methodLink RX2 68 yX2_costOfFewer, Cond.instanceMethod yX2_costOfFewer, Cond.selects RX2 yX2_costOfFewer yX2_costOfFewer, Cond.code yX2_costOfFewer cX2_costOfFewer 5 (some .int), Cond.constant RX2 73 (2147483647), Cond.methodLink RX2 78 Lib.Math.min.name, Cond.static Lib.Math.min.name, Cond.initialized "java/lang/Math", Cond.code Lib.Math.min.name Lib.Math.min.code 2 (some .int), Cond.methodLink RX8 165 yX8_standExchange, Cond.instanceMethod yX8_standExchange, Cond.selects RX8 yX8_standExchange yX8_standExchange, Cond.code yX8_standExchange cX8_standExchange 1 none, Cond.fieldLink RX8 258 "PocketKeeper" "exchangeStands" "Z", Cond.fieldLink RX8 59 "PocketKeeper" "exchange" "LPocketKeeper$Exchange;", Cond.methodLink RX8 267 yX0_find, Cond.instanceMethod yX0_find, Cond.selects RX0 yX0_find yX0_find, Cond.initialized RX0, Cond.code yX0_find cX0_find 4 none, Cond.fieldLink RX0 17 "PocketKeeper$Exchange" "found" "Z"]
noncomputable def wsX8_digest_r9 : List Cond := [Cond.fieldLink RX0 13 "PocketKeeper$Exchange" "search" "LPocketKeeper$LeastSearch;", Cond.fieldLink RX0 28 "PocketKeeper$Exchange" "leastThen" "I", Cond.fieldLink RX0 7 "PocketKeeper$Exchange" "row" "LPocketKeeper$Row;", Cond.methodLink RX0 31 yX2_least, Cond.methodLink RX0 37 yX6_size, Cond.methodLink RX0 42 yX6_exchange, Cond.instanceMethod yX6_exchange, Cond.selects RX6 yX6_exchange yX6_exchange, Cond.code yX6_exchange cX6_exchange 4 none, Cond.methodLink RX0 46 yX0_note, Cond.instanceMethod yX0_note, Cond.selects RX0 yX0_note yX0_note, Cond.code yX0_note cX0_note 4 none, Cond.fieldLink RX0 21 "PocketKeeper$Exchange" "first" "I", Cond.fieldLink RX0 25 "PocketKeeper$Exchange" "second" "I", Cond.methodLink RX8 198 yX8_digestOfKeepings, Cond.instanceMethod yX8_digestOfKeepings, Cond.selects RX8 yX8_digestOfKeepings yX8_digestOfKeepings, Cond.code yX8_digestOfKeepings cX8_digestOfKeepings 7 (some .long), Cond.methodLink RX8 146 yX8_numberOfKeeping, Cond.instanceMethod yX8_numberOfKeeping, Cond.selects RX8 yX8_numberOfKeeping yX8_numberOfKeeping, Cond.code yX8_numberOfKeeping cX8_numberOfKeeping 4 (some .int), Cond.methodLink RX8 215 ⟨"PocketKeeper$Keeping", "inside", "(I)I"⟩]
noncomputable def wsX8_digest_r10 : List Cond := [Cond.sameMethod "PocketKeeper$Keeping" "PocketKeeper$Keeping" "inside" "(I)I", Cond.selects RX5 ⟨"PocketKeeper$Keeping", "inside", "(I)I"⟩ yX1_inside, Cond.instanceMethod yX1_inside, Cond.code yX1_inside cX1_inside 2 (some .int), Cond.selects RX7 ⟨"PocketKeeper$Keeping", "inside", "(I)I"⟩ yX1_inside, Cond.methodLink RX8 220 ⟨"PocketKeeper$Keeping", "coming", "(I)I"⟩, Cond.sameMethod "PocketKeeper$Keeping" "PocketKeeper$Keeping" "coming" "(I)I", Cond.selects RX5 ⟨"PocketKeeper$Keeping", "coming", "(I)I"⟩ yX1_coming, Cond.instanceMethod yX1_coming, Cond.code yX1_coming cX1_coming 2 (some .int), Cond.selects RX7 ⟨"PocketKeeper$Keeping", "coming", "(I)I"⟩ yX1_coming, Cond.methodLink RX8 223 ⟨"PocketKeeper$Keeping", "going", "(I)I"⟩, Cond.sameMethod "PocketKeeper$Keeping" "PocketKeeper$Keeping" "going" "(I)I", Cond.selects RX5 ⟨"PocketKeeper$Keeping", "going", "(I)I"⟩ yX1_going, Cond.instanceMethod yX1_going, Cond.code yX1_going cX1_going 2 (some .int), Cond.selects RX7 ⟨"PocketKeeper$Keeping", "going", "(I)I"⟩ yX1_going, Cond.methodLink RX8 226 yX3_sizeOf, Cond.methodLink RX8 153 yX8_numberOfCost, Cond.instanceMethod yX8_numberOfCost, Cond.selects RX8 yX8_numberOfCost yX8_numberOfCost, Cond.code yX8_numberOfCost cX8_numberOfCost 2 (some .int), Cond.methodLink RX8 229 ⟨"PocketKeeper$Keeping", "totalCost", "()I"⟩, Cond.sameMethod "PocketKeeper$Keeping" "PocketKeeper$Keeping" "totalCost" "()I"]
noncomputable def wsX8_digest_r11 : List Cond := [Cond.selects RX5 ⟨"PocketKeeper$Keeping", "totalCost", "()I"⟩ yX1_totalCost, Cond.instanceMethod yX1_totalCost, Cond.code yX1_totalCost cX1_totalCost 3 (some .int), Cond.fieldLink RX1 25 "PocketKeeper$Keeping" "magazine" "LPocketKeeper$Magazine;", Cond.methodLink RX1 46 yX3_sizeOf, Cond.selects RX7 ⟨"PocketKeeper$Keeping", "totalCost", "()I"⟩ yX1_totalCost, Cond.methodLink RX8 232 yX6_allNeeds, Cond.instanceMethod yX6_allNeeds, Cond.selects RX6 yX6_allNeeds yX6_allNeeds, Cond.code yX6_allNeeds cX6_allNeeds 3 (some .int), Cond.methodLink RX8 235 ⟨"PocketKeeper$Keeping", "totalComing", "()I"⟩, Cond.sameMethod "PocketKeeper$Keeping" "PocketKeeper$Keeping" "totalComing" "()I", Cond.selects RX5 ⟨"PocketKeeper$Keeping", "totalComing", "()I"⟩ yX1_totalComing, Cond.instanceMethod yX1_totalComing, Cond.code yX1_totalComing cX1_totalComing 3 (some .int), Cond.methodLink RX1 51 yJ6_bitCount_0f7a4, Cond.selects RX7 ⟨"PocketKeeper$Keeping", "totalComing", "()I"⟩ yX1_totalComing, Cond.methodLink RX8 158 yX8_bitsOfMean, Cond.instanceMethod yX8_bitsOfMean, Cond.selects RX8 yX8_bitsOfMean yX8_bitsOfMean, Cond.code yX8_bitsOfMean cX8_bitsOfMean 1 (some .long), Cond.methodLink RX8 238 yX8_bitsOfDouble, Cond.static yX8_bitsOfDouble, Cond.code yX8_bitsOfDouble cX8_bitsOfDouble 7 (some .long)]
noncomputable def wsX8_digest_r12 : List Cond := [Cond.constantLong RX8 270 (1023), Cond.constantDouble RX8 272 (4611686018427387904), Cond.constantDouble RX8 274 (4841369599423283200), Cond.methodLink RX8 162 yX8_bitsOfRatio, Cond.instanceMethod yX8_bitsOfRatio, Cond.selects RX8 yX8_bitsOfRatio yX8_bitsOfRatio, Cond.code yX8_bitsOfRatio cX8_bitsOfRatio 1 (some .int), Cond.methodLink RX8 242 yX8_bitsOfFloat, Cond.static yX8_bitsOfFloat, Cond.code yX8_bitsOfFloat cX8_bitsOfFloat 4 (some .int), Cond.constantFloat RX8 276 (1258291200), Cond.methodLink RX8 168 yX8_numberOfExchange, Cond.instanceMethod yX8_numberOfExchange, Cond.selects RX8 yX8_numberOfExchange yX8_numberOfExchange, Cond.code yX8_numberOfExchange cX8_numberOfExchange 2 (some .int), Cond.methodLink RX8 171 yX0_isFound, Cond.instanceMethod yX0_isFound, Cond.selects RX0 yX0_isFound yX0_isFound, Cond.code yX0_isFound cX0_isFound 1 (some .boolean), Cond.methodLink RX8 174 yX0_first, Cond.instanceMethod yX0_first, Cond.selects RX0 yX0_first yX0_first, Cond.code yX0_first cX0_first 1 (some .int), Cond.methodLink RX8 177 yX0_second]
noncomputable def wsX8_digest_r13 : List Cond := [Cond.instanceMethod yX0_second, Cond.selects RX0 yX0_second yX0_second, Cond.code yX0_second cX0_second 1 (some .int), Cond.methodLink RX8 180 yX0_leastThen, Cond.instanceMethod yX0_leastThen, Cond.selects RX0 yX0_leastThen yX0_leastThen, Cond.code yX0_leastThen cX0_leastThen 1 (some .int), Cond.methodLink RX8 71 yX4_length, Cond.instanceMethod yX4_length, Cond.selects RX4 yX4_length yX4_length, Cond.initialized RX4, Cond.code yX4_length cX4_length 1 (some .int), Cond.fieldLink RX4 15 "PocketKeeper$Page" "length" "I", Cond.methodLink RX8 203 yX4_codeAt, Cond.instanceMethod yX4_codeAt, Cond.selects RX4 yX4_codeAt yX4_codeAt, Cond.code yX4_codeAt cX4_codeAt 2 (some .int), Cond.fieldLink RX4 9 "PocketKeeper$Page" "letters" "[C", Cond.methodLink RX8 206 yX8_count, Cond.instanceMethod yX8_count, Cond.selects RX8 yX8_count yX8_count, Cond.code yX8_count cX8_count 2 (some .int), Cond.methodLink RX8 106 yX3_room, Cond.instanceMethod yX3_room]
noncomputable def wsX8_digest_r14 : List Cond := [Cond.selects RX3 yX3_room yX3_room, Cond.code yX3_room cX3_room 1 (some .int), Cond.methodLink RX8 95 yX3_bigTools, Cond.methodLink RX8 183 yX6_allBreaks, Cond.instanceMethod yX6_allBreaks, Cond.selects RX6 yX6_allBreaks yX6_allBreaks, Cond.code yX6_allBreaks cX6_allBreaks 3 (some .int), Cond.methodLink RX6 59 yJ6_bitCount_0f7a4, Cond.methodLink RX8 127 yX6_changes, Cond.instanceMethod yX6_changes, Cond.selects RX6 yX6_changes yX6_changes, Cond.code yX6_changes cX6_changes 1 (some .int), Cond.fieldLink RX6 25 "PocketKeeper$Row" "changes" "I", Cond.methodLink RX8 186 yX6_reads, Cond.instanceMethod yX6_reads, Cond.selects RX6 yX6_reads yX6_reads, Cond.code yX6_reads cX6_reads 1 (some .int), Cond.fieldLink RX6 28 "PocketKeeper$Row" "reads" "I"]
noncomputable def wsX8_digest : List Cond := .code yX8_digest cX8_digest 4 (some .long) :: ((wsX8_digest_r1 ++ (wsX8_digest_r2 ++ (wsX8_digest_r3 ++ (wsX8_digest_r4 ++ (wsX8_digest_r5 ++ (wsX8_digest_r6 ++ (wsX8_digest_r7 ++ (wsX8_digest_r8 ++ (wsX8_digest_r9 ++ (wsX8_digest_r10 ++ (wsX8_digest_r11 ++ (wsX8_digest_r12 ++ (wsX8_digest_r13 ++ wsX8_digest_r14))))))))))))) ++ wsX80 ++ wsX60 ++ wsX30 ++ wsX50 ++ wsX70 ++ wsX20 ++ wsX00 ++ wsX40)
noncomputable def wsX9_init : List Cond := .code yX9_init cX9_init 1 none :: ([.methodLink RX9 1 objectInit, .instanceMethod objectInit, .code objectInit ⟨#[0xb1]⟩ 1 none, .arrayClass .int, .fieldLink RX9 7 "PocketKeeperModel" "page" "[I", .fieldLink RX9 13 "PocketKeeperModel" "needsOf" "[I", .fieldLink RX9 16 "PocketKeeperModel" "jobAt" "[I", .fieldLink RX9 19 "PocketKeeperModel" "breaksAt" "[I", .fieldLink RX9 22 "PocketKeeperModel" "pocketsNow" "I", .fieldLink RX9 26 "PocketKeeperModel" "newNeeds" "[I", .fieldLink RX9 29 "PocketKeeperModel" "aheadAt" "[I", .fieldLink RX9 32 "PocketKeeperModel" "thereAt" "[I", .fieldLink RX9 35 "PocketKeeperModel" "leastFrom" "[I", .fieldLink RX9 38 "PocketKeeperModel" "sizes" "[I"] ++ wsX90)
noncomputable def wsX9_within : List Cond := .code yX9_within cX9_within 3 (some .boolean) :: ([])
noncomputable def wsX9_has : List Cond := .code yX9_has cX9_has 2 (some .boolean) :: ([])
noncomputable def wsX9_ones : List Cond := .code yX9_ones cX9_ones 3 (some .int) :: ([])
noncomputable def wsX9_sizeOf : List Cond := .code yX9_sizeOf cX9_sizeOf 2 (some .int) :: ([.fieldLink RX9 45 "PocketKeeperModel" "bigs" "I", .methodLink RX9 41 yX9_ones, .static yX9_ones, .initialized RX9, .code yX9_ones cX9_ones 3 (some .int)] ++ wsX90)
noncomputable def wsX9_letter : List Cond := .code yX9_letter cX9_letter 2 (some .int) :: ([.fieldLink RX9 52 "PocketKeeperModel" "pageLength" "I", .fieldLink RX9 7 "PocketKeeperModel" "page" "[I", .methodLink RX9 48 yX9_within, .static yX9_within, .initialized RX9, .code yX9_within cX9_within 3 (some .boolean)] ++ wsX90)
noncomputable def wsX9_blank : List Cond := .code yX9_blank cX9_blank 2 (some .int) :: ([.fieldLink RX9 52 "PocketKeeperModel" "pageLength" "I"] ++ wsX90)
noncomputable def wsX9_takes : List Cond := .code yX9_takes cX9_takes 3 (some .boolean) :: ([.fieldLink RX9 55 "PocketKeeperModel" "newNow" "I", .fieldLink RX9 58 "PocketKeeperModel" "newJobs" "I", .fieldLink RX9 26 "PocketKeeperModel" "newNeeds" "[I", .methodLink RX9 48 yX9_within, .static yX9_within, .initialized RX9, .code yX9_within cX9_within 3 (some .boolean)] ++ wsX90)
noncomputable def wsX9_goAlong : List Cond := .code yX9_goAlong cX9_goAlong 2 (some .int) :: ([.fieldLink RX9 58 "PocketKeeperModel" "newJobs" "I", .fieldLink RX9 55 "PocketKeeperModel" "newNow" "I", .fieldLink RX9 52 "PocketKeeperModel" "pageLength" "I", .fieldLink RX9 7 "PocketKeeperModel" "page" "[I", .methodLink RX9 61 yX9_takes, .instanceMethod yX9_takes, .selects RX9 yX9_takes yX9_takes, .initialized RX9, .code yX9_takes cX9_takes 3 (some .boolean), .fieldLink RX9 26 "PocketKeeperModel" "newNeeds" "[I", .methodLink RX9 48 yX9_within, .static yX9_within, .code yX9_within cX9_within 3 (some .boolean)] ++ wsX90)
noncomputable def wsX9_fault : List Cond := .code yX9_fault cX9_fault 1 (some .int) :: ([.methodLink RX9 65 yX9_goAlong, .instanceMethod yX9_goAlong, .selects RX9 yX9_goAlong yX9_goAlong, .initialized RX9, .code yX9_goAlong cX9_goAlong 2 (some .int), .fieldLink RX9 58 "PocketKeeperModel" "newJobs" "I", .fieldLink RX9 55 "PocketKeeperModel" "newNow" "I", .fieldLink RX9 52 "PocketKeeperModel" "pageLength" "I", .fieldLink RX9 7 "PocketKeeperModel" "page" "[I", .methodLink RX9 61 yX9_takes, .instanceMethod yX9_takes, .selects RX9 yX9_takes yX9_takes, .code yX9_takes cX9_takes 3 (some .boolean), .fieldLink RX9 26 "PocketKeeperModel" "newNeeds" "[I", .methodLink RX9 48 yX9_within, .static yX9_within, .code yX9_within cX9_within 3 (some .boolean)] ++ wsX90)
noncomputable def wsX9_jobs : List Cond := .code yX9_jobs cX9_jobs 2 (some .int) :: ([.fieldLink RX9 52 "PocketKeeperModel" "pageLength" "I", .fieldLink RX9 55 "PocketKeeperModel" "newNow" "I", .fieldLink RX9 26 "PocketKeeperModel" "newNeeds" "[I", .fieldLink RX9 58 "PocketKeeperModel" "newJobs" "I", .fieldLink RX9 69 "PocketKeeperModel" "jobs" "I", .fieldLink RX9 13 "PocketKeeperModel" "needsOf" "[I", .fieldLink RX9 16 "PocketKeeperModel" "jobAt" "[I", .fieldLink RX9 19 "PocketKeeperModel" "breaksAt" "[I", .fieldLink RX9 72 "PocketKeeperModel" "changes" "I", .fieldLink RX9 75 "PocketKeeperModel" "isLaid" "Z", .fieldLink RX9 79 "PocketKeeperModel" "jobsRead" "I", .methodLink RX9 65 yX9_goAlong, .instanceMethod yX9_goAlong, .selects RX9 yX9_goAlong yX9_goAlong, .initialized RX9, .code yX9_goAlong cX9_goAlong 2 (some .int), .fieldLink RX9 7 "PocketKeeperModel" "page" "[I", .methodLink RX9 61 yX9_takes, .instanceMethod yX9_takes, .selects RX9 yX9_takes yX9_takes, .code yX9_takes cX9_takes 3 (some .boolean), .methodLink RX9 48 yX9_within, .static yX9_within, .code yX9_within cX9_within 3 (some .boolean)] ++ wsX90)
noncomputable def wsX9_isTool : List Cond := .code yX9_isTool cX9_isTool 1 (some .boolean) :: ([.methodLink RX9 48 yX9_within, .static yX9_within, .initialized RX9, .code yX9_within cX9_within 3 (some .boolean)])
noncomputable def wsX9_isPlace : List Cond := .code yX9_isPlace cX9_isPlace 2 (some .boolean) :: ([.fieldLink RX9 69 "PocketKeeperModel" "jobs" "I", .methodLink RX9 48 yX9_within, .static yX9_within, .initialized RX9, .code yX9_within cX9_within 3 (some .boolean)] ++ wsX90)
noncomputable def wsX9_big : List Cond := .code yX9_big cX9_big 4 (some .int) :: ([.fieldLink RX9 45 "PocketKeeperModel" "bigs" "I", .fieldLink RX9 75 "PocketKeeperModel" "isLaid" "Z", .methodLink RX9 82 yX9_isTool, .static yX9_isTool, .initialized RX9, .code yX9_isTool cX9_isTool 1 (some .boolean), .methodLink RX9 48 yX9_within, .static yX9_within, .code yX9_within cX9_within 3 (some .boolean)] ++ wsX90)
noncomputable def wsX9_pockets : List Cond := .code yX9_pockets cX9_pockets 3 (some .int) :: ([.fieldLink RX9 22 "PocketKeeperModel" "pocketsNow" "I", .fieldLink RX9 75 "PocketKeeperModel" "isLaid" "Z", .methodLink RX9 48 yX9_within, .static yX9_within, .initialized RX9, .code yX9_within cX9_within 3 (some .boolean)] ++ wsX90)
noncomputable def wsX9_breaks : List Cond := .code yX9_breaks cX9_breaks 5 (some .int) :: ([.fieldLink RX9 19 "PocketKeeperModel" "breaksAt" "[I", .fieldLink RX9 75 "PocketKeeperModel" "isLaid" "Z", .methodLink RX9 85 yX9_isPlace, .instanceMethod yX9_isPlace, .selects RX9 yX9_isPlace yX9_isPlace, .initialized RX9, .code yX9_isPlace cX9_isPlace 2 (some .boolean), .fieldLink RX9 69 "PocketKeeperModel" "jobs" "I", .methodLink RX9 48 yX9_within, .static yX9_within, .code yX9_within cX9_within 3 (some .boolean), .methodLink RX9 82 yX9_isTool, .static yX9_isTool, .code yX9_isTool cX9_isTool 1 (some .boolean)] ++ wsX90)
noncomputable def wsX9_change : List Cond := .code yX9_change cX9_change 4 none :: ([.fieldLink RX9 16 "PocketKeeperModel" "jobAt" "[I"] ++ wsX90)
noncomputable def wsX9_swap : List Cond := .code yX9_swap cX9_swap 3 (some .int) :: ([.fieldLink RX9 72 "PocketKeeperModel" "changes" "I", .fieldLink RX9 75 "PocketKeeperModel" "isLaid" "Z", .methodLink RX9 85 yX9_isPlace, .instanceMethod yX9_isPlace, .selects RX9 yX9_isPlace yX9_isPlace, .initialized RX9, .code yX9_isPlace cX9_isPlace 2 (some .boolean), .fieldLink RX9 69 "PocketKeeperModel" "jobs" "I", .methodLink RX9 48 yX9_within, .static yX9_within, .code yX9_within cX9_within 3 (some .boolean), .methodLink RX9 88 yX9_change, .instanceMethod yX9_change, .selects RX9 yX9_change yX9_change, .code yX9_change cX9_change 4 none, .fieldLink RX9 16 "PocketKeeperModel" "jobAt" "[I"] ++ wsX90)
noncomputable def wsX9_as : List Cond := .code yX9_as cX9_as 3 (some .int) :: ([.fieldLink RX9 45 "PocketKeeperModel" "bigs" "I", .methodLink RX9 82 yX9_isTool, .static yX9_isTool, .initialized RX9, .code yX9_isTool cX9_isTool 1 (some .boolean), .methodLink RX9 48 yX9_within, .static yX9_within, .code yX9_within cX9_within 3 (some .boolean), .methodLink RX9 92 yX9_has, .static yX9_has, .code yX9_has cX9_has 2 (some .boolean)] ++ wsX90)
noncomputable def wsX9_needs : List Cond := .code yX9_needs cX9_needs 2 (some .int) :: ([.fieldLink RX9 13 "PocketKeeperModel" "needsOf" "[I", .fieldLink RX9 16 "PocketKeeperModel" "jobAt" "[I"] ++ wsX90)
noncomputable def wsX9_jobNow : List Cond := .code yX9_jobNow cX9_jobNow 3 (some .int) :: ([.fieldLink RX9 16 "PocketKeeperModel" "jobAt" "[I", .fieldLink RX9 19 "PocketKeeperModel" "breaksAt" "[I", .methodLink RX9 96 yX9_needs, .instanceMethod yX9_needs, .selects RX9 yX9_needs yX9_needs, .initialized RX9, .code yX9_needs cX9_needs 2 (some .int), .fieldLink RX9 13 "PocketKeeperModel" "needsOf" "[I"] ++ wsX90)
noncomputable def wsX9_job : List Cond := .code yX9_job cX9_job 3 (some .int) :: ([.methodLink RX9 85 yX9_isPlace, .instanceMethod yX9_isPlace, .selects RX9 yX9_isPlace yX9_isPlace, .initialized RX9, .code yX9_isPlace cX9_isPlace 2 (some .boolean), .fieldLink RX9 69 "PocketKeeperModel" "jobs" "I", .methodLink RX9 48 yX9_within, .static yX9_within, .code yX9_within cX9_within 3 (some .boolean), .methodLink RX9 99 yX9_jobNow, .instanceMethod yX9_jobNow, .selects RX9 yX9_jobNow yX9_jobNow, .code yX9_jobNow cX9_jobNow 3 (some .int), .fieldLink RX9 16 "PocketKeeperModel" "jobAt" "[I", .fieldLink RX9 19 "PocketKeeperModel" "breaksAt" "[I", .methodLink RX9 96 yX9_needs, .instanceMethod yX9_needs, .selects RX9 yX9_needs yX9_needs, .code yX9_needs cX9_needs 2 (some .int), .fieldLink RX9 13 "PocketKeeperModel" "needsOf" "[I"] ++ wsX90)
noncomputable def wsX9_nextOf : List Cond := .code yX9_nextOf cX9_nextOf 4 (some .int) :: ([.fieldLink RX9 69 "PocketKeeperModel" "jobs" "I", .fieldLink RX9 19 "PocketKeeperModel" "breaksAt" "[I", .methodLink RX9 92 yX9_has, .static yX9_has, .initialized RX9, .code yX9_has cX9_has 2 (some .boolean), .methodLink RX9 96 yX9_needs, .instanceMethod yX9_needs, .selects RX9 yX9_needs yX9_needs, .code yX9_needs cX9_needs 2 (some .int), .fieldLink RX9 13 "PocketKeeperModel" "needsOf" "[I", .fieldLink RX9 16 "PocketKeeperModel" "jobAt" "[I"] ++ wsX90)
noncomputable def wsX9_next_r1 : List Cond := [Cond.methodLink RX9 85 yX9_isPlace, Cond.instanceMethod yX9_isPlace, Cond.selects RX9 yX9_isPlace yX9_isPlace, Cond.initialized RX9, Cond.code yX9_isPlace cX9_isPlace 2 (some .boolean), Cond.fieldLink RX9 69 "PocketKeeperModel" "jobs" "I", Cond.methodLink RX9 48 yX9_within, Cond.static yX9_within, Cond.code yX9_within cX9_within 3 (some .boolean), Cond.methodLink RX9 82 yX9_isTool, Cond.static yX9_isTool, Cond.code yX9_isTool cX9_isTool 1 (some .boolean), Cond.methodLink RX9 103 yX9_nextOf, Cond.instanceMethod yX9_nextOf, Cond.selects RX9 yX9_nextOf yX9_nextOf, Cond.code yX9_nextOf cX9_nextOf 4 (some .int), Cond.fieldLink RX9 19 "PocketKeeperModel" "breaksAt" "[I", Cond.methodLink RX9 92 yX9_has, Cond.static yX9_has, Cond.code yX9_has cX9_has 2 (some .boolean), Cond.methodLink RX9 96 yX9_needs, Cond.instanceMethod yX9_needs, Cond.selects RX9 yX9_needs yX9_needs, Cond.code yX9_needs cX9_needs 2 (some .int)]
noncomputable def wsX9_next_r2 : List Cond := [Cond.fieldLink RX9 13 "PocketKeeperModel" "needsOf" "[I", Cond.fieldLink RX9 16 "PocketKeeperModel" "jobAt" "[I"]
noncomputable def wsX9_next : List Cond := .code yX9_next cX9_next 3 (some .int) :: ((wsX9_next_r1 ++ wsX9_next_r2) ++ wsX90)
noncomputable def wsX9_isTooBig : List Cond := .code yX9_isTooBig cX9_isTooBig 3 (some .boolean) :: ([.fieldLink RX9 69 "PocketKeeperModel" "jobs" "I", .fieldLink RX9 22 "PocketKeeperModel" "pocketsNow" "I", .methodLink RX9 96 yX9_needs, .instanceMethod yX9_needs, .selects RX9 yX9_needs yX9_needs, .initialized RX9, .code yX9_needs cX9_needs 2 (some .int), .fieldLink RX9 13 "PocketKeeperModel" "needsOf" "[I", .fieldLink RX9 16 "PocketKeeperModel" "jobAt" "[I", .methodLink RX9 106 yX9_sizeOf, .instanceMethod yX9_sizeOf, .selects RX9 yX9_sizeOf yX9_sizeOf, .code yX9_sizeOf cX9_sizeOf 2 (some .int), .fieldLink RX9 45 "PocketKeeperModel" "bigs" "I", .methodLink RX9 41 yX9_ones, .static yX9_ones, .code yX9_ones cX9_ones 3 (some .int)] ++ wsX90)
noncomputable def wsX9_late : List Cond := .code yX9_late cX9_late 4 (some .int) :: ([.methodLink RX9 103 yX9_nextOf, .instanceMethod yX9_nextOf, .selects RX9 yX9_nextOf yX9_nextOf, .initialized RX9, .code yX9_nextOf cX9_nextOf 4 (some .int), .fieldLink RX9 69 "PocketKeeperModel" "jobs" "I", .fieldLink RX9 19 "PocketKeeperModel" "breaksAt" "[I", .methodLink RX9 92 yX9_has, .static yX9_has, .code yX9_has cX9_has 2 (some .boolean), .methodLink RX9 96 yX9_needs, .instanceMethod yX9_needs, .selects RX9 yX9_needs yX9_needs, .code yX9_needs cX9_needs 2 (some .int), .fieldLink RX9 13 "PocketKeeperModel" "needsOf" "[I", .fieldLink RX9 16 "PocketKeeperModel" "jobAt" "[I"] ++ wsX90)
noncomputable def wsX9_goesFirst : List Cond := .code yX9_goesFirst cX9_goesFirst 7 (some .int) :: ([.fieldLink RX9 45 "PocketKeeperModel" "bigs" "I", .methodLink RX9 92 yX9_has, .static yX9_has, .initialized RX9, .code yX9_has cX9_has 2 (some .boolean), .methodLink RX9 109 yX9_late, .instanceMethod yX9_late, .selects RX9 yX9_late yX9_late, .code yX9_late cX9_late 4 (some .int), .methodLink RX9 103 yX9_nextOf, .instanceMethod yX9_nextOf, .selects RX9 yX9_nextOf yX9_nextOf, .code yX9_nextOf cX9_nextOf 4 (some .int), .fieldLink RX9 69 "PocketKeeperModel" "jobs" "I", .fieldLink RX9 19 "PocketKeeperModel" "breaksAt" "[I", .methodLink RX9 96 yX9_needs, .instanceMethod yX9_needs, .selects RX9 yX9_needs yX9_needs, .code yX9_needs cX9_needs 2 (some .int), .fieldLink RX9 13 "PocketKeeperModel" "needsOf" "[I", .fieldLink RX9 16 "PocketKeeperModel" "jobAt" "[I"] ++ wsX90)
noncomputable def wsX9_laySoonest_r1 : List Cond := [Cond.fieldLink RX9 69 "PocketKeeperModel" "jobs" "I", Cond.fieldLink RX9 29 "PocketKeeperModel" "aheadAt" "[I", Cond.fieldLink RX9 38 "PocketKeeperModel" "sizes" "[I", Cond.fieldLink RX9 22 "PocketKeeperModel" "pocketsNow" "I", Cond.fieldLink RX9 32 "PocketKeeperModel" "thereAt" "[I", Cond.fieldLink RX9 19 "PocketKeeperModel" "breaksAt" "[I", Cond.methodLink RX9 96 yX9_needs, Cond.instanceMethod yX9_needs, Cond.selects RX9 yX9_needs yX9_needs, Cond.initialized RX9, Cond.code yX9_needs cX9_needs 2 (some .int), Cond.fieldLink RX9 13 "PocketKeeperModel" "needsOf" "[I", Cond.fieldLink RX9 16 "PocketKeeperModel" "jobAt" "[I", Cond.methodLink RX9 112 yX9_goesFirst, Cond.instanceMethod yX9_goesFirst, Cond.selects RX9 yX9_goesFirst yX9_goesFirst, Cond.code yX9_goesFirst cX9_goesFirst 7 (some .int), Cond.fieldLink RX9 45 "PocketKeeperModel" "bigs" "I", Cond.methodLink RX9 92 yX9_has, Cond.static yX9_has, Cond.code yX9_has cX9_has 2 (some .boolean), Cond.methodLink RX9 109 yX9_late, Cond.instanceMethod yX9_late, Cond.selects RX9 yX9_late yX9_late]
noncomputable def wsX9_laySoonest_r2 : List Cond := [Cond.code yX9_late cX9_late 4 (some .int), Cond.methodLink RX9 103 yX9_nextOf, Cond.instanceMethod yX9_nextOf, Cond.selects RX9 yX9_nextOf yX9_nextOf, Cond.code yX9_nextOf cX9_nextOf 4 (some .int)]
noncomputable def wsX9_laySoonest : List Cond := .code yX9_laySoonest cX9_laySoonest 3 none :: ((wsX9_laySoonest_r1 ++ wsX9_laySoonest_r2) ++ wsX90)
noncomputable def wsX9_costBy : List Cond := .code yX9_costBy cX9_costBy 4 (some .int) :: ([.fieldLink RX9 38 "PocketKeeperModel" "sizes" "[I", .fieldLink RX9 35 "PocketKeeperModel" "leastFrom" "[I", .fieldLink RX9 19 "PocketKeeperModel" "breaksAt" "[I", .methodLink RX9 96 yX9_needs, .instanceMethod yX9_needs, .selects RX9 yX9_needs yX9_needs, .initialized RX9, .code yX9_needs cX9_needs 2 (some .int), .fieldLink RX9 13 "PocketKeeperModel" "needsOf" "[I", .fieldLink RX9 16 "PocketKeeperModel" "jobAt" "[I"] ++ wsX90)
noncomputable def wsX9_leastOf : List Cond := .code yX9_leastOf cX9_leastOf 9 (some .int) :: ([.constant RX9 115 (1048576), .fieldLink RX9 38 "PocketKeeperModel" "sizes" "[I", .fieldLink RX9 22 "PocketKeeperModel" "pocketsNow" "I", .methodLink RX9 96 yX9_needs, .instanceMethod yX9_needs, .selects RX9 yX9_needs yX9_needs, .initialized RX9, .code yX9_needs cX9_needs 2 (some .int), .fieldLink RX9 13 "PocketKeeperModel" "needsOf" "[I", .fieldLink RX9 16 "PocketKeeperModel" "jobAt" "[I", .methodLink RX9 116 yX9_costBy, .instanceMethod yX9_costBy, .selects RX9 yX9_costBy yX9_costBy, .code yX9_costBy cX9_costBy 4 (some .int), .fieldLink RX9 35 "PocketKeeperModel" "leastFrom" "[I", .fieldLink RX9 19 "PocketKeeperModel" "breaksAt" "[I"] ++ wsX90)
noncomputable def wsX9_layLeast : List Cond := .code yX9_layLeast cX9_layLeast 3 (some .int) :: ([.fieldLink RX9 35 "PocketKeeperModel" "leastFrom" "[I", .fieldLink RX9 69 "PocketKeeperModel" "jobs" "I", .fieldLink RX9 38 "PocketKeeperModel" "sizes" "[I", .fieldLink RX9 22 "PocketKeeperModel" "pocketsNow" "I", .constant RX9 115 (1048576), .methodLink RX9 120 yX9_leastOf, .instanceMethod yX9_leastOf, .selects RX9 yX9_leastOf yX9_leastOf, .initialized RX9, .code yX9_leastOf cX9_leastOf 9 (some .int), .methodLink RX9 96 yX9_needs, .instanceMethod yX9_needs, .selects RX9 yX9_needs yX9_needs, .code yX9_needs cX9_needs 2 (some .int), .fieldLink RX9 13 "PocketKeeperModel" "needsOf" "[I", .fieldLink RX9 16 "PocketKeeperModel" "jobAt" "[I", .methodLink RX9 116 yX9_costBy, .instanceMethod yX9_costBy, .selects RX9 yX9_costBy yX9_costBy, .code yX9_costBy cX9_costBy 4 (some .int), .fieldLink RX9 19 "PocketKeeperModel" "breaksAt" "[I"] ++ wsX90)
noncomputable def wsX9_layPlan : List Cond := .code yX9_layPlan cX9_layPlan 8 none :: ([.fieldLink RX9 69 "PocketKeeperModel" "jobs" "I", .fieldLink RX9 29 "PocketKeeperModel" "aheadAt" "[I", .fieldLink RX9 38 "PocketKeeperModel" "sizes" "[I", .fieldLink RX9 22 "PocketKeeperModel" "pocketsNow" "I", .fieldLink RX9 35 "PocketKeeperModel" "leastFrom" "[I", .fieldLink RX9 32 "PocketKeeperModel" "thereAt" "[I", .fieldLink RX9 19 "PocketKeeperModel" "breaksAt" "[I", .methodLink RX9 96 yX9_needs, .instanceMethod yX9_needs, .selects RX9 yX9_needs yX9_needs, .initialized RX9, .code yX9_needs cX9_needs 2 (some .int), .fieldLink RX9 13 "PocketKeeperModel" "needsOf" "[I", .fieldLink RX9 16 "PocketKeeperModel" "jobAt" "[I", .methodLink RX9 116 yX9_costBy, .instanceMethod yX9_costBy, .selects RX9 yX9_costBy yX9_costBy, .code yX9_costBy cX9_costBy 4 (some .int)] ++ wsX90)
noncomputable def wsX9_layBetter_r1 : List Cond := [Cond.fieldLink RX9 188 "PocketKeeperModel" "betterOne" "I", Cond.fieldLink RX9 191 "PocketKeeperModel" "betterOther" "I", Cond.fieldLink RX9 194 "PocketKeeperModel" "betterLeast" "I", Cond.fieldLink RX9 69 "PocketKeeperModel" "jobs" "I", Cond.methodLink RX9 129 yX9_layLeast, Cond.instanceMethod yX9_layLeast, Cond.selects RX9 yX9_layLeast yX9_layLeast, Cond.initialized RX9, Cond.code yX9_layLeast cX9_layLeast 3 (some .int), Cond.fieldLink RX9 35 "PocketKeeperModel" "leastFrom" "[I", Cond.fieldLink RX9 38 "PocketKeeperModel" "sizes" "[I", Cond.fieldLink RX9 22 "PocketKeeperModel" "pocketsNow" "I", Cond.constant RX9 115 (1048576), Cond.methodLink RX9 120 yX9_leastOf, Cond.instanceMethod yX9_leastOf, Cond.selects RX9 yX9_leastOf yX9_leastOf, Cond.code yX9_leastOf cX9_leastOf 9 (some .int), Cond.methodLink RX9 96 yX9_needs, Cond.instanceMethod yX9_needs, Cond.selects RX9 yX9_needs yX9_needs, Cond.code yX9_needs cX9_needs 2 (some .int), Cond.fieldLink RX9 13 "PocketKeeperModel" "needsOf" "[I", Cond.fieldLink RX9 16 "PocketKeeperModel" "jobAt" "[I", Cond.methodLink RX9 116 yX9_costBy]
noncomputable def wsX9_layBetter_r2 : List Cond := [Cond.instanceMethod yX9_costBy, Cond.selects RX9 yX9_costBy yX9_costBy, Cond.code yX9_costBy cX9_costBy 4 (some .int), Cond.fieldLink RX9 19 "PocketKeeperModel" "breaksAt" "[I", Cond.methodLink RX9 88 yX9_change, Cond.instanceMethod yX9_change, Cond.selects RX9 yX9_change yX9_change, Cond.code yX9_change cX9_change 4 none]
noncomputable def wsX9_layBetter : List Cond := .code yX9_layBetter cX9_layBetter 5 none :: ((wsX9_layBetter_r1 ++ wsX9_layBetter_r2) ++ wsX90)
noncomputable def wsX9_layAll_r1 : List Cond := [Cond.fieldLink RX9 75 "PocketKeeperModel" "isLaid" "Z", Cond.fieldLink RX9 38 "PocketKeeperModel" "sizes" "[I", Cond.fieldLink RX9 132 "PocketKeeperModel" "leastAll" "I", Cond.methodLink RX9 106 yX9_sizeOf, Cond.instanceMethod yX9_sizeOf, Cond.selects RX9 yX9_sizeOf yX9_sizeOf, Cond.initialized RX9, Cond.code yX9_sizeOf cX9_sizeOf 2 (some .int), Cond.fieldLink RX9 45 "PocketKeeperModel" "bigs" "I", Cond.methodLink RX9 41 yX9_ones, Cond.static yX9_ones, Cond.code yX9_ones cX9_ones 3 (some .int), Cond.methodLink RX9 123 yX9_laySoonest, Cond.instanceMethod yX9_laySoonest, Cond.selects RX9 yX9_laySoonest yX9_laySoonest, Cond.code yX9_laySoonest cX9_laySoonest 3 none, Cond.fieldLink RX9 69 "PocketKeeperModel" "jobs" "I", Cond.fieldLink RX9 29 "PocketKeeperModel" "aheadAt" "[I", Cond.fieldLink RX9 22 "PocketKeeperModel" "pocketsNow" "I", Cond.fieldLink RX9 32 "PocketKeeperModel" "thereAt" "[I", Cond.fieldLink RX9 19 "PocketKeeperModel" "breaksAt" "[I", Cond.methodLink RX9 96 yX9_needs, Cond.instanceMethod yX9_needs, Cond.selects RX9 yX9_needs yX9_needs]
noncomputable def wsX9_layAll_r2 : List Cond := [Cond.code yX9_needs cX9_needs 2 (some .int), Cond.fieldLink RX9 13 "PocketKeeperModel" "needsOf" "[I", Cond.fieldLink RX9 16 "PocketKeeperModel" "jobAt" "[I", Cond.methodLink RX9 112 yX9_goesFirst, Cond.instanceMethod yX9_goesFirst, Cond.selects RX9 yX9_goesFirst yX9_goesFirst, Cond.code yX9_goesFirst cX9_goesFirst 7 (some .int), Cond.methodLink RX9 92 yX9_has, Cond.static yX9_has, Cond.code yX9_has cX9_has 2 (some .boolean), Cond.methodLink RX9 109 yX9_late, Cond.instanceMethod yX9_late, Cond.selects RX9 yX9_late yX9_late, Cond.code yX9_late cX9_late 4 (some .int), Cond.methodLink RX9 103 yX9_nextOf, Cond.instanceMethod yX9_nextOf, Cond.selects RX9 yX9_nextOf yX9_nextOf, Cond.code yX9_nextOf cX9_nextOf 4 (some .int), Cond.methodLink RX9 126 yX9_layBetter, Cond.instanceMethod yX9_layBetter, Cond.selects RX9 yX9_layBetter yX9_layBetter, Cond.code yX9_layBetter cX9_layBetter 5 none, Cond.fieldLink RX9 188 "PocketKeeperModel" "betterOne" "I", Cond.fieldLink RX9 191 "PocketKeeperModel" "betterOther" "I"]
noncomputable def wsX9_layAll_r3 : List Cond := [Cond.fieldLink RX9 194 "PocketKeeperModel" "betterLeast" "I", Cond.methodLink RX9 129 yX9_layLeast, Cond.instanceMethod yX9_layLeast, Cond.selects RX9 yX9_layLeast yX9_layLeast, Cond.code yX9_layLeast cX9_layLeast 3 (some .int), Cond.fieldLink RX9 35 "PocketKeeperModel" "leastFrom" "[I", Cond.constant RX9 115 (1048576), Cond.methodLink RX9 120 yX9_leastOf, Cond.instanceMethod yX9_leastOf, Cond.selects RX9 yX9_leastOf yX9_leastOf, Cond.code yX9_leastOf cX9_leastOf 9 (some .int), Cond.methodLink RX9 116 yX9_costBy, Cond.instanceMethod yX9_costBy, Cond.selects RX9 yX9_costBy yX9_costBy, Cond.code yX9_costBy cX9_costBy 4 (some .int), Cond.methodLink RX9 88 yX9_change, Cond.instanceMethod yX9_change, Cond.selects RX9 yX9_change yX9_change, Cond.code yX9_change cX9_change 4 none, Cond.methodLink RX9 135 yX9_layPlan, Cond.instanceMethod yX9_layPlan, Cond.selects RX9 yX9_layPlan yX9_layPlan, Cond.code yX9_layPlan cX9_layPlan 8 none]
noncomputable def wsX9_layAll : List Cond := .code yX9_layAll cX9_layAll 2 none :: ((wsX9_layAll_r1 ++ (wsX9_layAll_r2 ++ wsX9_layAll_r3)) ++ wsX90)
noncomputable def wsX9_keptNow_r1 : List Cond := [Cond.fieldLink RX9 32 "PocketKeeperModel" "thereAt" "[I", Cond.fieldLink RX9 29 "PocketKeeperModel" "aheadAt" "[I", Cond.methodLink RX9 138 yX9_layAll, Cond.instanceMethod yX9_layAll, Cond.selects RX9 yX9_layAll yX9_layAll, Cond.initialized RX9, Cond.code yX9_layAll cX9_layAll 2 none, Cond.fieldLink RX9 75 "PocketKeeperModel" "isLaid" "Z", Cond.fieldLink RX9 38 "PocketKeeperModel" "sizes" "[I", Cond.fieldLink RX9 132 "PocketKeeperModel" "leastAll" "I", Cond.methodLink RX9 106 yX9_sizeOf, Cond.instanceMethod yX9_sizeOf, Cond.selects RX9 yX9_sizeOf yX9_sizeOf, Cond.code yX9_sizeOf cX9_sizeOf 2 (some .int), Cond.fieldLink RX9 45 "PocketKeeperModel" "bigs" "I", Cond.methodLink RX9 41 yX9_ones, Cond.static yX9_ones, Cond.code yX9_ones cX9_ones 3 (some .int), Cond.methodLink RX9 123 yX9_laySoonest, Cond.instanceMethod yX9_laySoonest, Cond.selects RX9 yX9_laySoonest yX9_laySoonest, Cond.code yX9_laySoonest cX9_laySoonest 3 none, Cond.fieldLink RX9 69 "PocketKeeperModel" "jobs" "I", Cond.fieldLink RX9 22 "PocketKeeperModel" "pocketsNow" "I"]
noncomputable def wsX9_keptNow_r2 : List Cond := [Cond.fieldLink RX9 19 "PocketKeeperModel" "breaksAt" "[I", Cond.methodLink RX9 96 yX9_needs, Cond.instanceMethod yX9_needs, Cond.selects RX9 yX9_needs yX9_needs, Cond.code yX9_needs cX9_needs 2 (some .int), Cond.fieldLink RX9 13 "PocketKeeperModel" "needsOf" "[I", Cond.fieldLink RX9 16 "PocketKeeperModel" "jobAt" "[I", Cond.methodLink RX9 112 yX9_goesFirst, Cond.instanceMethod yX9_goesFirst, Cond.selects RX9 yX9_goesFirst yX9_goesFirst, Cond.code yX9_goesFirst cX9_goesFirst 7 (some .int), Cond.methodLink RX9 92 yX9_has, Cond.static yX9_has, Cond.code yX9_has cX9_has 2 (some .boolean), Cond.methodLink RX9 109 yX9_late, Cond.instanceMethod yX9_late, Cond.selects RX9 yX9_late yX9_late, Cond.code yX9_late cX9_late 4 (some .int), Cond.methodLink RX9 103 yX9_nextOf, Cond.instanceMethod yX9_nextOf, Cond.selects RX9 yX9_nextOf yX9_nextOf, Cond.code yX9_nextOf cX9_nextOf 4 (some .int), Cond.methodLink RX9 126 yX9_layBetter, Cond.instanceMethod yX9_layBetter]
noncomputable def wsX9_keptNow_r3 : List Cond := [Cond.selects RX9 yX9_layBetter yX9_layBetter, Cond.code yX9_layBetter cX9_layBetter 5 none, Cond.fieldLink RX9 188 "PocketKeeperModel" "betterOne" "I", Cond.fieldLink RX9 191 "PocketKeeperModel" "betterOther" "I", Cond.fieldLink RX9 194 "PocketKeeperModel" "betterLeast" "I", Cond.methodLink RX9 129 yX9_layLeast, Cond.instanceMethod yX9_layLeast, Cond.selects RX9 yX9_layLeast yX9_layLeast, Cond.code yX9_layLeast cX9_layLeast 3 (some .int), Cond.fieldLink RX9 35 "PocketKeeperModel" "leastFrom" "[I", Cond.constant RX9 115 (1048576), Cond.methodLink RX9 120 yX9_leastOf, Cond.instanceMethod yX9_leastOf, Cond.selects RX9 yX9_leastOf yX9_leastOf, Cond.code yX9_leastOf cX9_leastOf 9 (some .int), Cond.methodLink RX9 116 yX9_costBy, Cond.instanceMethod yX9_costBy, Cond.selects RX9 yX9_costBy yX9_costBy, Cond.code yX9_costBy cX9_costBy 4 (some .int), Cond.methodLink RX9 88 yX9_change, Cond.instanceMethod yX9_change, Cond.selects RX9 yX9_change yX9_change, Cond.code yX9_change cX9_change 4 none, Cond.methodLink RX9 135 yX9_layPlan]
noncomputable def wsX9_keptNow_r4 : List Cond := [Cond.instanceMethod yX9_layPlan, Cond.selects RX9 yX9_layPlan yX9_layPlan, Cond.code yX9_layPlan cX9_layPlan 8 none]
noncomputable def wsX9_keptNow : List Cond := .code yX9_keptNow cX9_keptNow 4 (some .int) :: ((wsX9_keptNow_r1 ++ (wsX9_keptNow_r2 ++ (wsX9_keptNow_r3 ++ wsX9_keptNow_r4))) ++ wsX90)
noncomputable def wsX9_refused_r1 : List Cond := [Cond.methodLink RX9 85 yX9_isPlace, Cond.instanceMethod yX9_isPlace, Cond.selects RX9 yX9_isPlace yX9_isPlace, Cond.initialized RX9, Cond.code yX9_isPlace cX9_isPlace 2 (some .boolean), Cond.fieldLink RX9 69 "PocketKeeperModel" "jobs" "I", Cond.methodLink RX9 48 yX9_within, Cond.static yX9_within, Cond.code yX9_within cX9_within 3 (some .boolean), Cond.methodLink RX9 141 yX9_isTooBig, Cond.instanceMethod yX9_isTooBig, Cond.selects RX9 yX9_isTooBig yX9_isTooBig, Cond.code yX9_isTooBig cX9_isTooBig 3 (some .boolean), Cond.fieldLink RX9 22 "PocketKeeperModel" "pocketsNow" "I", Cond.methodLink RX9 96 yX9_needs, Cond.instanceMethod yX9_needs, Cond.selects RX9 yX9_needs yX9_needs, Cond.code yX9_needs cX9_needs 2 (some .int), Cond.fieldLink RX9 13 "PocketKeeperModel" "needsOf" "[I", Cond.fieldLink RX9 16 "PocketKeeperModel" "jobAt" "[I", Cond.methodLink RX9 106 yX9_sizeOf, Cond.instanceMethod yX9_sizeOf, Cond.selects RX9 yX9_sizeOf yX9_sizeOf, Cond.code yX9_sizeOf cX9_sizeOf 2 (some .int)]
noncomputable def wsX9_refused_r2 : List Cond := [Cond.fieldLink RX9 45 "PocketKeeperModel" "bigs" "I", Cond.methodLink RX9 41 yX9_ones, Cond.static yX9_ones, Cond.code yX9_ones cX9_ones 3 (some .int)]
noncomputable def wsX9_refused : List Cond := .code yX9_refused cX9_refused 3 (some .int) :: ((wsX9_refused_r1 ++ wsX9_refused_r2) ++ wsX90)
noncomputable def wsX9_soonest_r1 : List Cond := [Cond.methodLink RX9 145 yX9_refused, Cond.instanceMethod yX9_refused, Cond.selects RX9 yX9_refused yX9_refused, Cond.initialized RX9, Cond.code yX9_refused cX9_refused 3 (some .int), Cond.methodLink RX9 85 yX9_isPlace, Cond.instanceMethod yX9_isPlace, Cond.selects RX9 yX9_isPlace yX9_isPlace, Cond.code yX9_isPlace cX9_isPlace 2 (some .boolean), Cond.fieldLink RX9 69 "PocketKeeperModel" "jobs" "I", Cond.methodLink RX9 48 yX9_within, Cond.static yX9_within, Cond.code yX9_within cX9_within 3 (some .boolean), Cond.methodLink RX9 141 yX9_isTooBig, Cond.instanceMethod yX9_isTooBig, Cond.selects RX9 yX9_isTooBig yX9_isTooBig, Cond.code yX9_isTooBig cX9_isTooBig 3 (some .boolean), Cond.fieldLink RX9 22 "PocketKeeperModel" "pocketsNow" "I", Cond.methodLink RX9 96 yX9_needs, Cond.instanceMethod yX9_needs, Cond.selects RX9 yX9_needs yX9_needs, Cond.code yX9_needs cX9_needs 2 (some .int), Cond.fieldLink RX9 13 "PocketKeeperModel" "needsOf" "[I", Cond.fieldLink RX9 16 "PocketKeeperModel" "jobAt" "[I"]
noncomputable def wsX9_soonest_r2 : List Cond := [Cond.methodLink RX9 106 yX9_sizeOf, Cond.instanceMethod yX9_sizeOf, Cond.selects RX9 yX9_sizeOf yX9_sizeOf, Cond.code yX9_sizeOf cX9_sizeOf 2 (some .int), Cond.fieldLink RX9 45 "PocketKeeperModel" "bigs" "I", Cond.methodLink RX9 41 yX9_ones, Cond.static yX9_ones, Cond.code yX9_ones cX9_ones 3 (some .int), Cond.methodLink RX9 148 yX9_keptNow, Cond.instanceMethod yX9_keptNow, Cond.selects RX9 yX9_keptNow yX9_keptNow, Cond.code yX9_keptNow cX9_keptNow 4 (some .int), Cond.fieldLink RX9 32 "PocketKeeperModel" "thereAt" "[I", Cond.fieldLink RX9 29 "PocketKeeperModel" "aheadAt" "[I", Cond.methodLink RX9 138 yX9_layAll, Cond.instanceMethod yX9_layAll, Cond.selects RX9 yX9_layAll yX9_layAll, Cond.code yX9_layAll cX9_layAll 2 none, Cond.fieldLink RX9 75 "PocketKeeperModel" "isLaid" "Z", Cond.fieldLink RX9 38 "PocketKeeperModel" "sizes" "[I", Cond.fieldLink RX9 132 "PocketKeeperModel" "leastAll" "I", Cond.methodLink RX9 123 yX9_laySoonest, Cond.instanceMethod yX9_laySoonest, Cond.selects RX9 yX9_laySoonest yX9_laySoonest]
noncomputable def wsX9_soonest_r3 : List Cond := [Cond.code yX9_laySoonest cX9_laySoonest 3 none, Cond.fieldLink RX9 19 "PocketKeeperModel" "breaksAt" "[I", Cond.methodLink RX9 112 yX9_goesFirst, Cond.instanceMethod yX9_goesFirst, Cond.selects RX9 yX9_goesFirst yX9_goesFirst, Cond.code yX9_goesFirst cX9_goesFirst 7 (some .int), Cond.methodLink RX9 92 yX9_has, Cond.static yX9_has, Cond.code yX9_has cX9_has 2 (some .boolean), Cond.methodLink RX9 109 yX9_late, Cond.instanceMethod yX9_late, Cond.selects RX9 yX9_late yX9_late, Cond.code yX9_late cX9_late 4 (some .int), Cond.methodLink RX9 103 yX9_nextOf, Cond.instanceMethod yX9_nextOf, Cond.selects RX9 yX9_nextOf yX9_nextOf, Cond.code yX9_nextOf cX9_nextOf 4 (some .int), Cond.methodLink RX9 126 yX9_layBetter, Cond.instanceMethod yX9_layBetter, Cond.selects RX9 yX9_layBetter yX9_layBetter, Cond.code yX9_layBetter cX9_layBetter 5 none, Cond.fieldLink RX9 188 "PocketKeeperModel" "betterOne" "I", Cond.fieldLink RX9 191 "PocketKeeperModel" "betterOther" "I", Cond.fieldLink RX9 194 "PocketKeeperModel" "betterLeast" "I"]
noncomputable def wsX9_soonest_r4 : List Cond := [Cond.methodLink RX9 129 yX9_layLeast, Cond.instanceMethod yX9_layLeast, Cond.selects RX9 yX9_layLeast yX9_layLeast, Cond.code yX9_layLeast cX9_layLeast 3 (some .int), Cond.fieldLink RX9 35 "PocketKeeperModel" "leastFrom" "[I", Cond.constant RX9 115 (1048576), Cond.methodLink RX9 120 yX9_leastOf, Cond.instanceMethod yX9_leastOf, Cond.selects RX9 yX9_leastOf yX9_leastOf, Cond.code yX9_leastOf cX9_leastOf 9 (some .int), Cond.methodLink RX9 116 yX9_costBy, Cond.instanceMethod yX9_costBy, Cond.selects RX9 yX9_costBy yX9_costBy, Cond.code yX9_costBy cX9_costBy 4 (some .int), Cond.methodLink RX9 88 yX9_change, Cond.instanceMethod yX9_change, Cond.selects RX9 yX9_change yX9_change, Cond.code yX9_change cX9_change 4 none, Cond.methodLink RX9 135 yX9_layPlan, Cond.instanceMethod yX9_layPlan, Cond.selects RX9 yX9_layPlan yX9_layPlan, Cond.code yX9_layPlan cX9_layPlan 8 none]
noncomputable def wsX9_soonest : List Cond := .code yX9_soonest cX9_soonest 4 (some .int) :: ((wsX9_soonest_r1 ++ (wsX9_soonest_r2 ++ (wsX9_soonest_r3 ++ wsX9_soonest_r4))) ++ wsX90)
noncomputable def wsX9_plan_r1 : List Cond := [Cond.methodLink RX9 145 yX9_refused, Cond.instanceMethod yX9_refused, Cond.selects RX9 yX9_refused yX9_refused, Cond.initialized RX9, Cond.code yX9_refused cX9_refused 3 (some .int), Cond.methodLink RX9 85 yX9_isPlace, Cond.instanceMethod yX9_isPlace, Cond.selects RX9 yX9_isPlace yX9_isPlace, Cond.code yX9_isPlace cX9_isPlace 2 (some .boolean), Cond.fieldLink RX9 69 "PocketKeeperModel" "jobs" "I", Cond.methodLink RX9 48 yX9_within, Cond.static yX9_within, Cond.code yX9_within cX9_within 3 (some .boolean), Cond.methodLink RX9 141 yX9_isTooBig, Cond.instanceMethod yX9_isTooBig, Cond.selects RX9 yX9_isTooBig yX9_isTooBig, Cond.code yX9_isTooBig cX9_isTooBig 3 (some .boolean), Cond.fieldLink RX9 22 "PocketKeeperModel" "pocketsNow" "I", Cond.methodLink RX9 96 yX9_needs, Cond.instanceMethod yX9_needs, Cond.selects RX9 yX9_needs yX9_needs, Cond.code yX9_needs cX9_needs 2 (some .int), Cond.fieldLink RX9 13 "PocketKeeperModel" "needsOf" "[I", Cond.fieldLink RX9 16 "PocketKeeperModel" "jobAt" "[I"]
noncomputable def wsX9_plan_r2 : List Cond := [Cond.methodLink RX9 106 yX9_sizeOf, Cond.instanceMethod yX9_sizeOf, Cond.selects RX9 yX9_sizeOf yX9_sizeOf, Cond.code yX9_sizeOf cX9_sizeOf 2 (some .int), Cond.fieldLink RX9 45 "PocketKeeperModel" "bigs" "I", Cond.methodLink RX9 41 yX9_ones, Cond.static yX9_ones, Cond.code yX9_ones cX9_ones 3 (some .int), Cond.methodLink RX9 148 yX9_keptNow, Cond.instanceMethod yX9_keptNow, Cond.selects RX9 yX9_keptNow yX9_keptNow, Cond.code yX9_keptNow cX9_keptNow 4 (some .int), Cond.fieldLink RX9 32 "PocketKeeperModel" "thereAt" "[I", Cond.fieldLink RX9 29 "PocketKeeperModel" "aheadAt" "[I", Cond.methodLink RX9 138 yX9_layAll, Cond.instanceMethod yX9_layAll, Cond.selects RX9 yX9_layAll yX9_layAll, Cond.code yX9_layAll cX9_layAll 2 none, Cond.fieldLink RX9 75 "PocketKeeperModel" "isLaid" "Z", Cond.fieldLink RX9 38 "PocketKeeperModel" "sizes" "[I", Cond.fieldLink RX9 132 "PocketKeeperModel" "leastAll" "I", Cond.methodLink RX9 123 yX9_laySoonest, Cond.instanceMethod yX9_laySoonest, Cond.selects RX9 yX9_laySoonest yX9_laySoonest]
noncomputable def wsX9_plan_r3 : List Cond := [Cond.code yX9_laySoonest cX9_laySoonest 3 none, Cond.fieldLink RX9 19 "PocketKeeperModel" "breaksAt" "[I", Cond.methodLink RX9 112 yX9_goesFirst, Cond.instanceMethod yX9_goesFirst, Cond.selects RX9 yX9_goesFirst yX9_goesFirst, Cond.code yX9_goesFirst cX9_goesFirst 7 (some .int), Cond.methodLink RX9 92 yX9_has, Cond.static yX9_has, Cond.code yX9_has cX9_has 2 (some .boolean), Cond.methodLink RX9 109 yX9_late, Cond.instanceMethod yX9_late, Cond.selects RX9 yX9_late yX9_late, Cond.code yX9_late cX9_late 4 (some .int), Cond.methodLink RX9 103 yX9_nextOf, Cond.instanceMethod yX9_nextOf, Cond.selects RX9 yX9_nextOf yX9_nextOf, Cond.code yX9_nextOf cX9_nextOf 4 (some .int), Cond.methodLink RX9 126 yX9_layBetter, Cond.instanceMethod yX9_layBetter, Cond.selects RX9 yX9_layBetter yX9_layBetter, Cond.code yX9_layBetter cX9_layBetter 5 none, Cond.fieldLink RX9 188 "PocketKeeperModel" "betterOne" "I", Cond.fieldLink RX9 191 "PocketKeeperModel" "betterOther" "I", Cond.fieldLink RX9 194 "PocketKeeperModel" "betterLeast" "I"]
noncomputable def wsX9_plan_r4 : List Cond := [Cond.methodLink RX9 129 yX9_layLeast, Cond.instanceMethod yX9_layLeast, Cond.selects RX9 yX9_layLeast yX9_layLeast, Cond.code yX9_layLeast cX9_layLeast 3 (some .int), Cond.fieldLink RX9 35 "PocketKeeperModel" "leastFrom" "[I", Cond.constant RX9 115 (1048576), Cond.methodLink RX9 120 yX9_leastOf, Cond.instanceMethod yX9_leastOf, Cond.selects RX9 yX9_leastOf yX9_leastOf, Cond.code yX9_leastOf cX9_leastOf 9 (some .int), Cond.methodLink RX9 116 yX9_costBy, Cond.instanceMethod yX9_costBy, Cond.selects RX9 yX9_costBy yX9_costBy, Cond.code yX9_costBy cX9_costBy 4 (some .int), Cond.methodLink RX9 88 yX9_change, Cond.instanceMethod yX9_change, Cond.selects RX9 yX9_change yX9_change, Cond.code yX9_change cX9_change 4 none, Cond.methodLink RX9 135 yX9_layPlan, Cond.instanceMethod yX9_layPlan, Cond.selects RX9 yX9_layPlan yX9_layPlan, Cond.code yX9_layPlan cX9_layPlan 8 none]
noncomputable def wsX9_plan : List Cond := .code yX9_plan cX9_plan 4 (some .int) :: ((wsX9_plan_r1 ++ (wsX9_plan_r2 ++ (wsX9_plan_r3 ++ wsX9_plan_r4))) ++ wsX90)
noncomputable def wsX9_keptAll_r1 : List Cond := [Cond.fieldLink RX9 69 "PocketKeeperModel" "jobs" "I", Cond.methodLink RX9 148 yX9_keptNow, Cond.instanceMethod yX9_keptNow, Cond.selects RX9 yX9_keptNow yX9_keptNow, Cond.initialized RX9, Cond.code yX9_keptNow cX9_keptNow 4 (some .int), Cond.fieldLink RX9 32 "PocketKeeperModel" "thereAt" "[I", Cond.fieldLink RX9 29 "PocketKeeperModel" "aheadAt" "[I", Cond.methodLink RX9 138 yX9_layAll, Cond.instanceMethod yX9_layAll, Cond.selects RX9 yX9_layAll yX9_layAll, Cond.code yX9_layAll cX9_layAll 2 none, Cond.fieldLink RX9 75 "PocketKeeperModel" "isLaid" "Z", Cond.fieldLink RX9 38 "PocketKeeperModel" "sizes" "[I", Cond.fieldLink RX9 132 "PocketKeeperModel" "leastAll" "I", Cond.methodLink RX9 106 yX9_sizeOf, Cond.instanceMethod yX9_sizeOf, Cond.selects RX9 yX9_sizeOf yX9_sizeOf, Cond.code yX9_sizeOf cX9_sizeOf 2 (some .int), Cond.fieldLink RX9 45 "PocketKeeperModel" "bigs" "I", Cond.methodLink RX9 41 yX9_ones, Cond.static yX9_ones, Cond.code yX9_ones cX9_ones 3 (some .int), Cond.methodLink RX9 123 yX9_laySoonest]
noncomputable def wsX9_keptAll_r2 : List Cond := [Cond.instanceMethod yX9_laySoonest, Cond.selects RX9 yX9_laySoonest yX9_laySoonest, Cond.code yX9_laySoonest cX9_laySoonest 3 none, Cond.fieldLink RX9 22 "PocketKeeperModel" "pocketsNow" "I", Cond.fieldLink RX9 19 "PocketKeeperModel" "breaksAt" "[I", Cond.methodLink RX9 96 yX9_needs, Cond.instanceMethod yX9_needs, Cond.selects RX9 yX9_needs yX9_needs, Cond.code yX9_needs cX9_needs 2 (some .int), Cond.fieldLink RX9 13 "PocketKeeperModel" "needsOf" "[I", Cond.fieldLink RX9 16 "PocketKeeperModel" "jobAt" "[I", Cond.methodLink RX9 112 yX9_goesFirst, Cond.instanceMethod yX9_goesFirst, Cond.selects RX9 yX9_goesFirst yX9_goesFirst, Cond.code yX9_goesFirst cX9_goesFirst 7 (some .int), Cond.methodLink RX9 92 yX9_has, Cond.static yX9_has, Cond.code yX9_has cX9_has 2 (some .boolean), Cond.methodLink RX9 109 yX9_late, Cond.instanceMethod yX9_late, Cond.selects RX9 yX9_late yX9_late, Cond.code yX9_late cX9_late 4 (some .int), Cond.methodLink RX9 103 yX9_nextOf, Cond.instanceMethod yX9_nextOf]
noncomputable def wsX9_keptAll_r3 : List Cond := [Cond.selects RX9 yX9_nextOf yX9_nextOf, Cond.code yX9_nextOf cX9_nextOf 4 (some .int), Cond.methodLink RX9 126 yX9_layBetter, Cond.instanceMethod yX9_layBetter, Cond.selects RX9 yX9_layBetter yX9_layBetter, Cond.code yX9_layBetter cX9_layBetter 5 none, Cond.fieldLink RX9 188 "PocketKeeperModel" "betterOne" "I", Cond.fieldLink RX9 191 "PocketKeeperModel" "betterOther" "I", Cond.fieldLink RX9 194 "PocketKeeperModel" "betterLeast" "I", Cond.methodLink RX9 129 yX9_layLeast, Cond.instanceMethod yX9_layLeast, Cond.selects RX9 yX9_layLeast yX9_layLeast, Cond.code yX9_layLeast cX9_layLeast 3 (some .int), Cond.fieldLink RX9 35 "PocketKeeperModel" "leastFrom" "[I", Cond.constant RX9 115 (1048576), Cond.methodLink RX9 120 yX9_leastOf, Cond.instanceMethod yX9_leastOf, Cond.selects RX9 yX9_leastOf yX9_leastOf, Cond.code yX9_leastOf cX9_leastOf 9 (some .int), Cond.methodLink RX9 116 yX9_costBy, Cond.instanceMethod yX9_costBy, Cond.selects RX9 yX9_costBy yX9_costBy, Cond.code yX9_costBy cX9_costBy 4 (some .int), Cond.methodLink RX9 88 yX9_change]
noncomputable def wsX9_keptAll_r4 : List Cond := [Cond.instanceMethod yX9_change, Cond.selects RX9 yX9_change yX9_change, Cond.code yX9_change cX9_change 4 none, Cond.methodLink RX9 135 yX9_layPlan, Cond.instanceMethod yX9_layPlan, Cond.selects RX9 yX9_layPlan yX9_layPlan, Cond.code yX9_layPlan cX9_layPlan 8 none]
noncomputable def wsX9_keptAll : List Cond := .code yX9_keptAll cX9_keptAll 6 (some .int) :: ((wsX9_keptAll_r1 ++ (wsX9_keptAll_r2 ++ (wsX9_keptAll_r3 ++ wsX9_keptAll_r4))) ++ wsX90)
noncomputable def wsX9_leastNow_r1 : List Cond := [Cond.fieldLink RX9 132 "PocketKeeperModel" "leastAll" "I", Cond.methodLink RX9 138 yX9_layAll, Cond.instanceMethod yX9_layAll, Cond.selects RX9 yX9_layAll yX9_layAll, Cond.initialized RX9, Cond.code yX9_layAll cX9_layAll 2 none, Cond.fieldLink RX9 75 "PocketKeeperModel" "isLaid" "Z", Cond.fieldLink RX9 38 "PocketKeeperModel" "sizes" "[I", Cond.methodLink RX9 106 yX9_sizeOf, Cond.instanceMethod yX9_sizeOf, Cond.selects RX9 yX9_sizeOf yX9_sizeOf, Cond.code yX9_sizeOf cX9_sizeOf 2 (some .int), Cond.fieldLink RX9 45 "PocketKeeperModel" "bigs" "I", Cond.methodLink RX9 41 yX9_ones, Cond.static yX9_ones, Cond.code yX9_ones cX9_ones 3 (some .int), Cond.methodLink RX9 123 yX9_laySoonest, Cond.instanceMethod yX9_laySoonest, Cond.selects RX9 yX9_laySoonest yX9_laySoonest, Cond.code yX9_laySoonest cX9_laySoonest 3 none, Cond.fieldLink RX9 69 "PocketKeeperModel" "jobs" "I", Cond.fieldLink RX9 29 "PocketKeeperModel" "aheadAt" "[I", Cond.fieldLink RX9 22 "PocketKeeperModel" "pocketsNow" "I", Cond.fieldLink RX9 32 "PocketKeeperModel" "thereAt" "[I"]
noncomputable def wsX9_leastNow_r2 : List Cond := [Cond.fieldLink RX9 19 "PocketKeeperModel" "breaksAt" "[I", Cond.methodLink RX9 96 yX9_needs, Cond.instanceMethod yX9_needs, Cond.selects RX9 yX9_needs yX9_needs, Cond.code yX9_needs cX9_needs 2 (some .int), Cond.fieldLink RX9 13 "PocketKeeperModel" "needsOf" "[I", Cond.fieldLink RX9 16 "PocketKeeperModel" "jobAt" "[I", Cond.methodLink RX9 112 yX9_goesFirst, Cond.instanceMethod yX9_goesFirst, Cond.selects RX9 yX9_goesFirst yX9_goesFirst, Cond.code yX9_goesFirst cX9_goesFirst 7 (some .int), Cond.methodLink RX9 92 yX9_has, Cond.static yX9_has, Cond.code yX9_has cX9_has 2 (some .boolean), Cond.methodLink RX9 109 yX9_late, Cond.instanceMethod yX9_late, Cond.selects RX9 yX9_late yX9_late, Cond.code yX9_late cX9_late 4 (some .int), Cond.methodLink RX9 103 yX9_nextOf, Cond.instanceMethod yX9_nextOf, Cond.selects RX9 yX9_nextOf yX9_nextOf, Cond.code yX9_nextOf cX9_nextOf 4 (some .int), Cond.methodLink RX9 126 yX9_layBetter, Cond.instanceMethod yX9_layBetter]
noncomputable def wsX9_leastNow_r3 : List Cond := [Cond.selects RX9 yX9_layBetter yX9_layBetter, Cond.code yX9_layBetter cX9_layBetter 5 none, Cond.fieldLink RX9 188 "PocketKeeperModel" "betterOne" "I", Cond.fieldLink RX9 191 "PocketKeeperModel" "betterOther" "I", Cond.fieldLink RX9 194 "PocketKeeperModel" "betterLeast" "I", Cond.methodLink RX9 129 yX9_layLeast, Cond.instanceMethod yX9_layLeast, Cond.selects RX9 yX9_layLeast yX9_layLeast, Cond.code yX9_layLeast cX9_layLeast 3 (some .int), Cond.fieldLink RX9 35 "PocketKeeperModel" "leastFrom" "[I", Cond.constant RX9 115 (1048576), Cond.methodLink RX9 120 yX9_leastOf, Cond.instanceMethod yX9_leastOf, Cond.selects RX9 yX9_leastOf yX9_leastOf, Cond.code yX9_leastOf cX9_leastOf 9 (some .int), Cond.methodLink RX9 116 yX9_costBy, Cond.instanceMethod yX9_costBy, Cond.selects RX9 yX9_costBy yX9_costBy, Cond.code yX9_costBy cX9_costBy 4 (some .int), Cond.methodLink RX9 88 yX9_change, Cond.instanceMethod yX9_change, Cond.selects RX9 yX9_change yX9_change, Cond.code yX9_change cX9_change 4 none, Cond.methodLink RX9 135 yX9_layPlan]
noncomputable def wsX9_leastNow_r4 : List Cond := [Cond.instanceMethod yX9_layPlan, Cond.selects RX9 yX9_layPlan yX9_layPlan, Cond.code yX9_layPlan cX9_layPlan 8 none]
noncomputable def wsX9_leastNow : List Cond := .code yX9_leastNow cX9_leastNow 1 (some .int) :: ((wsX9_leastNow_r1 ++ (wsX9_leastNow_r2 ++ (wsX9_leastNow_r3 ++ wsX9_leastNow_r4))) ++ wsX90)
noncomputable def wsX9_boundNow : List Cond := .code yX9_boundNow cX9_boundNow 3 (some .int) :: ([.fieldLink RX9 69 "PocketKeeperModel" "jobs" "I", .methodLink RX9 96 yX9_needs, .instanceMethod yX9_needs, .selects RX9 yX9_needs yX9_needs, .initialized RX9, .code yX9_needs cX9_needs 2 (some .int), .fieldLink RX9 13 "PocketKeeperModel" "needsOf" "[I", .fieldLink RX9 16 "PocketKeeperModel" "jobAt" "[I", .methodLink RX9 106 yX9_sizeOf, .instanceMethod yX9_sizeOf, .selects RX9 yX9_sizeOf yX9_sizeOf, .code yX9_sizeOf cX9_sizeOf 2 (some .int), .fieldLink RX9 45 "PocketKeeperModel" "bigs" "I", .methodLink RX9 41 yX9_ones, .static yX9_ones, .code yX9_ones cX9_ones 3 (some .int)] ++ wsX90)
noncomputable def wsX9_isReady : List Cond := .code yX9_isReady cX9_isReady 1 (some .boolean) :: ([.fieldLink RX9 69 "PocketKeeperModel" "jobs" "I", .methodLink RX9 141 yX9_isTooBig, .instanceMethod yX9_isTooBig, .selects RX9 yX9_isTooBig yX9_isTooBig, .initialized RX9, .code yX9_isTooBig cX9_isTooBig 3 (some .boolean), .fieldLink RX9 22 "PocketKeeperModel" "pocketsNow" "I", .methodLink RX9 96 yX9_needs, .instanceMethod yX9_needs, .selects RX9 yX9_needs yX9_needs, .code yX9_needs cX9_needs 2 (some .int), .fieldLink RX9 13 "PocketKeeperModel" "needsOf" "[I", .fieldLink RX9 16 "PocketKeeperModel" "jobAt" "[I", .methodLink RX9 106 yX9_sizeOf, .instanceMethod yX9_sizeOf, .selects RX9 yX9_sizeOf yX9_sizeOf, .code yX9_sizeOf cX9_sizeOf 2 (some .int), .fieldLink RX9 45 "PocketKeeperModel" "bigs" "I", .methodLink RX9 41 yX9_ones, .static yX9_ones, .code yX9_ones cX9_ones 3 (some .int)] ++ wsX90)
noncomputable def wsX9_costNow_r1 : List Cond := [Cond.methodLink RX9 151 yX9_keptAll, Cond.instanceMethod yX9_keptAll, Cond.selects RX9 yX9_keptAll yX9_keptAll, Cond.initialized RX9, Cond.code yX9_keptAll cX9_keptAll 6 (some .int), Cond.fieldLink RX9 69 "PocketKeeperModel" "jobs" "I", Cond.methodLink RX9 148 yX9_keptNow, Cond.instanceMethod yX9_keptNow, Cond.selects RX9 yX9_keptNow yX9_keptNow, Cond.code yX9_keptNow cX9_keptNow 4 (some .int), Cond.fieldLink RX9 32 "PocketKeeperModel" "thereAt" "[I", Cond.fieldLink RX9 29 "PocketKeeperModel" "aheadAt" "[I", Cond.methodLink RX9 138 yX9_layAll, Cond.instanceMethod yX9_layAll, Cond.selects RX9 yX9_layAll yX9_layAll, Cond.code yX9_layAll cX9_layAll 2 none, Cond.fieldLink RX9 75 "PocketKeeperModel" "isLaid" "Z", Cond.fieldLink RX9 38 "PocketKeeperModel" "sizes" "[I", Cond.fieldLink RX9 132 "PocketKeeperModel" "leastAll" "I", Cond.methodLink RX9 106 yX9_sizeOf, Cond.instanceMethod yX9_sizeOf, Cond.selects RX9 yX9_sizeOf yX9_sizeOf, Cond.code yX9_sizeOf cX9_sizeOf 2 (some .int), Cond.fieldLink RX9 45 "PocketKeeperModel" "bigs" "I"]
noncomputable def wsX9_costNow_r2 : List Cond := [Cond.methodLink RX9 41 yX9_ones, Cond.static yX9_ones, Cond.code yX9_ones cX9_ones 3 (some .int), Cond.methodLink RX9 123 yX9_laySoonest, Cond.instanceMethod yX9_laySoonest, Cond.selects RX9 yX9_laySoonest yX9_laySoonest, Cond.code yX9_laySoonest cX9_laySoonest 3 none, Cond.fieldLink RX9 22 "PocketKeeperModel" "pocketsNow" "I", Cond.fieldLink RX9 19 "PocketKeeperModel" "breaksAt" "[I", Cond.methodLink RX9 96 yX9_needs, Cond.instanceMethod yX9_needs, Cond.selects RX9 yX9_needs yX9_needs, Cond.code yX9_needs cX9_needs 2 (some .int), Cond.fieldLink RX9 13 "PocketKeeperModel" "needsOf" "[I", Cond.fieldLink RX9 16 "PocketKeeperModel" "jobAt" "[I", Cond.methodLink RX9 112 yX9_goesFirst, Cond.instanceMethod yX9_goesFirst, Cond.selects RX9 yX9_goesFirst yX9_goesFirst, Cond.code yX9_goesFirst cX9_goesFirst 7 (some .int), Cond.methodLink RX9 92 yX9_has, Cond.static yX9_has, Cond.code yX9_has cX9_has 2 (some .boolean), Cond.methodLink RX9 109 yX9_late, Cond.instanceMethod yX9_late]
noncomputable def wsX9_costNow_r3 : List Cond := [Cond.selects RX9 yX9_late yX9_late, Cond.code yX9_late cX9_late 4 (some .int), Cond.methodLink RX9 103 yX9_nextOf, Cond.instanceMethod yX9_nextOf, Cond.selects RX9 yX9_nextOf yX9_nextOf, Cond.code yX9_nextOf cX9_nextOf 4 (some .int), Cond.methodLink RX9 126 yX9_layBetter, Cond.instanceMethod yX9_layBetter, Cond.selects RX9 yX9_layBetter yX9_layBetter, Cond.code yX9_layBetter cX9_layBetter 5 none, Cond.fieldLink RX9 188 "PocketKeeperModel" "betterOne" "I", Cond.fieldLink RX9 191 "PocketKeeperModel" "betterOther" "I", Cond.fieldLink RX9 194 "PocketKeeperModel" "betterLeast" "I", Cond.methodLink RX9 129 yX9_layLeast, Cond.instanceMethod yX9_layLeast, Cond.selects RX9 yX9_layLeast yX9_layLeast, Cond.code yX9_layLeast cX9_layLeast 3 (some .int), Cond.fieldLink RX9 35 "PocketKeeperModel" "leastFrom" "[I", Cond.constant RX9 115 (1048576), Cond.methodLink RX9 120 yX9_leastOf, Cond.instanceMethod yX9_leastOf, Cond.selects RX9 yX9_leastOf yX9_leastOf, Cond.code yX9_leastOf cX9_leastOf 9 (some .int), Cond.methodLink RX9 116 yX9_costBy]
noncomputable def wsX9_costNow_r4 : List Cond := [Cond.instanceMethod yX9_costBy, Cond.selects RX9 yX9_costBy yX9_costBy, Cond.code yX9_costBy cX9_costBy 4 (some .int), Cond.methodLink RX9 88 yX9_change, Cond.instanceMethod yX9_change, Cond.selects RX9 yX9_change yX9_change, Cond.code yX9_change cX9_change 4 none, Cond.methodLink RX9 135 yX9_layPlan, Cond.instanceMethod yX9_layPlan, Cond.selects RX9 yX9_layPlan yX9_layPlan, Cond.code yX9_layPlan cX9_layPlan 8 none, Cond.methodLink RX9 155 yX9_leastNow, Cond.instanceMethod yX9_leastNow, Cond.selects RX9 yX9_leastNow yX9_leastNow, Cond.code yX9_leastNow cX9_leastNow 1 (some .int), Cond.methodLink RX9 158 yX9_boundNow, Cond.instanceMethod yX9_boundNow, Cond.selects RX9 yX9_boundNow yX9_boundNow, Cond.code yX9_boundNow cX9_boundNow 3 (some .int)]
noncomputable def wsX9_costNow : List Cond := .code yX9_costNow cX9_costNow 2 (some .int) :: ((wsX9_costNow_r1 ++ (wsX9_costNow_r2 ++ (wsX9_costNow_r3 ++ wsX9_costNow_r4))) ++ wsX90)
noncomputable def wsX9_cost_r1 : List Cond := [Cond.methodLink RX9 48 yX9_within, Cond.static yX9_within, Cond.initialized RX9, Cond.code yX9_within cX9_within 3 (some .boolean), Cond.methodLink RX9 161 yX9_isReady, Cond.instanceMethod yX9_isReady, Cond.selects RX9 yX9_isReady yX9_isReady, Cond.code yX9_isReady cX9_isReady 1 (some .boolean), Cond.fieldLink RX9 69 "PocketKeeperModel" "jobs" "I", Cond.methodLink RX9 141 yX9_isTooBig, Cond.instanceMethod yX9_isTooBig, Cond.selects RX9 yX9_isTooBig yX9_isTooBig, Cond.code yX9_isTooBig cX9_isTooBig 3 (some .boolean), Cond.fieldLink RX9 22 "PocketKeeperModel" "pocketsNow" "I", Cond.methodLink RX9 96 yX9_needs, Cond.instanceMethod yX9_needs, Cond.selects RX9 yX9_needs yX9_needs, Cond.code yX9_needs cX9_needs 2 (some .int), Cond.fieldLink RX9 13 "PocketKeeperModel" "needsOf" "[I", Cond.fieldLink RX9 16 "PocketKeeperModel" "jobAt" "[I", Cond.methodLink RX9 106 yX9_sizeOf, Cond.instanceMethod yX9_sizeOf, Cond.selects RX9 yX9_sizeOf yX9_sizeOf, Cond.code yX9_sizeOf cX9_sizeOf 2 (some .int)]
noncomputable def wsX9_cost_r2 : List Cond := [Cond.fieldLink RX9 45 "PocketKeeperModel" "bigs" "I", Cond.methodLink RX9 41 yX9_ones, Cond.static yX9_ones, Cond.code yX9_ones cX9_ones 3 (some .int), Cond.methodLink RX9 164 yX9_costNow, Cond.instanceMethod yX9_costNow, Cond.selects RX9 yX9_costNow yX9_costNow, Cond.code yX9_costNow cX9_costNow 2 (some .int), Cond.methodLink RX9 151 yX9_keptAll, Cond.instanceMethod yX9_keptAll, Cond.selects RX9 yX9_keptAll yX9_keptAll, Cond.code yX9_keptAll cX9_keptAll 6 (some .int), Cond.methodLink RX9 148 yX9_keptNow, Cond.instanceMethod yX9_keptNow, Cond.selects RX9 yX9_keptNow yX9_keptNow, Cond.code yX9_keptNow cX9_keptNow 4 (some .int), Cond.fieldLink RX9 32 "PocketKeeperModel" "thereAt" "[I", Cond.fieldLink RX9 29 "PocketKeeperModel" "aheadAt" "[I", Cond.methodLink RX9 138 yX9_layAll, Cond.instanceMethod yX9_layAll, Cond.selects RX9 yX9_layAll yX9_layAll, Cond.code yX9_layAll cX9_layAll 2 none, Cond.fieldLink RX9 75 "PocketKeeperModel" "isLaid" "Z", Cond.fieldLink RX9 38 "PocketKeeperModel" "sizes" "[I"]
noncomputable def wsX9_cost_r3 : List Cond := [Cond.fieldLink RX9 132 "PocketKeeperModel" "leastAll" "I", Cond.methodLink RX9 123 yX9_laySoonest, Cond.instanceMethod yX9_laySoonest, Cond.selects RX9 yX9_laySoonest yX9_laySoonest, Cond.code yX9_laySoonest cX9_laySoonest 3 none, Cond.fieldLink RX9 19 "PocketKeeperModel" "breaksAt" "[I", Cond.methodLink RX9 112 yX9_goesFirst, Cond.instanceMethod yX9_goesFirst, Cond.selects RX9 yX9_goesFirst yX9_goesFirst, Cond.code yX9_goesFirst cX9_goesFirst 7 (some .int), Cond.methodLink RX9 92 yX9_has, Cond.static yX9_has, Cond.code yX9_has cX9_has 2 (some .boolean), Cond.methodLink RX9 109 yX9_late, Cond.instanceMethod yX9_late, Cond.selects RX9 yX9_late yX9_late, Cond.code yX9_late cX9_late 4 (some .int), Cond.methodLink RX9 103 yX9_nextOf, Cond.instanceMethod yX9_nextOf, Cond.selects RX9 yX9_nextOf yX9_nextOf, Cond.code yX9_nextOf cX9_nextOf 4 (some .int), Cond.methodLink RX9 126 yX9_layBetter, Cond.instanceMethod yX9_layBetter, Cond.selects RX9 yX9_layBetter yX9_layBetter]
noncomputable def wsX9_cost_r4 : List Cond := [Cond.code yX9_layBetter cX9_layBetter 5 none, Cond.fieldLink RX9 188 "PocketKeeperModel" "betterOne" "I", Cond.fieldLink RX9 191 "PocketKeeperModel" "betterOther" "I", Cond.fieldLink RX9 194 "PocketKeeperModel" "betterLeast" "I", Cond.methodLink RX9 129 yX9_layLeast, Cond.instanceMethod yX9_layLeast, Cond.selects RX9 yX9_layLeast yX9_layLeast, Cond.code yX9_layLeast cX9_layLeast 3 (some .int), Cond.fieldLink RX9 35 "PocketKeeperModel" "leastFrom" "[I", Cond.constant RX9 115 (1048576), Cond.methodLink RX9 120 yX9_leastOf, Cond.instanceMethod yX9_leastOf, Cond.selects RX9 yX9_leastOf yX9_leastOf, Cond.code yX9_leastOf cX9_leastOf 9 (some .int), Cond.methodLink RX9 116 yX9_costBy, Cond.instanceMethod yX9_costBy, Cond.selects RX9 yX9_costBy yX9_costBy, Cond.code yX9_costBy cX9_costBy 4 (some .int), Cond.methodLink RX9 88 yX9_change, Cond.instanceMethod yX9_change, Cond.selects RX9 yX9_change yX9_change, Cond.code yX9_change cX9_change 4 none, Cond.methodLink RX9 135 yX9_layPlan, Cond.instanceMethod yX9_layPlan]
noncomputable def wsX9_cost_r5 : List Cond := [Cond.selects RX9 yX9_layPlan yX9_layPlan, Cond.code yX9_layPlan cX9_layPlan 8 none, Cond.methodLink RX9 155 yX9_leastNow, Cond.instanceMethod yX9_leastNow, Cond.selects RX9 yX9_leastNow yX9_leastNow, Cond.code yX9_leastNow cX9_leastNow 1 (some .int), Cond.methodLink RX9 158 yX9_boundNow, Cond.instanceMethod yX9_boundNow, Cond.selects RX9 yX9_boundNow yX9_boundNow, Cond.code yX9_boundNow cX9_boundNow 3 (some .int)]
noncomputable def wsX9_cost : List Cond := .code yX9_cost cX9_cost 2 (some .int) :: ((wsX9_cost_r1 ++ (wsX9_cost_r2 ++ (wsX9_cost_r3 ++ (wsX9_cost_r4 ++ wsX9_cost_r5)))) ++ wsX90)
noncomputable def wsJxe99ae_isNaN_b9ae7 : List Cond := .code yJxe99ae_isNaN_b9ae7 cJxe99ae_isNaN_b9ae7 2 (some .boolean) :: ([])
noncomputable def wsJxe99ae_doubleToLongBits_ccdee : List Cond := .code yJxe99ae_doubleToLongBits_ccdee cJxe99ae_doubleToLongBits_ccdee 2 (some .long) :: ([.methodLink RJxe99ae 134 ⟨"java/lang/Double", "doubleToRawLongBits", "(D)J"⟩, .native ⟨"java/lang/Double", "doubleToRawLongBits", "(D)J"⟩, .static ⟨"java/lang/Double", "doubleToRawLongBits", "(D)J"⟩, .initialized "java/lang/Double", .constantLong RJxe99ae 137 (9221120237041090560), .methodLink RJxe99ae 122 yJxe99ae_isNaN_b9ae7, .static yJxe99ae_isNaN_b9ae7, .initialized RJxe99ae, .code yJxe99ae_isNaN_b9ae7 cJxe99ae_isNaN_b9ae7 2 (some .boolean)])
noncomputable def wsX9_meanNow_r1 : List Cond := [Cond.fieldLink RX9 69 "PocketKeeperModel" "jobs" "I", Cond.methodLink RX9 151 yX9_keptAll, Cond.instanceMethod yX9_keptAll, Cond.selects RX9 yX9_keptAll yX9_keptAll, Cond.initialized RX9, Cond.code yX9_keptAll cX9_keptAll 6 (some .int), Cond.methodLink RX9 148 yX9_keptNow, Cond.instanceMethod yX9_keptNow, Cond.selects RX9 yX9_keptNow yX9_keptNow, Cond.code yX9_keptNow cX9_keptNow 4 (some .int), Cond.fieldLink RX9 32 "PocketKeeperModel" "thereAt" "[I", Cond.fieldLink RX9 29 "PocketKeeperModel" "aheadAt" "[I", Cond.methodLink RX9 138 yX9_layAll, Cond.instanceMethod yX9_layAll, Cond.selects RX9 yX9_layAll yX9_layAll, Cond.code yX9_layAll cX9_layAll 2 none, Cond.fieldLink RX9 75 "PocketKeeperModel" "isLaid" "Z", Cond.fieldLink RX9 38 "PocketKeeperModel" "sizes" "[I", Cond.fieldLink RX9 132 "PocketKeeperModel" "leastAll" "I", Cond.methodLink RX9 106 yX9_sizeOf, Cond.instanceMethod yX9_sizeOf, Cond.selects RX9 yX9_sizeOf yX9_sizeOf, Cond.code yX9_sizeOf cX9_sizeOf 2 (some .int), Cond.fieldLink RX9 45 "PocketKeeperModel" "bigs" "I"]
noncomputable def wsX9_meanNow_r2 : List Cond := [Cond.methodLink RX9 41 yX9_ones, Cond.static yX9_ones, Cond.code yX9_ones cX9_ones 3 (some .int), Cond.methodLink RX9 123 yX9_laySoonest, Cond.instanceMethod yX9_laySoonest, Cond.selects RX9 yX9_laySoonest yX9_laySoonest, Cond.code yX9_laySoonest cX9_laySoonest 3 none, Cond.fieldLink RX9 22 "PocketKeeperModel" "pocketsNow" "I", Cond.fieldLink RX9 19 "PocketKeeperModel" "breaksAt" "[I", Cond.methodLink RX9 96 yX9_needs, Cond.instanceMethod yX9_needs, Cond.selects RX9 yX9_needs yX9_needs, Cond.code yX9_needs cX9_needs 2 (some .int), Cond.fieldLink RX9 13 "PocketKeeperModel" "needsOf" "[I", Cond.fieldLink RX9 16 "PocketKeeperModel" "jobAt" "[I", Cond.methodLink RX9 112 yX9_goesFirst, Cond.instanceMethod yX9_goesFirst, Cond.selects RX9 yX9_goesFirst yX9_goesFirst, Cond.code yX9_goesFirst cX9_goesFirst 7 (some .int), Cond.methodLink RX9 92 yX9_has, Cond.static yX9_has, Cond.code yX9_has cX9_has 2 (some .boolean), Cond.methodLink RX9 109 yX9_late, Cond.instanceMethod yX9_late]
noncomputable def wsX9_meanNow_r3 : List Cond := [Cond.selects RX9 yX9_late yX9_late, Cond.code yX9_late cX9_late 4 (some .int), Cond.methodLink RX9 103 yX9_nextOf, Cond.instanceMethod yX9_nextOf, Cond.selects RX9 yX9_nextOf yX9_nextOf, Cond.code yX9_nextOf cX9_nextOf 4 (some .int), Cond.methodLink RX9 126 yX9_layBetter, Cond.instanceMethod yX9_layBetter, Cond.selects RX9 yX9_layBetter yX9_layBetter, Cond.code yX9_layBetter cX9_layBetter 5 none, Cond.fieldLink RX9 188 "PocketKeeperModel" "betterOne" "I", Cond.fieldLink RX9 191 "PocketKeeperModel" "betterOther" "I", Cond.fieldLink RX9 194 "PocketKeeperModel" "betterLeast" "I", Cond.methodLink RX9 129 yX9_layLeast, Cond.instanceMethod yX9_layLeast, Cond.selects RX9 yX9_layLeast yX9_layLeast, Cond.code yX9_layLeast cX9_layLeast 3 (some .int), Cond.fieldLink RX9 35 "PocketKeeperModel" "leastFrom" "[I", Cond.constant RX9 115 (1048576), Cond.methodLink RX9 120 yX9_leastOf, Cond.instanceMethod yX9_leastOf, Cond.selects RX9 yX9_leastOf yX9_leastOf, Cond.code yX9_leastOf cX9_leastOf 9 (some .int), Cond.methodLink RX9 116 yX9_costBy]
noncomputable def wsX9_meanNow_r4 : List Cond := [Cond.instanceMethod yX9_costBy, Cond.selects RX9 yX9_costBy yX9_costBy, Cond.code yX9_costBy cX9_costBy 4 (some .int), Cond.methodLink RX9 88 yX9_change, Cond.instanceMethod yX9_change, Cond.selects RX9 yX9_change yX9_change, Cond.code yX9_change cX9_change 4 none, Cond.methodLink RX9 135 yX9_layPlan, Cond.instanceMethod yX9_layPlan, Cond.selects RX9 yX9_layPlan yX9_layPlan, Cond.code yX9_layPlan cX9_layPlan 8 none, Cond.methodLink RX9 167 yJxe99ae_doubleToLongBits_ccdee, Cond.static yJxe99ae_doubleToLongBits_ccdee, Cond.initialized RJxe99ae, Cond.code yJxe99ae_doubleToLongBits_ccdee cJxe99ae_doubleToLongBits_ccdee 2 (some .long), Cond.methodLink RJxe99ae 134 ⟨"java/lang/Double", "doubleToRawLongBits", "(D)J"⟩, Cond.native ⟨"java/lang/Double", "doubleToRawLongBits", "(D)J"⟩, Cond.static ⟨"java/lang/Double", "doubleToRawLongBits", "(D)J"⟩, Cond.initialized "java/lang/Double", Cond.constantLong RJxe99ae 137 (9221120237041090560), Cond.methodLink RJxe99ae 122 yJxe99ae_isNaN_b9ae7, Cond.static yJxe99ae_isNaN_b9ae7, Cond.code yJxe99ae_isNaN_b9ae7 cJxe99ae_isNaN_b9ae7 2 (some .boolean)]
noncomputable def wsX9_meanNow : List Cond := .code yX9_meanNow cX9_meanNow 1 (some .long) :: ((wsX9_meanNow_r1 ++ (wsX9_meanNow_r2 ++ (wsX9_meanNow_r3 ++ wsX9_meanNow_r4))) ++ wsX90)
noncomputable def wsX9_mean_r1 : List Cond := [Cond.constantLong RX9 177 (-1003), Cond.methodLink RX9 161 yX9_isReady, Cond.instanceMethod yX9_isReady, Cond.selects RX9 yX9_isReady yX9_isReady, Cond.initialized RX9, Cond.code yX9_isReady cX9_isReady 1 (some .boolean), Cond.fieldLink RX9 69 "PocketKeeperModel" "jobs" "I", Cond.methodLink RX9 141 yX9_isTooBig, Cond.instanceMethod yX9_isTooBig, Cond.selects RX9 yX9_isTooBig yX9_isTooBig, Cond.code yX9_isTooBig cX9_isTooBig 3 (some .boolean), Cond.fieldLink RX9 22 "PocketKeeperModel" "pocketsNow" "I", Cond.methodLink RX9 96 yX9_needs, Cond.instanceMethod yX9_needs, Cond.selects RX9 yX9_needs yX9_needs, Cond.code yX9_needs cX9_needs 2 (some .int), Cond.fieldLink RX9 13 "PocketKeeperModel" "needsOf" "[I", Cond.fieldLink RX9 16 "PocketKeeperModel" "jobAt" "[I", Cond.methodLink RX9 106 yX9_sizeOf, Cond.instanceMethod yX9_sizeOf, Cond.selects RX9 yX9_sizeOf yX9_sizeOf, Cond.code yX9_sizeOf cX9_sizeOf 2 (some .int), Cond.fieldLink RX9 45 "PocketKeeperModel" "bigs" "I", Cond.methodLink RX9 41 yX9_ones]
noncomputable def wsX9_mean_r2 : List Cond := [Cond.static yX9_ones, Cond.code yX9_ones cX9_ones 3 (some .int), Cond.methodLink RX9 173 yX9_meanNow, Cond.instanceMethod yX9_meanNow, Cond.selects RX9 yX9_meanNow yX9_meanNow, Cond.code yX9_meanNow cX9_meanNow 1 (some .long), Cond.methodLink RX9 151 yX9_keptAll, Cond.instanceMethod yX9_keptAll, Cond.selects RX9 yX9_keptAll yX9_keptAll, Cond.code yX9_keptAll cX9_keptAll 6 (some .int), Cond.methodLink RX9 148 yX9_keptNow, Cond.instanceMethod yX9_keptNow, Cond.selects RX9 yX9_keptNow yX9_keptNow, Cond.code yX9_keptNow cX9_keptNow 4 (some .int), Cond.fieldLink RX9 32 "PocketKeeperModel" "thereAt" "[I", Cond.fieldLink RX9 29 "PocketKeeperModel" "aheadAt" "[I", Cond.methodLink RX9 138 yX9_layAll, Cond.instanceMethod yX9_layAll, Cond.selects RX9 yX9_layAll yX9_layAll, Cond.code yX9_layAll cX9_layAll 2 none, Cond.fieldLink RX9 75 "PocketKeeperModel" "isLaid" "Z", Cond.fieldLink RX9 38 "PocketKeeperModel" "sizes" "[I", Cond.fieldLink RX9 132 "PocketKeeperModel" "leastAll" "I", Cond.methodLink RX9 123 yX9_laySoonest]
noncomputable def wsX9_mean_r3 : List Cond := [Cond.instanceMethod yX9_laySoonest, Cond.selects RX9 yX9_laySoonest yX9_laySoonest, Cond.code yX9_laySoonest cX9_laySoonest 3 none, Cond.fieldLink RX9 19 "PocketKeeperModel" "breaksAt" "[I", Cond.methodLink RX9 112 yX9_goesFirst, Cond.instanceMethod yX9_goesFirst, Cond.selects RX9 yX9_goesFirst yX9_goesFirst, Cond.code yX9_goesFirst cX9_goesFirst 7 (some .int), Cond.methodLink RX9 92 yX9_has, Cond.static yX9_has, Cond.code yX9_has cX9_has 2 (some .boolean), Cond.methodLink RX9 109 yX9_late, Cond.instanceMethod yX9_late, Cond.selects RX9 yX9_late yX9_late, Cond.code yX9_late cX9_late 4 (some .int), Cond.methodLink RX9 103 yX9_nextOf, Cond.instanceMethod yX9_nextOf, Cond.selects RX9 yX9_nextOf yX9_nextOf, Cond.code yX9_nextOf cX9_nextOf 4 (some .int), Cond.methodLink RX9 126 yX9_layBetter, Cond.instanceMethod yX9_layBetter, Cond.selects RX9 yX9_layBetter yX9_layBetter, Cond.code yX9_layBetter cX9_layBetter 5 none, Cond.fieldLink RX9 188 "PocketKeeperModel" "betterOne" "I"]
noncomputable def wsX9_mean_r4 : List Cond := [Cond.fieldLink RX9 191 "PocketKeeperModel" "betterOther" "I", Cond.fieldLink RX9 194 "PocketKeeperModel" "betterLeast" "I", Cond.methodLink RX9 129 yX9_layLeast, Cond.instanceMethod yX9_layLeast, Cond.selects RX9 yX9_layLeast yX9_layLeast, Cond.code yX9_layLeast cX9_layLeast 3 (some .int), Cond.fieldLink RX9 35 "PocketKeeperModel" "leastFrom" "[I", Cond.constant RX9 115 (1048576), Cond.methodLink RX9 120 yX9_leastOf, Cond.instanceMethod yX9_leastOf, Cond.selects RX9 yX9_leastOf yX9_leastOf, Cond.code yX9_leastOf cX9_leastOf 9 (some .int), Cond.methodLink RX9 116 yX9_costBy, Cond.instanceMethod yX9_costBy, Cond.selects RX9 yX9_costBy yX9_costBy, Cond.code yX9_costBy cX9_costBy 4 (some .int), Cond.methodLink RX9 88 yX9_change, Cond.instanceMethod yX9_change, Cond.selects RX9 yX9_change yX9_change, Cond.code yX9_change cX9_change 4 none, Cond.methodLink RX9 135 yX9_layPlan, Cond.instanceMethod yX9_layPlan, Cond.selects RX9 yX9_layPlan yX9_layPlan, Cond.code yX9_layPlan cX9_layPlan 8 none]
noncomputable def wsX9_mean_r5 : List Cond := [Cond.methodLink RX9 167 yJxe99ae_doubleToLongBits_ccdee, Cond.static yJxe99ae_doubleToLongBits_ccdee, Cond.initialized RJxe99ae, Cond.code yJxe99ae_doubleToLongBits_ccdee cJxe99ae_doubleToLongBits_ccdee 2 (some .long), Cond.methodLink RJxe99ae 134 ⟨"java/lang/Double", "doubleToRawLongBits", "(D)J"⟩, Cond.native ⟨"java/lang/Double", "doubleToRawLongBits", "(D)J"⟩, Cond.static ⟨"java/lang/Double", "doubleToRawLongBits", "(D)J"⟩, Cond.initialized "java/lang/Double", Cond.constantLong RJxe99ae 137 (9221120237041090560), Cond.methodLink RJxe99ae 122 yJxe99ae_isNaN_b9ae7, Cond.static yJxe99ae_isNaN_b9ae7, Cond.code yJxe99ae_isNaN_b9ae7 cJxe99ae_isNaN_b9ae7 2 (some .boolean)]
noncomputable def wsX9_mean : List Cond := .code yX9_mean cX9_mean 1 (some .long) :: ((wsX9_mean_r1 ++ (wsX9_mean_r2 ++ (wsX9_mean_r3 ++ (wsX9_mean_r4 ++ wsX9_mean_r5)))) ++ wsX90)
noncomputable def wsJxf58ca_isNaN_12338 : List Cond := .code yJxf58ca_isNaN_12338 cJxf58ca_isNaN_12338 1 (some .boolean) :: ([])
noncomputable def wsJxf58ca_floatToIntBits_5c35a : List Cond := .code yJxf58ca_floatToIntBits_5c35a cJxf58ca_floatToIntBits_5c35a 1 (some .int) :: ([.methodLink RJxf58ca 74 ⟨"java/lang/Float", "floatToRawIntBits", "(F)I"⟩, .native ⟨"java/lang/Float", "floatToRawIntBits", "(F)I"⟩, .static ⟨"java/lang/Float", "floatToRawIntBits", "(F)I"⟩, .initialized "java/lang/Float", .constant RJxf58ca 77 (2143289344), .methodLink RJxf58ca 59 yJxf58ca_isNaN_12338, .static yJxf58ca_isNaN_12338, .initialized RJxf58ca, .code yJxf58ca_isNaN_12338 cJxf58ca_isNaN_12338 1 (some .boolean)])
noncomputable def wsX9_ratioNow_r1 : List Cond := [Cond.methodLink RX9 151 yX9_keptAll, Cond.instanceMethod yX9_keptAll, Cond.selects RX9 yX9_keptAll yX9_keptAll, Cond.initialized RX9, Cond.code yX9_keptAll cX9_keptAll 6 (some .int), Cond.fieldLink RX9 69 "PocketKeeperModel" "jobs" "I", Cond.methodLink RX9 148 yX9_keptNow, Cond.instanceMethod yX9_keptNow, Cond.selects RX9 yX9_keptNow yX9_keptNow, Cond.code yX9_keptNow cX9_keptNow 4 (some .int), Cond.fieldLink RX9 32 "PocketKeeperModel" "thereAt" "[I", Cond.fieldLink RX9 29 "PocketKeeperModel" "aheadAt" "[I", Cond.methodLink RX9 138 yX9_layAll, Cond.instanceMethod yX9_layAll, Cond.selects RX9 yX9_layAll yX9_layAll, Cond.code yX9_layAll cX9_layAll 2 none, Cond.fieldLink RX9 75 "PocketKeeperModel" "isLaid" "Z", Cond.fieldLink RX9 38 "PocketKeeperModel" "sizes" "[I", Cond.fieldLink RX9 132 "PocketKeeperModel" "leastAll" "I", Cond.methodLink RX9 106 yX9_sizeOf, Cond.instanceMethod yX9_sizeOf, Cond.selects RX9 yX9_sizeOf yX9_sizeOf, Cond.code yX9_sizeOf cX9_sizeOf 2 (some .int), Cond.fieldLink RX9 45 "PocketKeeperModel" "bigs" "I"]
noncomputable def wsX9_ratioNow_r2 : List Cond := [Cond.methodLink RX9 41 yX9_ones, Cond.static yX9_ones, Cond.code yX9_ones cX9_ones 3 (some .int), Cond.methodLink RX9 123 yX9_laySoonest, Cond.instanceMethod yX9_laySoonest, Cond.selects RX9 yX9_laySoonest yX9_laySoonest, Cond.code yX9_laySoonest cX9_laySoonest 3 none, Cond.fieldLink RX9 22 "PocketKeeperModel" "pocketsNow" "I", Cond.fieldLink RX9 19 "PocketKeeperModel" "breaksAt" "[I", Cond.methodLink RX9 96 yX9_needs, Cond.instanceMethod yX9_needs, Cond.selects RX9 yX9_needs yX9_needs, Cond.code yX9_needs cX9_needs 2 (some .int), Cond.fieldLink RX9 13 "PocketKeeperModel" "needsOf" "[I", Cond.fieldLink RX9 16 "PocketKeeperModel" "jobAt" "[I", Cond.methodLink RX9 112 yX9_goesFirst, Cond.instanceMethod yX9_goesFirst, Cond.selects RX9 yX9_goesFirst yX9_goesFirst, Cond.code yX9_goesFirst cX9_goesFirst 7 (some .int), Cond.methodLink RX9 92 yX9_has, Cond.static yX9_has, Cond.code yX9_has cX9_has 2 (some .boolean), Cond.methodLink RX9 109 yX9_late, Cond.instanceMethod yX9_late]
noncomputable def wsX9_ratioNow_r3 : List Cond := [Cond.selects RX9 yX9_late yX9_late, Cond.code yX9_late cX9_late 4 (some .int), Cond.methodLink RX9 103 yX9_nextOf, Cond.instanceMethod yX9_nextOf, Cond.selects RX9 yX9_nextOf yX9_nextOf, Cond.code yX9_nextOf cX9_nextOf 4 (some .int), Cond.methodLink RX9 126 yX9_layBetter, Cond.instanceMethod yX9_layBetter, Cond.selects RX9 yX9_layBetter yX9_layBetter, Cond.code yX9_layBetter cX9_layBetter 5 none, Cond.fieldLink RX9 188 "PocketKeeperModel" "betterOne" "I", Cond.fieldLink RX9 191 "PocketKeeperModel" "betterOther" "I", Cond.fieldLink RX9 194 "PocketKeeperModel" "betterLeast" "I", Cond.methodLink RX9 129 yX9_layLeast, Cond.instanceMethod yX9_layLeast, Cond.selects RX9 yX9_layLeast yX9_layLeast, Cond.code yX9_layLeast cX9_layLeast 3 (some .int), Cond.fieldLink RX9 35 "PocketKeeperModel" "leastFrom" "[I", Cond.constant RX9 115 (1048576), Cond.methodLink RX9 120 yX9_leastOf, Cond.instanceMethod yX9_leastOf, Cond.selects RX9 yX9_leastOf yX9_leastOf, Cond.code yX9_leastOf cX9_leastOf 9 (some .int), Cond.methodLink RX9 116 yX9_costBy]
noncomputable def wsX9_ratioNow_r4 : List Cond := [Cond.instanceMethod yX9_costBy, Cond.selects RX9 yX9_costBy yX9_costBy, Cond.code yX9_costBy cX9_costBy 4 (some .int), Cond.methodLink RX9 88 yX9_change, Cond.instanceMethod yX9_change, Cond.selects RX9 yX9_change yX9_change, Cond.code yX9_change cX9_change 4 none, Cond.methodLink RX9 135 yX9_layPlan, Cond.instanceMethod yX9_layPlan, Cond.selects RX9 yX9_layPlan yX9_layPlan, Cond.code yX9_layPlan cX9_layPlan 8 none, Cond.methodLink RX9 155 yX9_leastNow, Cond.instanceMethod yX9_leastNow, Cond.selects RX9 yX9_leastNow yX9_leastNow, Cond.code yX9_leastNow cX9_leastNow 1 (some .int), Cond.methodLink RX9 179 yJxf58ca_floatToIntBits_5c35a, Cond.static yJxf58ca_floatToIntBits_5c35a, Cond.initialized RJxf58ca, Cond.code yJxf58ca_floatToIntBits_5c35a cJxf58ca_floatToIntBits_5c35a 1 (some .int), Cond.methodLink RJxf58ca 74 ⟨"java/lang/Float", "floatToRawIntBits", "(F)I"⟩, Cond.native ⟨"java/lang/Float", "floatToRawIntBits", "(F)I"⟩, Cond.static ⟨"java/lang/Float", "floatToRawIntBits", "(F)I"⟩, Cond.initialized "java/lang/Float", Cond.constant RJxf58ca 77 (2143289344)]
noncomputable def wsX9_ratioNow_r5 : List Cond := [Cond.methodLink RJxf58ca 59 yJxf58ca_isNaN_12338, Cond.static yJxf58ca_isNaN_12338, Cond.code yJxf58ca_isNaN_12338 cJxf58ca_isNaN_12338 1 (some .boolean)]
noncomputable def wsX9_ratioNow : List Cond := .code yX9_ratioNow cX9_ratioNow 1 (some .int) :: ((wsX9_ratioNow_r1 ++ (wsX9_ratioNow_r2 ++ (wsX9_ratioNow_r3 ++ (wsX9_ratioNow_r4 ++ wsX9_ratioNow_r5)))) ++ wsX90)
noncomputable def wsX9_ratio_r1 : List Cond := [Cond.methodLink RX9 161 yX9_isReady, Cond.instanceMethod yX9_isReady, Cond.selects RX9 yX9_isReady yX9_isReady, Cond.initialized RX9, Cond.code yX9_isReady cX9_isReady 1 (some .boolean), Cond.fieldLink RX9 69 "PocketKeeperModel" "jobs" "I", Cond.methodLink RX9 141 yX9_isTooBig, Cond.instanceMethod yX9_isTooBig, Cond.selects RX9 yX9_isTooBig yX9_isTooBig, Cond.code yX9_isTooBig cX9_isTooBig 3 (some .boolean), Cond.fieldLink RX9 22 "PocketKeeperModel" "pocketsNow" "I", Cond.methodLink RX9 96 yX9_needs, Cond.instanceMethod yX9_needs, Cond.selects RX9 yX9_needs yX9_needs, Cond.code yX9_needs cX9_needs 2 (some .int), Cond.fieldLink RX9 13 "PocketKeeperModel" "needsOf" "[I", Cond.fieldLink RX9 16 "PocketKeeperModel" "jobAt" "[I", Cond.methodLink RX9 106 yX9_sizeOf, Cond.instanceMethod yX9_sizeOf, Cond.selects RX9 yX9_sizeOf yX9_sizeOf, Cond.code yX9_sizeOf cX9_sizeOf 2 (some .int), Cond.fieldLink RX9 45 "PocketKeeperModel" "bigs" "I", Cond.methodLink RX9 41 yX9_ones, Cond.static yX9_ones]
noncomputable def wsX9_ratio_r2 : List Cond := [Cond.code yX9_ones cX9_ones 3 (some .int), Cond.methodLink RX9 185 yX9_ratioNow, Cond.instanceMethod yX9_ratioNow, Cond.selects RX9 yX9_ratioNow yX9_ratioNow, Cond.code yX9_ratioNow cX9_ratioNow 1 (some .int), Cond.methodLink RX9 151 yX9_keptAll, Cond.instanceMethod yX9_keptAll, Cond.selects RX9 yX9_keptAll yX9_keptAll, Cond.code yX9_keptAll cX9_keptAll 6 (some .int), Cond.methodLink RX9 148 yX9_keptNow, Cond.instanceMethod yX9_keptNow, Cond.selects RX9 yX9_keptNow yX9_keptNow, Cond.code yX9_keptNow cX9_keptNow 4 (some .int), Cond.fieldLink RX9 32 "PocketKeeperModel" "thereAt" "[I", Cond.fieldLink RX9 29 "PocketKeeperModel" "aheadAt" "[I", Cond.methodLink RX9 138 yX9_layAll, Cond.instanceMethod yX9_layAll, Cond.selects RX9 yX9_layAll yX9_layAll, Cond.code yX9_layAll cX9_layAll 2 none, Cond.fieldLink RX9 75 "PocketKeeperModel" "isLaid" "Z", Cond.fieldLink RX9 38 "PocketKeeperModel" "sizes" "[I", Cond.fieldLink RX9 132 "PocketKeeperModel" "leastAll" "I", Cond.methodLink RX9 123 yX9_laySoonest, Cond.instanceMethod yX9_laySoonest]
noncomputable def wsX9_ratio_r3 : List Cond := [Cond.selects RX9 yX9_laySoonest yX9_laySoonest, Cond.code yX9_laySoonest cX9_laySoonest 3 none, Cond.fieldLink RX9 19 "PocketKeeperModel" "breaksAt" "[I", Cond.methodLink RX9 112 yX9_goesFirst, Cond.instanceMethod yX9_goesFirst, Cond.selects RX9 yX9_goesFirst yX9_goesFirst, Cond.code yX9_goesFirst cX9_goesFirst 7 (some .int), Cond.methodLink RX9 92 yX9_has, Cond.static yX9_has, Cond.code yX9_has cX9_has 2 (some .boolean), Cond.methodLink RX9 109 yX9_late, Cond.instanceMethod yX9_late, Cond.selects RX9 yX9_late yX9_late, Cond.code yX9_late cX9_late 4 (some .int), Cond.methodLink RX9 103 yX9_nextOf, Cond.instanceMethod yX9_nextOf, Cond.selects RX9 yX9_nextOf yX9_nextOf, Cond.code yX9_nextOf cX9_nextOf 4 (some .int), Cond.methodLink RX9 126 yX9_layBetter, Cond.instanceMethod yX9_layBetter, Cond.selects RX9 yX9_layBetter yX9_layBetter, Cond.code yX9_layBetter cX9_layBetter 5 none, Cond.fieldLink RX9 188 "PocketKeeperModel" "betterOne" "I", Cond.fieldLink RX9 191 "PocketKeeperModel" "betterOther" "I"]
noncomputable def wsX9_ratio_r4 : List Cond := [Cond.fieldLink RX9 194 "PocketKeeperModel" "betterLeast" "I", Cond.methodLink RX9 129 yX9_layLeast, Cond.instanceMethod yX9_layLeast, Cond.selects RX9 yX9_layLeast yX9_layLeast, Cond.code yX9_layLeast cX9_layLeast 3 (some .int), Cond.fieldLink RX9 35 "PocketKeeperModel" "leastFrom" "[I", Cond.constant RX9 115 (1048576), Cond.methodLink RX9 120 yX9_leastOf, Cond.instanceMethod yX9_leastOf, Cond.selects RX9 yX9_leastOf yX9_leastOf, Cond.code yX9_leastOf cX9_leastOf 9 (some .int), Cond.methodLink RX9 116 yX9_costBy, Cond.instanceMethod yX9_costBy, Cond.selects RX9 yX9_costBy yX9_costBy, Cond.code yX9_costBy cX9_costBy 4 (some .int), Cond.methodLink RX9 88 yX9_change, Cond.instanceMethod yX9_change, Cond.selects RX9 yX9_change yX9_change, Cond.code yX9_change cX9_change 4 none, Cond.methodLink RX9 135 yX9_layPlan, Cond.instanceMethod yX9_layPlan, Cond.selects RX9 yX9_layPlan yX9_layPlan, Cond.code yX9_layPlan cX9_layPlan 8 none, Cond.methodLink RX9 155 yX9_leastNow]
noncomputable def wsX9_ratio_r5 : List Cond := [Cond.instanceMethod yX9_leastNow, Cond.selects RX9 yX9_leastNow yX9_leastNow, Cond.code yX9_leastNow cX9_leastNow 1 (some .int), Cond.methodLink RX9 179 yJxf58ca_floatToIntBits_5c35a, Cond.static yJxf58ca_floatToIntBits_5c35a, Cond.initialized RJxf58ca, Cond.code yJxf58ca_floatToIntBits_5c35a cJxf58ca_floatToIntBits_5c35a 1 (some .int), Cond.methodLink RJxf58ca 74 ⟨"java/lang/Float", "floatToRawIntBits", "(F)I"⟩, Cond.native ⟨"java/lang/Float", "floatToRawIntBits", "(F)I"⟩, Cond.static ⟨"java/lang/Float", "floatToRawIntBits", "(F)I"⟩, Cond.initialized "java/lang/Float", Cond.constant RJxf58ca 77 (2143289344), Cond.methodLink RJxf58ca 59 yJxf58ca_isNaN_12338, Cond.static yJxf58ca_isNaN_12338, Cond.code yJxf58ca_isNaN_12338 cJxf58ca_isNaN_12338 1 (some .boolean)]
noncomputable def wsX9_ratio : List Cond := .code yX9_ratio cX9_ratio 1 (some .int) :: ((wsX9_ratio_r1 ++ (wsX9_ratio_r2 ++ (wsX9_ratio_r3 ++ (wsX9_ratio_r4 ++ wsX9_ratio_r5)))) ++ wsX90)
noncomputable def wsX9_betterNow_r1 : List Cond := [Cond.fieldLink RX9 188 "PocketKeeperModel" "betterOne" "I", Cond.fieldLink RX9 191 "PocketKeeperModel" "betterOther" "I", Cond.fieldLink RX9 194 "PocketKeeperModel" "betterLeast" "I", Cond.methodLink RX9 138 yX9_layAll, Cond.instanceMethod yX9_layAll, Cond.selects RX9 yX9_layAll yX9_layAll, Cond.initialized RX9, Cond.code yX9_layAll cX9_layAll 2 none, Cond.fieldLink RX9 75 "PocketKeeperModel" "isLaid" "Z", Cond.fieldLink RX9 38 "PocketKeeperModel" "sizes" "[I", Cond.fieldLink RX9 132 "PocketKeeperModel" "leastAll" "I", Cond.methodLink RX9 106 yX9_sizeOf, Cond.instanceMethod yX9_sizeOf, Cond.selects RX9 yX9_sizeOf yX9_sizeOf, Cond.code yX9_sizeOf cX9_sizeOf 2 (some .int), Cond.fieldLink RX9 45 "PocketKeeperModel" "bigs" "I", Cond.methodLink RX9 41 yX9_ones, Cond.static yX9_ones, Cond.code yX9_ones cX9_ones 3 (some .int), Cond.methodLink RX9 123 yX9_laySoonest, Cond.instanceMethod yX9_laySoonest, Cond.selects RX9 yX9_laySoonest yX9_laySoonest, Cond.code yX9_laySoonest cX9_laySoonest 3 none, Cond.fieldLink RX9 69 "PocketKeeperModel" "jobs" "I"]
noncomputable def wsX9_betterNow_r2 : List Cond := [Cond.fieldLink RX9 29 "PocketKeeperModel" "aheadAt" "[I", Cond.fieldLink RX9 22 "PocketKeeperModel" "pocketsNow" "I", Cond.fieldLink RX9 32 "PocketKeeperModel" "thereAt" "[I", Cond.fieldLink RX9 19 "PocketKeeperModel" "breaksAt" "[I", Cond.methodLink RX9 96 yX9_needs, Cond.instanceMethod yX9_needs, Cond.selects RX9 yX9_needs yX9_needs, Cond.code yX9_needs cX9_needs 2 (some .int), Cond.fieldLink RX9 13 "PocketKeeperModel" "needsOf" "[I", Cond.fieldLink RX9 16 "PocketKeeperModel" "jobAt" "[I", Cond.methodLink RX9 112 yX9_goesFirst, Cond.instanceMethod yX9_goesFirst, Cond.selects RX9 yX9_goesFirst yX9_goesFirst, Cond.code yX9_goesFirst cX9_goesFirst 7 (some .int), Cond.methodLink RX9 92 yX9_has, Cond.static yX9_has, Cond.code yX9_has cX9_has 2 (some .boolean), Cond.methodLink RX9 109 yX9_late, Cond.instanceMethod yX9_late, Cond.selects RX9 yX9_late yX9_late, Cond.code yX9_late cX9_late 4 (some .int), Cond.methodLink RX9 103 yX9_nextOf, Cond.instanceMethod yX9_nextOf, Cond.selects RX9 yX9_nextOf yX9_nextOf]
noncomputable def wsX9_betterNow_r3 : List Cond := [Cond.code yX9_nextOf cX9_nextOf 4 (some .int), Cond.methodLink RX9 126 yX9_layBetter, Cond.instanceMethod yX9_layBetter, Cond.selects RX9 yX9_layBetter yX9_layBetter, Cond.code yX9_layBetter cX9_layBetter 5 none, Cond.methodLink RX9 129 yX9_layLeast, Cond.instanceMethod yX9_layLeast, Cond.selects RX9 yX9_layLeast yX9_layLeast, Cond.code yX9_layLeast cX9_layLeast 3 (some .int), Cond.fieldLink RX9 35 "PocketKeeperModel" "leastFrom" "[I", Cond.constant RX9 115 (1048576), Cond.methodLink RX9 120 yX9_leastOf, Cond.instanceMethod yX9_leastOf, Cond.selects RX9 yX9_leastOf yX9_leastOf, Cond.code yX9_leastOf cX9_leastOf 9 (some .int), Cond.methodLink RX9 116 yX9_costBy, Cond.instanceMethod yX9_costBy, Cond.selects RX9 yX9_costBy yX9_costBy, Cond.code yX9_costBy cX9_costBy 4 (some .int), Cond.methodLink RX9 88 yX9_change, Cond.instanceMethod yX9_change, Cond.selects RX9 yX9_change yX9_change, Cond.code yX9_change cX9_change 4 none, Cond.methodLink RX9 135 yX9_layPlan]
noncomputable def wsX9_betterNow_r4 : List Cond := [Cond.instanceMethod yX9_layPlan, Cond.selects RX9 yX9_layPlan yX9_layPlan, Cond.code yX9_layPlan cX9_layPlan 8 none]
noncomputable def wsX9_betterNow : List Cond := .code yX9_betterNow cX9_betterNow 2 (some .int) :: ((wsX9_betterNow_r1 ++ (wsX9_betterNow_r2 ++ (wsX9_betterNow_r3 ++ wsX9_betterNow_r4))) ++ wsX90)
noncomputable def wsX9_pair_r1 : List Cond := [Cond.methodLink RX9 48 yX9_within, Cond.static yX9_within, Cond.initialized RX9, Cond.code yX9_within cX9_within 3 (some .boolean), Cond.methodLink RX9 161 yX9_isReady, Cond.instanceMethod yX9_isReady, Cond.selects RX9 yX9_isReady yX9_isReady, Cond.code yX9_isReady cX9_isReady 1 (some .boolean), Cond.fieldLink RX9 69 "PocketKeeperModel" "jobs" "I", Cond.methodLink RX9 141 yX9_isTooBig, Cond.instanceMethod yX9_isTooBig, Cond.selects RX9 yX9_isTooBig yX9_isTooBig, Cond.code yX9_isTooBig cX9_isTooBig 3 (some .boolean), Cond.fieldLink RX9 22 "PocketKeeperModel" "pocketsNow" "I", Cond.methodLink RX9 96 yX9_needs, Cond.instanceMethod yX9_needs, Cond.selects RX9 yX9_needs yX9_needs, Cond.code yX9_needs cX9_needs 2 (some .int), Cond.fieldLink RX9 13 "PocketKeeperModel" "needsOf" "[I", Cond.fieldLink RX9 16 "PocketKeeperModel" "jobAt" "[I", Cond.methodLink RX9 106 yX9_sizeOf, Cond.instanceMethod yX9_sizeOf, Cond.selects RX9 yX9_sizeOf yX9_sizeOf, Cond.code yX9_sizeOf cX9_sizeOf 2 (some .int)]
noncomputable def wsX9_pair_r2 : List Cond := [Cond.fieldLink RX9 45 "PocketKeeperModel" "bigs" "I", Cond.methodLink RX9 41 yX9_ones, Cond.static yX9_ones, Cond.code yX9_ones cX9_ones 3 (some .int), Cond.methodLink RX9 197 yX9_betterNow, Cond.instanceMethod yX9_betterNow, Cond.selects RX9 yX9_betterNow yX9_betterNow, Cond.code yX9_betterNow cX9_betterNow 2 (some .int), Cond.fieldLink RX9 188 "PocketKeeperModel" "betterOne" "I", Cond.fieldLink RX9 191 "PocketKeeperModel" "betterOther" "I", Cond.fieldLink RX9 194 "PocketKeeperModel" "betterLeast" "I", Cond.methodLink RX9 138 yX9_layAll, Cond.instanceMethod yX9_layAll, Cond.selects RX9 yX9_layAll yX9_layAll, Cond.code yX9_layAll cX9_layAll 2 none, Cond.fieldLink RX9 75 "PocketKeeperModel" "isLaid" "Z", Cond.fieldLink RX9 38 "PocketKeeperModel" "sizes" "[I", Cond.fieldLink RX9 132 "PocketKeeperModel" "leastAll" "I", Cond.methodLink RX9 123 yX9_laySoonest, Cond.instanceMethod yX9_laySoonest, Cond.selects RX9 yX9_laySoonest yX9_laySoonest, Cond.code yX9_laySoonest cX9_laySoonest 3 none, Cond.fieldLink RX9 29 "PocketKeeperModel" "aheadAt" "[I", Cond.fieldLink RX9 32 "PocketKeeperModel" "thereAt" "[I"]
noncomputable def wsX9_pair_r3 : List Cond := [Cond.fieldLink RX9 19 "PocketKeeperModel" "breaksAt" "[I", Cond.methodLink RX9 112 yX9_goesFirst, Cond.instanceMethod yX9_goesFirst, Cond.selects RX9 yX9_goesFirst yX9_goesFirst, Cond.code yX9_goesFirst cX9_goesFirst 7 (some .int), Cond.methodLink RX9 92 yX9_has, Cond.static yX9_has, Cond.code yX9_has cX9_has 2 (some .boolean), Cond.methodLink RX9 109 yX9_late, Cond.instanceMethod yX9_late, Cond.selects RX9 yX9_late yX9_late, Cond.code yX9_late cX9_late 4 (some .int), Cond.methodLink RX9 103 yX9_nextOf, Cond.instanceMethod yX9_nextOf, Cond.selects RX9 yX9_nextOf yX9_nextOf, Cond.code yX9_nextOf cX9_nextOf 4 (some .int), Cond.methodLink RX9 126 yX9_layBetter, Cond.instanceMethod yX9_layBetter, Cond.selects RX9 yX9_layBetter yX9_layBetter, Cond.code yX9_layBetter cX9_layBetter 5 none, Cond.methodLink RX9 129 yX9_layLeast, Cond.instanceMethod yX9_layLeast, Cond.selects RX9 yX9_layLeast yX9_layLeast, Cond.code yX9_layLeast cX9_layLeast 3 (some .int)]
noncomputable def wsX9_pair_r4 : List Cond := [Cond.fieldLink RX9 35 "PocketKeeperModel" "leastFrom" "[I", Cond.constant RX9 115 (1048576), Cond.methodLink RX9 120 yX9_leastOf, Cond.instanceMethod yX9_leastOf, Cond.selects RX9 yX9_leastOf yX9_leastOf, Cond.code yX9_leastOf cX9_leastOf 9 (some .int), Cond.methodLink RX9 116 yX9_costBy, Cond.instanceMethod yX9_costBy, Cond.selects RX9 yX9_costBy yX9_costBy, Cond.code yX9_costBy cX9_costBy 4 (some .int), Cond.methodLink RX9 88 yX9_change, Cond.instanceMethod yX9_change, Cond.selects RX9 yX9_change yX9_change, Cond.code yX9_change cX9_change 4 none, Cond.methodLink RX9 135 yX9_layPlan, Cond.instanceMethod yX9_layPlan, Cond.selects RX9 yX9_layPlan yX9_layPlan, Cond.code yX9_layPlan cX9_layPlan 8 none]
noncomputable def wsX9_pair : List Cond := .code yX9_pair cX9_pair 2 (some .int) :: ((wsX9_pair_r1 ++ (wsX9_pair_r2 ++ (wsX9_pair_r3 ++ wsX9_pair_r4))) ++ wsX90)
noncomputable def wsX9_better_r1 : List Cond := [Cond.fieldLink RX9 188 "PocketKeeperModel" "betterOne" "I", Cond.fieldLink RX9 191 "PocketKeeperModel" "betterOther" "I", Cond.fieldLink RX9 72 "PocketKeeperModel" "changes" "I", Cond.fieldLink RX9 75 "PocketKeeperModel" "isLaid" "Z", Cond.methodLink RX9 161 yX9_isReady, Cond.instanceMethod yX9_isReady, Cond.selects RX9 yX9_isReady yX9_isReady, Cond.initialized RX9, Cond.code yX9_isReady cX9_isReady 1 (some .boolean), Cond.fieldLink RX9 69 "PocketKeeperModel" "jobs" "I", Cond.methodLink RX9 141 yX9_isTooBig, Cond.instanceMethod yX9_isTooBig, Cond.selects RX9 yX9_isTooBig yX9_isTooBig, Cond.code yX9_isTooBig cX9_isTooBig 3 (some .boolean), Cond.fieldLink RX9 22 "PocketKeeperModel" "pocketsNow" "I", Cond.methodLink RX9 96 yX9_needs, Cond.instanceMethod yX9_needs, Cond.selects RX9 yX9_needs yX9_needs, Cond.code yX9_needs cX9_needs 2 (some .int), Cond.fieldLink RX9 13 "PocketKeeperModel" "needsOf" "[I", Cond.fieldLink RX9 16 "PocketKeeperModel" "jobAt" "[I", Cond.methodLink RX9 106 yX9_sizeOf, Cond.instanceMethod yX9_sizeOf, Cond.selects RX9 yX9_sizeOf yX9_sizeOf]
noncomputable def wsX9_better_r2 : List Cond := [Cond.code yX9_sizeOf cX9_sizeOf 2 (some .int), Cond.fieldLink RX9 45 "PocketKeeperModel" "bigs" "I", Cond.methodLink RX9 41 yX9_ones, Cond.static yX9_ones, Cond.code yX9_ones cX9_ones 3 (some .int), Cond.methodLink RX9 197 yX9_betterNow, Cond.instanceMethod yX9_betterNow, Cond.selects RX9 yX9_betterNow yX9_betterNow, Cond.code yX9_betterNow cX9_betterNow 2 (some .int), Cond.fieldLink RX9 194 "PocketKeeperModel" "betterLeast" "I", Cond.methodLink RX9 138 yX9_layAll, Cond.instanceMethod yX9_layAll, Cond.selects RX9 yX9_layAll yX9_layAll, Cond.code yX9_layAll cX9_layAll 2 none, Cond.fieldLink RX9 38 "PocketKeeperModel" "sizes" "[I", Cond.fieldLink RX9 132 "PocketKeeperModel" "leastAll" "I", Cond.methodLink RX9 123 yX9_laySoonest, Cond.instanceMethod yX9_laySoonest, Cond.selects RX9 yX9_laySoonest yX9_laySoonest, Cond.code yX9_laySoonest cX9_laySoonest 3 none, Cond.fieldLink RX9 29 "PocketKeeperModel" "aheadAt" "[I", Cond.fieldLink RX9 32 "PocketKeeperModel" "thereAt" "[I", Cond.fieldLink RX9 19 "PocketKeeperModel" "breaksAt" "[I", Cond.methodLink RX9 112 yX9_goesFirst]
noncomputable def wsX9_better_r3 : List Cond := [Cond.instanceMethod yX9_goesFirst, Cond.selects RX9 yX9_goesFirst yX9_goesFirst, Cond.code yX9_goesFirst cX9_goesFirst 7 (some .int), Cond.methodLink RX9 92 yX9_has, Cond.static yX9_has, Cond.code yX9_has cX9_has 2 (some .boolean), Cond.methodLink RX9 109 yX9_late, Cond.instanceMethod yX9_late, Cond.selects RX9 yX9_late yX9_late, Cond.code yX9_late cX9_late 4 (some .int), Cond.methodLink RX9 103 yX9_nextOf, Cond.instanceMethod yX9_nextOf, Cond.selects RX9 yX9_nextOf yX9_nextOf, Cond.code yX9_nextOf cX9_nextOf 4 (some .int), Cond.methodLink RX9 126 yX9_layBetter, Cond.instanceMethod yX9_layBetter, Cond.selects RX9 yX9_layBetter yX9_layBetter, Cond.code yX9_layBetter cX9_layBetter 5 none, Cond.methodLink RX9 129 yX9_layLeast, Cond.instanceMethod yX9_layLeast, Cond.selects RX9 yX9_layLeast yX9_layLeast, Cond.code yX9_layLeast cX9_layLeast 3 (some .int), Cond.fieldLink RX9 35 "PocketKeeperModel" "leastFrom" "[I", Cond.constant RX9 115 (1048576)]
noncomputable def wsX9_better_r4 : List Cond := [Cond.methodLink RX9 120 yX9_leastOf, Cond.instanceMethod yX9_leastOf, Cond.selects RX9 yX9_leastOf yX9_leastOf, Cond.code yX9_leastOf cX9_leastOf 9 (some .int), Cond.methodLink RX9 116 yX9_costBy, Cond.instanceMethod yX9_costBy, Cond.selects RX9 yX9_costBy yX9_costBy, Cond.code yX9_costBy cX9_costBy 4 (some .int), Cond.methodLink RX9 88 yX9_change, Cond.instanceMethod yX9_change, Cond.selects RX9 yX9_change yX9_change, Cond.code yX9_change cX9_change 4 none, Cond.methodLink RX9 135 yX9_layPlan, Cond.instanceMethod yX9_layPlan, Cond.selects RX9 yX9_layPlan yX9_layPlan, Cond.code yX9_layPlan cX9_layPlan 8 none]
noncomputable def wsX9_better : List Cond := .code yX9_better cX9_better 2 (some .int) :: ((wsX9_better_r1 ++ (wsX9_better_r2 ++ (wsX9_better_r3 ++ wsX9_better_r4))) ++ wsX90)
noncomputable def wsX9_breaksMany : List Cond := .code yX9_breaksMany cX9_breaksMany 3 (some .int) :: ([.fieldLink RX9 69 "PocketKeeperModel" "jobs" "I", .fieldLink RX9 19 "PocketKeeperModel" "breaksAt" "[I", .methodLink RX9 41 yX9_ones, .static yX9_ones, .initialized RX9, .code yX9_ones cX9_ones 3 (some .int)] ++ wsX90)
noncomputable def wsX9_howMany_r1 : List Cond := [Cond.fieldLink RX9 69 "PocketKeeperModel" "jobs" "I", Cond.fieldLink RX9 52 "PocketKeeperModel" "pageLength" "I", Cond.fieldLink RX9 22 "PocketKeeperModel" "pocketsNow" "I", Cond.fieldLink RX9 45 "PocketKeeperModel" "bigs" "I", Cond.fieldLink RX9 72 "PocketKeeperModel" "changes" "I", Cond.fieldLink RX9 79 "PocketKeeperModel" "jobsRead" "I", Cond.methodLink RX9 200 yX9_breaksMany, Cond.instanceMethod yX9_breaksMany, Cond.selects RX9 yX9_breaksMany yX9_breaksMany, Cond.initialized RX9, Cond.code yX9_breaksMany cX9_breaksMany 3 (some .int), Cond.fieldLink RX9 19 "PocketKeeperModel" "breaksAt" "[I", Cond.methodLink RX9 41 yX9_ones, Cond.static yX9_ones, Cond.code yX9_ones cX9_ones 3 (some .int), Cond.methodLink RX9 141 yX9_isTooBig, Cond.instanceMethod yX9_isTooBig, Cond.selects RX9 yX9_isTooBig yX9_isTooBig, Cond.code yX9_isTooBig cX9_isTooBig 3 (some .boolean), Cond.methodLink RX9 96 yX9_needs, Cond.instanceMethod yX9_needs, Cond.selects RX9 yX9_needs yX9_needs, Cond.code yX9_needs cX9_needs 2 (some .int), Cond.fieldLink RX9 13 "PocketKeeperModel" "needsOf" "[I"]
noncomputable def wsX9_howMany_r2 : List Cond := [Cond.fieldLink RX9 16 "PocketKeeperModel" "jobAt" "[I", Cond.methodLink RX9 106 yX9_sizeOf, Cond.instanceMethod yX9_sizeOf, Cond.selects RX9 yX9_sizeOf yX9_sizeOf, Cond.code yX9_sizeOf cX9_sizeOf 2 (some .int)]
noncomputable def wsX9_howMany : List Cond := .code yX9_howMany cX9_howMany 2 (some .int) :: ((wsX9_howMany_r1 ++ wsX9_howMany_r2) ++ wsX90)
noncomputable def wsX9_count_r1 : List Cond := [Cond.methodLink RX9 203 yX9_howMany, Cond.instanceMethod yX9_howMany, Cond.selects RX9 yX9_howMany yX9_howMany, Cond.initialized RX9, Cond.code yX9_howMany cX9_howMany 2 (some .int), Cond.fieldLink RX9 69 "PocketKeeperModel" "jobs" "I", Cond.fieldLink RX9 52 "PocketKeeperModel" "pageLength" "I", Cond.fieldLink RX9 22 "PocketKeeperModel" "pocketsNow" "I", Cond.fieldLink RX9 45 "PocketKeeperModel" "bigs" "I", Cond.fieldLink RX9 72 "PocketKeeperModel" "changes" "I", Cond.fieldLink RX9 79 "PocketKeeperModel" "jobsRead" "I", Cond.methodLink RX9 200 yX9_breaksMany, Cond.instanceMethod yX9_breaksMany, Cond.selects RX9 yX9_breaksMany yX9_breaksMany, Cond.code yX9_breaksMany cX9_breaksMany 3 (some .int), Cond.fieldLink RX9 19 "PocketKeeperModel" "breaksAt" "[I", Cond.methodLink RX9 41 yX9_ones, Cond.static yX9_ones, Cond.code yX9_ones cX9_ones 3 (some .int), Cond.methodLink RX9 141 yX9_isTooBig, Cond.instanceMethod yX9_isTooBig, Cond.selects RX9 yX9_isTooBig yX9_isTooBig, Cond.code yX9_isTooBig cX9_isTooBig 3 (some .boolean), Cond.methodLink RX9 96 yX9_needs]
noncomputable def wsX9_count_r2 : List Cond := [Cond.instanceMethod yX9_needs, Cond.selects RX9 yX9_needs yX9_needs, Cond.code yX9_needs cX9_needs 2 (some .int), Cond.fieldLink RX9 13 "PocketKeeperModel" "needsOf" "[I", Cond.fieldLink RX9 16 "PocketKeeperModel" "jobAt" "[I", Cond.methodLink RX9 106 yX9_sizeOf, Cond.instanceMethod yX9_sizeOf, Cond.selects RX9 yX9_sizeOf yX9_sizeOf, Cond.code yX9_sizeOf cX9_sizeOf 2 (some .int)]
noncomputable def wsX9_count : List Cond := .code yX9_count cX9_count 2 (some .int) :: ((wsX9_count_r1 ++ wsX9_count_r2) ++ wsX90)
noncomputable def wsX9_mix : List Cond := .code yX9_mix cX9_mix 3 none :: ([.constantLong RX9 206 (31), .fieldLink RX9 208 "PocketKeeperModel" "h" "J"] ++ wsX90)
noncomputable def wsX9_mixKeeping_r1 : List Cond := [Cond.fieldLink RX9 69 "PocketKeeperModel" "jobs" "I", Cond.methodLink RX9 148 yX9_keptNow, Cond.instanceMethod yX9_keptNow, Cond.selects RX9 yX9_keptNow yX9_keptNow, Cond.initialized RX9, Cond.code yX9_keptNow cX9_keptNow 4 (some .int), Cond.fieldLink RX9 32 "PocketKeeperModel" "thereAt" "[I", Cond.fieldLink RX9 29 "PocketKeeperModel" "aheadAt" "[I", Cond.methodLink RX9 138 yX9_layAll, Cond.instanceMethod yX9_layAll, Cond.selects RX9 yX9_layAll yX9_layAll, Cond.code yX9_layAll cX9_layAll 2 none, Cond.fieldLink RX9 75 "PocketKeeperModel" "isLaid" "Z", Cond.fieldLink RX9 38 "PocketKeeperModel" "sizes" "[I", Cond.fieldLink RX9 132 "PocketKeeperModel" "leastAll" "I", Cond.methodLink RX9 106 yX9_sizeOf, Cond.instanceMethod yX9_sizeOf, Cond.selects RX9 yX9_sizeOf yX9_sizeOf, Cond.code yX9_sizeOf cX9_sizeOf 2 (some .int), Cond.fieldLink RX9 45 "PocketKeeperModel" "bigs" "I", Cond.methodLink RX9 41 yX9_ones, Cond.static yX9_ones, Cond.code yX9_ones cX9_ones 3 (some .int), Cond.methodLink RX9 123 yX9_laySoonest]
noncomputable def wsX9_mixKeeping_r2 : List Cond := [Cond.instanceMethod yX9_laySoonest, Cond.selects RX9 yX9_laySoonest yX9_laySoonest, Cond.code yX9_laySoonest cX9_laySoonest 3 none, Cond.fieldLink RX9 22 "PocketKeeperModel" "pocketsNow" "I", Cond.fieldLink RX9 19 "PocketKeeperModel" "breaksAt" "[I", Cond.methodLink RX9 96 yX9_needs, Cond.instanceMethod yX9_needs, Cond.selects RX9 yX9_needs yX9_needs, Cond.code yX9_needs cX9_needs 2 (some .int), Cond.fieldLink RX9 13 "PocketKeeperModel" "needsOf" "[I", Cond.fieldLink RX9 16 "PocketKeeperModel" "jobAt" "[I", Cond.methodLink RX9 112 yX9_goesFirst, Cond.instanceMethod yX9_goesFirst, Cond.selects RX9 yX9_goesFirst yX9_goesFirst, Cond.code yX9_goesFirst cX9_goesFirst 7 (some .int), Cond.methodLink RX9 92 yX9_has, Cond.static yX9_has, Cond.code yX9_has cX9_has 2 (some .boolean), Cond.methodLink RX9 109 yX9_late, Cond.instanceMethod yX9_late, Cond.selects RX9 yX9_late yX9_late, Cond.code yX9_late cX9_late 4 (some .int), Cond.methodLink RX9 103 yX9_nextOf, Cond.instanceMethod yX9_nextOf]
noncomputable def wsX9_mixKeeping_r3 : List Cond := [Cond.selects RX9 yX9_nextOf yX9_nextOf, Cond.code yX9_nextOf cX9_nextOf 4 (some .int), Cond.methodLink RX9 126 yX9_layBetter, Cond.instanceMethod yX9_layBetter, Cond.selects RX9 yX9_layBetter yX9_layBetter, Cond.code yX9_layBetter cX9_layBetter 5 none, Cond.fieldLink RX9 188 "PocketKeeperModel" "betterOne" "I", Cond.fieldLink RX9 191 "PocketKeeperModel" "betterOther" "I", Cond.fieldLink RX9 194 "PocketKeeperModel" "betterLeast" "I", Cond.methodLink RX9 129 yX9_layLeast, Cond.instanceMethod yX9_layLeast, Cond.selects RX9 yX9_layLeast yX9_layLeast, Cond.code yX9_layLeast cX9_layLeast 3 (some .int), Cond.fieldLink RX9 35 "PocketKeeperModel" "leastFrom" "[I", Cond.constant RX9 115 (1048576), Cond.methodLink RX9 120 yX9_leastOf, Cond.instanceMethod yX9_leastOf, Cond.selects RX9 yX9_leastOf yX9_leastOf, Cond.code yX9_leastOf cX9_leastOf 9 (some .int), Cond.methodLink RX9 116 yX9_costBy, Cond.instanceMethod yX9_costBy, Cond.selects RX9 yX9_costBy yX9_costBy, Cond.code yX9_costBy cX9_costBy 4 (some .int), Cond.methodLink RX9 88 yX9_change]
noncomputable def wsX9_mixKeeping_r4 : List Cond := [Cond.instanceMethod yX9_change, Cond.selects RX9 yX9_change yX9_change, Cond.code yX9_change cX9_change 4 none, Cond.methodLink RX9 135 yX9_layPlan, Cond.instanceMethod yX9_layPlan, Cond.selects RX9 yX9_layPlan yX9_layPlan, Cond.code yX9_layPlan cX9_layPlan 8 none, Cond.methodLink RX9 212 yX9_mix, Cond.instanceMethod yX9_mix, Cond.selects RX9 yX9_mix yX9_mix, Cond.code yX9_mix cX9_mix 3 none, Cond.constantLong RX9 206 (31), Cond.fieldLink RX9 208 "PocketKeeperModel" "h" "J", Cond.methodLink RX9 164 yX9_costNow, Cond.instanceMethod yX9_costNow, Cond.selects RX9 yX9_costNow yX9_costNow, Cond.code yX9_costNow cX9_costNow 2 (some .int), Cond.methodLink RX9 151 yX9_keptAll, Cond.instanceMethod yX9_keptAll, Cond.selects RX9 yX9_keptAll yX9_keptAll, Cond.code yX9_keptAll cX9_keptAll 6 (some .int), Cond.methodLink RX9 155 yX9_leastNow, Cond.instanceMethod yX9_leastNow, Cond.selects RX9 yX9_leastNow yX9_leastNow]
noncomputable def wsX9_mixKeeping_r5 : List Cond := [Cond.code yX9_leastNow cX9_leastNow 1 (some .int), Cond.methodLink RX9 158 yX9_boundNow, Cond.instanceMethod yX9_boundNow, Cond.selects RX9 yX9_boundNow yX9_boundNow, Cond.code yX9_boundNow cX9_boundNow 3 (some .int), Cond.methodLink RX9 173 yX9_meanNow, Cond.instanceMethod yX9_meanNow, Cond.selects RX9 yX9_meanNow yX9_meanNow, Cond.code yX9_meanNow cX9_meanNow 1 (some .long), Cond.methodLink RX9 167 yJxe99ae_doubleToLongBits_ccdee, Cond.static yJxe99ae_doubleToLongBits_ccdee, Cond.initialized RJxe99ae, Cond.code yJxe99ae_doubleToLongBits_ccdee cJxe99ae_doubleToLongBits_ccdee 2 (some .long), Cond.methodLink RJxe99ae 134 ⟨"java/lang/Double", "doubleToRawLongBits", "(D)J"⟩, Cond.native ⟨"java/lang/Double", "doubleToRawLongBits", "(D)J"⟩, Cond.static ⟨"java/lang/Double", "doubleToRawLongBits", "(D)J"⟩, Cond.initialized "java/lang/Double", Cond.constantLong RJxe99ae 137 (9221120237041090560), Cond.methodLink RJxe99ae 122 yJxe99ae_isNaN_b9ae7, Cond.static yJxe99ae_isNaN_b9ae7, Cond.code yJxe99ae_isNaN_b9ae7 cJxe99ae_isNaN_b9ae7 2 (some .boolean), Cond.methodLink RX9 185 yX9_ratioNow, Cond.instanceMethod yX9_ratioNow, Cond.selects RX9 yX9_ratioNow yX9_ratioNow]
noncomputable def wsX9_mixKeeping_r6 : List Cond := [Cond.code yX9_ratioNow cX9_ratioNow 1 (some .int), Cond.methodLink RX9 179 yJxf58ca_floatToIntBits_5c35a, Cond.static yJxf58ca_floatToIntBits_5c35a, Cond.initialized RJxf58ca, Cond.code yJxf58ca_floatToIntBits_5c35a cJxf58ca_floatToIntBits_5c35a 1 (some .int), Cond.methodLink RJxf58ca 74 ⟨"java/lang/Float", "floatToRawIntBits", "(F)I"⟩, Cond.native ⟨"java/lang/Float", "floatToRawIntBits", "(F)I"⟩, Cond.static ⟨"java/lang/Float", "floatToRawIntBits", "(F)I"⟩, Cond.initialized "java/lang/Float", Cond.constant RJxf58ca 77 (2143289344), Cond.methodLink RJxf58ca 59 yJxf58ca_isNaN_12338, Cond.static yJxf58ca_isNaN_12338, Cond.code yJxf58ca_isNaN_12338 cJxf58ca_isNaN_12338 1 (some .boolean), Cond.methodLink RX9 197 yX9_betterNow, Cond.instanceMethod yX9_betterNow, Cond.selects RX9 yX9_betterNow yX9_betterNow, Cond.code yX9_betterNow cX9_betterNow 2 (some .int)]
noncomputable def wsX9_mixKeeping : List Cond := .code yX9_mixKeeping cX9_mixKeeping 2 none :: ((wsX9_mixKeeping_r1 ++ (wsX9_mixKeeping_r2 ++ (wsX9_mixKeeping_r3 ++ (wsX9_mixKeeping_r4 ++ (wsX9_mixKeeping_r5 ++ wsX9_mixKeeping_r6))))) ++ wsX90)
noncomputable def wsX9_digest_r1 : List Cond := [Cond.constantLong RX9 216 (1699), Cond.fieldLink RX9 208 "PocketKeeperModel" "h" "J", Cond.fieldLink RX9 69 "PocketKeeperModel" "jobs" "I", Cond.fieldLink RX9 52 "PocketKeeperModel" "pageLength" "I", Cond.fieldLink RX9 7 "PocketKeeperModel" "page" "[I", Cond.methodLink RX9 99 yX9_jobNow, Cond.instanceMethod yX9_jobNow, Cond.selects RX9 yX9_jobNow yX9_jobNow, Cond.initialized RX9, Cond.code yX9_jobNow cX9_jobNow 3 (some .int), Cond.fieldLink RX9 16 "PocketKeeperModel" "jobAt" "[I", Cond.fieldLink RX9 19 "PocketKeeperModel" "breaksAt" "[I", Cond.methodLink RX9 96 yX9_needs, Cond.instanceMethod yX9_needs, Cond.selects RX9 yX9_needs yX9_needs, Cond.code yX9_needs cX9_needs 2 (some .int), Cond.fieldLink RX9 13 "PocketKeeperModel" "needsOf" "[I", Cond.methodLink RX9 212 yX9_mix, Cond.instanceMethod yX9_mix, Cond.selects RX9 yX9_mix yX9_mix, Cond.code yX9_mix cX9_mix 3 none, Cond.constantLong RX9 206 (31), Cond.methodLink RX9 103 yX9_nextOf, Cond.instanceMethod yX9_nextOf]
noncomputable def wsX9_digest_r2 : List Cond := [Cond.selects RX9 yX9_nextOf yX9_nextOf, Cond.code yX9_nextOf cX9_nextOf 4 (some .int), Cond.methodLink RX9 92 yX9_has, Cond.static yX9_has, Cond.code yX9_has cX9_has 2 (some .boolean), Cond.methodLink RX9 161 yX9_isReady, Cond.instanceMethod yX9_isReady, Cond.selects RX9 yX9_isReady yX9_isReady, Cond.code yX9_isReady cX9_isReady 1 (some .boolean), Cond.methodLink RX9 141 yX9_isTooBig, Cond.instanceMethod yX9_isTooBig, Cond.selects RX9 yX9_isTooBig yX9_isTooBig, Cond.code yX9_isTooBig cX9_isTooBig 3 (some .boolean), Cond.fieldLink RX9 22 "PocketKeeperModel" "pocketsNow" "I", Cond.methodLink RX9 106 yX9_sizeOf, Cond.instanceMethod yX9_sizeOf, Cond.selects RX9 yX9_sizeOf yX9_sizeOf, Cond.code yX9_sizeOf cX9_sizeOf 2 (some .int), Cond.fieldLink RX9 45 "PocketKeeperModel" "bigs" "I", Cond.methodLink RX9 41 yX9_ones, Cond.static yX9_ones, Cond.code yX9_ones cX9_ones 3 (some .int), Cond.methodLink RX9 218 yX9_mixKeeping, Cond.instanceMethod yX9_mixKeeping]
noncomputable def wsX9_digest_r3 : List Cond := [Cond.selects RX9 yX9_mixKeeping yX9_mixKeeping, Cond.code yX9_mixKeeping cX9_mixKeeping 2 none, Cond.methodLink RX9 148 yX9_keptNow, Cond.instanceMethod yX9_keptNow, Cond.selects RX9 yX9_keptNow yX9_keptNow, Cond.code yX9_keptNow cX9_keptNow 4 (some .int), Cond.fieldLink RX9 32 "PocketKeeperModel" "thereAt" "[I", Cond.fieldLink RX9 29 "PocketKeeperModel" "aheadAt" "[I", Cond.methodLink RX9 138 yX9_layAll, Cond.instanceMethod yX9_layAll, Cond.selects RX9 yX9_layAll yX9_layAll, Cond.code yX9_layAll cX9_layAll 2 none, Cond.fieldLink RX9 75 "PocketKeeperModel" "isLaid" "Z", Cond.fieldLink RX9 38 "PocketKeeperModel" "sizes" "[I", Cond.fieldLink RX9 132 "PocketKeeperModel" "leastAll" "I", Cond.methodLink RX9 123 yX9_laySoonest, Cond.instanceMethod yX9_laySoonest, Cond.selects RX9 yX9_laySoonest yX9_laySoonest, Cond.code yX9_laySoonest cX9_laySoonest 3 none, Cond.methodLink RX9 112 yX9_goesFirst, Cond.instanceMethod yX9_goesFirst, Cond.selects RX9 yX9_goesFirst yX9_goesFirst, Cond.code yX9_goesFirst cX9_goesFirst 7 (some .int), Cond.methodLink RX9 109 yX9_late]
noncomputable def wsX9_digest_r4 : List Cond := [Cond.instanceMethod yX9_late, Cond.selects RX9 yX9_late yX9_late, Cond.code yX9_late cX9_late 4 (some .int), Cond.methodLink RX9 126 yX9_layBetter, Cond.instanceMethod yX9_layBetter, Cond.selects RX9 yX9_layBetter yX9_layBetter, Cond.code yX9_layBetter cX9_layBetter 5 none, Cond.fieldLink RX9 188 "PocketKeeperModel" "betterOne" "I", Cond.fieldLink RX9 191 "PocketKeeperModel" "betterOther" "I", Cond.fieldLink RX9 194 "PocketKeeperModel" "betterLeast" "I", Cond.methodLink RX9 129 yX9_layLeast, Cond.instanceMethod yX9_layLeast, Cond.selects RX9 yX9_layLeast yX9_layLeast, Cond.code yX9_layLeast cX9_layLeast 3 (some .int), Cond.fieldLink RX9 35 "PocketKeeperModel" "leastFrom" "[I", Cond.constant RX9 115 (1048576), Cond.methodLink RX9 120 yX9_leastOf, Cond.instanceMethod yX9_leastOf, Cond.selects RX9 yX9_leastOf yX9_leastOf, Cond.code yX9_leastOf cX9_leastOf 9 (some .int), Cond.methodLink RX9 116 yX9_costBy, Cond.instanceMethod yX9_costBy, Cond.selects RX9 yX9_costBy yX9_costBy, Cond.code yX9_costBy cX9_costBy 4 (some .int)]
noncomputable def wsX9_digest_r5 : List Cond := [Cond.methodLink RX9 88 yX9_change, Cond.instanceMethod yX9_change, Cond.selects RX9 yX9_change yX9_change, Cond.code yX9_change cX9_change 4 none, Cond.methodLink RX9 135 yX9_layPlan, Cond.instanceMethod yX9_layPlan, Cond.selects RX9 yX9_layPlan yX9_layPlan, Cond.code yX9_layPlan cX9_layPlan 8 none, Cond.methodLink RX9 164 yX9_costNow, Cond.instanceMethod yX9_costNow, Cond.selects RX9 yX9_costNow yX9_costNow, Cond.code yX9_costNow cX9_costNow 2 (some .int), Cond.methodLink RX9 151 yX9_keptAll, Cond.instanceMethod yX9_keptAll, Cond.selects RX9 yX9_keptAll yX9_keptAll, Cond.code yX9_keptAll cX9_keptAll 6 (some .int), Cond.methodLink RX9 155 yX9_leastNow, Cond.instanceMethod yX9_leastNow, Cond.selects RX9 yX9_leastNow yX9_leastNow, Cond.code yX9_leastNow cX9_leastNow 1 (some .int), Cond.methodLink RX9 158 yX9_boundNow, Cond.instanceMethod yX9_boundNow, Cond.selects RX9 yX9_boundNow yX9_boundNow, Cond.code yX9_boundNow cX9_boundNow 3 (some .int)]
noncomputable def wsX9_digest_r6 : List Cond := [Cond.methodLink RX9 173 yX9_meanNow, Cond.instanceMethod yX9_meanNow, Cond.selects RX9 yX9_meanNow yX9_meanNow, Cond.code yX9_meanNow cX9_meanNow 1 (some .long), Cond.methodLink RX9 167 yJxe99ae_doubleToLongBits_ccdee, Cond.static yJxe99ae_doubleToLongBits_ccdee, Cond.initialized RJxe99ae, Cond.code yJxe99ae_doubleToLongBits_ccdee cJxe99ae_doubleToLongBits_ccdee 2 (some .long), Cond.methodLink RJxe99ae 134 ⟨"java/lang/Double", "doubleToRawLongBits", "(D)J"⟩, Cond.native ⟨"java/lang/Double", "doubleToRawLongBits", "(D)J"⟩, Cond.static ⟨"java/lang/Double", "doubleToRawLongBits", "(D)J"⟩, Cond.initialized "java/lang/Double", Cond.constantLong RJxe99ae 137 (9221120237041090560), Cond.methodLink RJxe99ae 122 yJxe99ae_isNaN_b9ae7, Cond.static yJxe99ae_isNaN_b9ae7, Cond.code yJxe99ae_isNaN_b9ae7 cJxe99ae_isNaN_b9ae7 2 (some .boolean), Cond.methodLink RX9 185 yX9_ratioNow, Cond.instanceMethod yX9_ratioNow, Cond.selects RX9 yX9_ratioNow yX9_ratioNow, Cond.code yX9_ratioNow cX9_ratioNow 1 (some .int), Cond.methodLink RX9 179 yJxf58ca_floatToIntBits_5c35a, Cond.static yJxf58ca_floatToIntBits_5c35a, Cond.initialized RJxf58ca, Cond.code yJxf58ca_floatToIntBits_5c35a cJxf58ca_floatToIntBits_5c35a 1 (some .int)]
noncomputable def wsX9_digest_r7 : List Cond := [Cond.methodLink RJxf58ca 74 ⟨"java/lang/Float", "floatToRawIntBits", "(F)I"⟩, Cond.native ⟨"java/lang/Float", "floatToRawIntBits", "(F)I"⟩, Cond.static ⟨"java/lang/Float", "floatToRawIntBits", "(F)I"⟩, Cond.initialized "java/lang/Float", Cond.constant RJxf58ca 77 (2143289344), Cond.methodLink RJxf58ca 59 yJxf58ca_isNaN_12338, Cond.static yJxf58ca_isNaN_12338, Cond.code yJxf58ca_isNaN_12338 cJxf58ca_isNaN_12338 1 (some .boolean), Cond.methodLink RX9 197 yX9_betterNow, Cond.instanceMethod yX9_betterNow, Cond.selects RX9 yX9_betterNow yX9_betterNow, Cond.code yX9_betterNow cX9_betterNow 2 (some .int), Cond.methodLink RX9 203 yX9_howMany, Cond.instanceMethod yX9_howMany, Cond.selects RX9 yX9_howMany yX9_howMany, Cond.code yX9_howMany cX9_howMany 2 (some .int), Cond.fieldLink RX9 72 "PocketKeeperModel" "changes" "I", Cond.fieldLink RX9 79 "PocketKeeperModel" "jobsRead" "I", Cond.methodLink RX9 200 yX9_breaksMany, Cond.instanceMethod yX9_breaksMany, Cond.selects RX9 yX9_breaksMany yX9_breaksMany, Cond.code yX9_breaksMany cX9_breaksMany 3 (some .int)]
noncomputable def wsX9_digest : List Cond := .code yX9_digest cX9_digest 3 (some .long) :: ((wsX9_digest_r1 ++ (wsX9_digest_r2 ++ (wsX9_digest_r3 ++ (wsX9_digest_r4 ++ (wsX9_digest_r5 ++ (wsX9_digest_r6 ++ wsX9_digest_r7)))))) ++ wsX90)
noncomputable def wsJ9_min_7cf53 : List Cond := .code yJ9_min_7cf53 cJ9_min_7cf53 2 (some .int) :: ([])
noncomputable def wsL_law_r1 : List Cond := [Cond.classLink RL 7 RX8, Cond.instantiable RX8 9, Cond.initialized RX8, Cond.classLink RL 10 RX9, Cond.instantiable RX9 23, Cond.initialized RX9, Cond.methodLink RL 9 yX8_init, Cond.instanceMethod yX8_init, Cond.code yX8_init cX8_init 1 none, Cond.methodLink RX8 3 objectInit, Cond.instanceMethod objectInit, Cond.code objectInit ⟨#[0xb1]⟩ 1 none, Cond.classLink RX8 9 RX4, Cond.instantiable RX4 2, Cond.initialized RX4, Cond.fieldLink RX8 12 "PocketKeeper" "page" "LPocketKeeper$Page;", Cond.classLink RX8 16 RX3, Cond.instantiable RX3 2, Cond.initialized RX3, Cond.fieldLink RX8 19 "PocketKeeper" "magazine" "LPocketKeeper$Magazine;", Cond.classLink RX8 23 RX6, Cond.instantiable RX6 6, Cond.initialized RX6, Cond.fieldLink RX8 26 "PocketKeeper" "row" "LPocketKeeper$Row;"]
noncomputable def wsL_law_r2 : List Cond := [Cond.classLink RX8 30 RX2, Cond.instantiable RX2 4, Cond.initialized RX2, Cond.fieldLink RX8 35 "PocketKeeper" "search" "LPocketKeeper$LeastSearch;", Cond.classLink RX8 39 RX7, Cond.instantiable RX7 5, Cond.initialized RX7, Cond.fieldLink RX8 42 "PocketKeeper" "bySoonest" "LPocketKeeper$Keeping;", Cond.classLink RX8 46 RX5, Cond.instantiable RX5 6, Cond.initialized RX5, Cond.fieldLink RX8 51 "PocketKeeper" "byPlan" "LPocketKeeper$Keeping;", Cond.classLink RX8 54 RX0, Cond.instantiable RX0 6, Cond.initialized RX0, Cond.fieldLink RX8 59 "PocketKeeper" "exchange" "LPocketKeeper$Exchange;", Cond.instanceMethod yX4_init, Cond.code yX4_init cX4_init 1 none, Cond.methodLink RX4 3 objectInit, Cond.arrayClass .char, Cond.fieldLink RX4 9 "PocketKeeper$Page" "letters" "[C", Cond.instanceMethod yX3_init, Cond.code yX3_init cX3_init 1 none, Cond.methodLink RX3 3 objectInit]
noncomputable def wsL_law_r3 : List Cond := [Cond.fieldLink RX3 9 "PocketKeeper$Magazine" "room" "I", Cond.instanceMethod yX6_init, Cond.code yX6_init cX6_init 1 none, Cond.methodLink RX6 3 objectInit, Cond.arrayClass .int, Cond.fieldLink RX6 9 "PocketKeeper$Row" "needsAsTold" "[I", Cond.fieldLink RX6 15 "PocketKeeper$Row" "numbers" "[I", Cond.fieldLink RX6 18 "PocketKeeper$Row" "broken" "[I", Cond.methodLink RX8 32 yX2_init, Cond.instanceMethod yX2_init, Cond.code yX2_init cX2_init 3 none, Cond.methodLink RX2 3 objectInit, Cond.fieldLink RX2 9 "PocketKeeper$LeastSearch" "worthKeeping" "[I", Cond.fieldLink RX2 15 "PocketKeeper$LeastSearch" "costBehind" "[I", Cond.fieldLink RX2 18 "PocketKeeper$LeastSearch" "row" "LPocketKeeper$Row;", Cond.fieldLink RX2 22 "PocketKeeper$LeastSearch" "magazine" "LPocketKeeper$Magazine;", Cond.methodLink RX8 41 yX7_init, Cond.instanceMethod yX7_init, Cond.code yX7_init cX7_init 3 none, Cond.methodLink RX7 3 yX1_init, Cond.instanceMethod yX1_init, Cond.initialized RX1, Cond.code yX1_init cX1_init 3 none, Cond.methodLink RX1 3 objectInit]
noncomputable def wsL_law_r4 : List Cond := [Cond.fieldLink RX1 9 "PocketKeeper$Keeping" "inside" "[I", Cond.fieldLink RX1 15 "PocketKeeper$Keeping" "coming" "[I", Cond.fieldLink RX1 18 "PocketKeeper$Keeping" "going" "[I", Cond.fieldLink RX1 21 "PocketKeeper$Keeping" "row" "LPocketKeeper$Row;", Cond.fieldLink RX1 25 "PocketKeeper$Keeping" "magazine" "LPocketKeeper$Magazine;", Cond.methodLink RX8 48 yX5_init, Cond.instanceMethod yX5_init, Cond.code yX5_init cX5_init 4 none, Cond.fieldLink RX5 7 "PocketKeeper$PlanKeeping" "search" "LPocketKeeper$LeastSearch;", Cond.methodLink RX5 1 yX1_init, Cond.methodLink RX8 56 yX0_init, Cond.instanceMethod yX0_init, Cond.code yX0_init cX0_init 3 none, Cond.methodLink RX0 1 objectInit, Cond.fieldLink RX0 7 "PocketKeeper$Exchange" "row" "LPocketKeeper$Row;", Cond.fieldLink RX0 13 "PocketKeeper$Exchange" "search" "LPocketKeeper$LeastSearch;", Cond.methodLink RL 12 yX9_init, Cond.instanceMethod yX9_init, Cond.code yX9_init cX9_init 1 none, Cond.methodLink RX9 1 objectInit, Cond.fieldLink RX9 7 "PocketKeeperModel" "page" "[I", Cond.fieldLink RX9 13 "PocketKeeperModel" "needsOf" "[I", Cond.fieldLink RX9 16 "PocketKeeperModel" "jobAt" "[I", Cond.fieldLink RX9 19 "PocketKeeperModel" "breaksAt" "[I"]
noncomputable def wsL_law_r5 : List Cond := [Cond.fieldLink RX9 22 "PocketKeeperModel" "pocketsNow" "I", Cond.fieldLink RX9 26 "PocketKeeperModel" "newNeeds" "[I", Cond.fieldLink RX9 29 "PocketKeeperModel" "aheadAt" "[I", Cond.fieldLink RX9 32 "PocketKeeperModel" "thereAt" "[I", Cond.fieldLink RX9 35 "PocketKeeperModel" "leastFrom" "[I", Cond.fieldLink RX9 38 "PocketKeeperModel" "sizes" "[I", Cond.methodLink RL 13 yX8_letter, Cond.instanceMethod yX8_letter, Cond.selects RX8 yX8_letter yX8_letter, Cond.code yX8_letter cX8_letter 2 (some .int), Cond.methodLink RX8 63 yX4_isFull, Cond.instanceMethod yX4_isFull, Cond.selects RX4 yX4_isFull yX4_isFull, Cond.code yX4_isFull cX4_isFull 1 (some .boolean), Cond.fieldLink RX4 15 "PocketKeeper$Page" "length" "I", Cond.methodLink RX8 67 yX4_write, Cond.instanceMethod yX4_write, Cond.selects RX4 yX4_write yX4_write, Cond.code yX4_write cX4_write 2 none, Cond.methodLink RX4 19 yX4_isFull, Cond.methodLink RX8 71 yX4_length, Cond.instanceMethod yX4_length, Cond.selects RX4 yX4_length yX4_length, Cond.code yX4_length cX4_length 1 (some .int)]
noncomputable def wsL_law_r6 : List Cond := [Cond.methodLink RL 17 yX9_letter, Cond.instanceMethod yX9_letter, Cond.selects RX9 yX9_letter yX9_letter, Cond.code yX9_letter cX9_letter 2 (some .int), Cond.fieldLink RX9 52 "PocketKeeperModel" "pageLength" "I", Cond.methodLink RX9 48 yX9_within, Cond.static yX9_within, Cond.code yX9_within cX9_within 3 (some .boolean), Cond.methodLink RL 18 yX8_blank, Cond.instanceMethod yX8_blank, Cond.selects RX8 yX8_blank yX8_blank, Cond.code yX8_blank cX8_blank 2 (some .int), Cond.methodLink RX8 75 yX4_wipe, Cond.instanceMethod yX4_wipe, Cond.selects RX4 yX4_wipe yX4_wipe, Cond.code yX4_wipe cX4_wipe 1 none, Cond.methodLink RL 22 yX9_blank, Cond.instanceMethod yX9_blank, Cond.selects RX9 yX9_blank yX9_blank, Cond.code yX9_blank cX9_blank 2 (some .int), Cond.methodLink RL 23 yX8_fault, Cond.instanceMethod yX8_fault, Cond.selects RX8 yX8_fault yX8_fault, Cond.code yX8_fault cX8_fault 1 (some .int)]
noncomputable def wsL_law_r7 : List Cond := [Cond.methodLink RX8 78 yX4_firstFault, Cond.instanceMethod yX4_firstFault, Cond.selects RX4 yX4_firstFault yX4_firstFault, Cond.code yX4_firstFault cX4_firstFault 5 (some .int), Cond.methodLink RL 26 yX9_fault, Cond.instanceMethod yX9_fault, Cond.selects RX9 yX9_fault yX9_fault, Cond.code yX9_fault cX9_fault 1 (some .int), Cond.methodLink RX9 65 yX9_goAlong, Cond.instanceMethod yX9_goAlong, Cond.selects RX9 yX9_goAlong yX9_goAlong, Cond.code yX9_goAlong cX9_goAlong 2 (some .int), Cond.fieldLink RX9 58 "PocketKeeperModel" "newJobs" "I", Cond.fieldLink RX9 55 "PocketKeeperModel" "newNow" "I", Cond.methodLink RX9 61 yX9_takes, Cond.instanceMethod yX9_takes, Cond.selects RX9 yX9_takes yX9_takes, Cond.code yX9_takes cX9_takes 3 (some .boolean), Cond.methodLink RL 27 yX8_jobs, Cond.instanceMethod yX8_jobs, Cond.selects RX8 yX8_jobs yX8_jobs, Cond.code yX8_jobs cX8_jobs 1 (some .int), Cond.methodLink RX8 81 yX6_read, Cond.instanceMethod yX6_read]
noncomputable def wsL_law_r8 : List Cond := [Cond.selects RX6 yX6_read yX6_read, Cond.code yX6_read cX6_read 4 (some .boolean), Cond.fieldLink RX6 21 "PocketKeeper$Row" "size" "I", Cond.fieldLink RX6 28 "PocketKeeper$Row" "reads" "I", Cond.methodLink RX6 31 yX4_isWhole, Cond.instanceMethod yX4_isWhole, Cond.selects RX4 yX4_isWhole yX4_isWhole, Cond.code yX4_isWhole cX4_isWhole 1 (some .boolean), Cond.methodLink RX4 23 yX4_firstFault, Cond.methodLink RX6 37 yX6_clear, Cond.instanceMethod yX6_clear, Cond.selects RX6 yX6_clear yX6_clear, Cond.code yX6_clear cX6_clear 2 none, Cond.fieldLink RX6 25 "PocketKeeper$Row" "changes" "I", Cond.methodLink RX6 40 yX4_length, Cond.methodLink RX6 44 yX4_codeAt, Cond.instanceMethod yX4_codeAt, Cond.selects RX4 yX4_codeAt yX4_codeAt, Cond.code yX4_codeAt cX4_codeAt 2 (some .int), Cond.methodLink RX8 85 yX8_forgetKeepings, Cond.instanceMethod yX8_forgetKeepings, Cond.selects RX8 yX8_forgetKeepings yX8_forgetKeepings, Cond.code yX8_forgetKeepings cX8_forgetKeepings 1 none, Cond.fieldLink RX8 254 "PocketKeeper" "keepingsStand" "Z"]
noncomputable def wsL_law_r9 : List Cond := [Cond.fieldLink RX8 258 "PocketKeeper" "exchangeStands" "Z", Cond.methodLink RX8 88 yX6_size, Cond.instanceMethod yX6_size, Cond.selects RX6 yX6_size yX6_size, Cond.code yX6_size cX6_size 1 (some .int), Cond.methodLink RL 30 yX9_jobs, Cond.instanceMethod yX9_jobs, Cond.selects RX9 yX9_jobs yX9_jobs, Cond.code yX9_jobs cX9_jobs 2 (some .int), Cond.fieldLink RX9 69 "PocketKeeperModel" "jobs" "I", Cond.fieldLink RX9 72 "PocketKeeperModel" "changes" "I", Cond.fieldLink RX9 75 "PocketKeeperModel" "isLaid" "Z", Cond.fieldLink RX9 79 "PocketKeeperModel" "jobsRead" "I", Cond.methodLink RL 31 yX8_big, Cond.instanceMethod yX8_big, Cond.selects RX8 yX8_big yX8_big, Cond.code yX8_big cX8_big 4 (some .int), Cond.methodLink RX8 91 yX8_isTool, Cond.static yX8_isTool, Cond.code yX8_isTool cX8_isTool 1 (some .boolean), Cond.methodLink RX8 95 yX3_bigTools, Cond.instanceMethod yX3_bigTools, Cond.selects RX3 yX3_bigTools yX3_bigTools, Cond.code yX3_bigTools cX3_bigTools 1 (some .int)]
noncomputable def wsL_law_r10 : List Cond := [Cond.fieldLink RX3 15 "PocketKeeper$Magazine" "bigTools" "I", Cond.methodLink RX8 98 yX8_hasTool, Cond.static yX8_hasTool, Cond.code yX8_hasTool cX8_hasTool 2 (some .boolean), Cond.methodLink RX8 102 yX3_setBig, Cond.instanceMethod yX3_setBig, Cond.selects RX3 yX3_setBig yX3_setBig, Cond.code yX3_setBig cX3_setBig 3 none, Cond.static yX8_withTool, Cond.code yX8_withTool cX8_withTool 3 (some .int), Cond.methodLink RL 35 yX9_big, Cond.instanceMethod yX9_big, Cond.selects RX9 yX9_big yX9_big, Cond.code yX9_big cX9_big 4 (some .int), Cond.fieldLink RX9 45 "PocketKeeperModel" "bigs" "I", Cond.methodLink RX9 82 yX9_isTool, Cond.static yX9_isTool, Cond.code yX9_isTool cX9_isTool 1 (some .boolean), Cond.methodLink RL 36 yX8_pockets, Cond.instanceMethod yX8_pockets, Cond.selects RX8 yX8_pockets yX8_pockets, Cond.code yX8_pockets cX8_pockets 3 (some .int), Cond.methodLink RX8 106 yX3_room, Cond.instanceMethod yX3_room]
noncomputable def wsL_law_r11 : List Cond := [Cond.selects RX3 yX3_room yX3_room, Cond.code yX3_room cX3_room 1 (some .int), Cond.methodLink RX8 109 yX3_setRoom, Cond.instanceMethod yX3_setRoom, Cond.selects RX3 yX3_setRoom yX3_setRoom, Cond.code yX3_setRoom cX3_setRoom 2 none, Cond.methodLink RL 39 yX9_pockets, Cond.instanceMethod yX9_pockets, Cond.selects RX9 yX9_pockets yX9_pockets, Cond.code yX9_pockets cX9_pockets 3 (some .int), Cond.methodLink RL 40 yX8_breaks, Cond.instanceMethod yX8_breaks, Cond.selects RX8 yX8_breaks yX8_breaks, Cond.code yX8_breaks cX8_breaks 5 (some .int), Cond.methodLink RX8 112 yX6_isPlace, Cond.instanceMethod yX6_isPlace, Cond.selects RX6 yX6_isPlace yX6_isPlace, Cond.code yX6_isPlace cX6_isPlace 2 (some .boolean), Cond.methodLink RX8 115 yX6_broken, Cond.instanceMethod yX6_broken, Cond.selects RX6 yX6_broken yX6_broken, Cond.code yX6_broken cX6_broken 2 (some .int), Cond.methodLink RX8 119 yX6_setBreak, Cond.instanceMethod yX6_setBreak]
noncomputable def wsL_law_r12 : List Cond := [Cond.selects RX6 yX6_setBreak yX6_setBreak, Cond.code yX6_setBreak cX6_setBreak 4 none, Cond.methodLink RL 44 yX9_breaks, Cond.instanceMethod yX9_breaks, Cond.selects RX9 yX9_breaks yX9_breaks, Cond.code yX9_breaks cX9_breaks 5 (some .int), Cond.methodLink RX9 85 yX9_isPlace, Cond.instanceMethod yX9_isPlace, Cond.selects RX9 yX9_isPlace yX9_isPlace, Cond.code yX9_isPlace cX9_isPlace 2 (some .boolean), Cond.methodLink RL 45 yX8_swap, Cond.instanceMethod yX8_swap, Cond.selects RX8 yX8_swap yX8_swap, Cond.code yX8_swap cX8_swap 3 (some .int), Cond.methodLink RX8 123 yX8_changeOrder, Cond.instanceMethod yX8_changeOrder, Cond.selects RX8 yX8_changeOrder yX8_changeOrder, Cond.code yX8_changeOrder cX8_changeOrder 3 none, Cond.methodLink RX8 246 yX6_exchange, Cond.instanceMethod yX6_exchange, Cond.selects RX6 yX6_exchange yX6_exchange, Cond.code yX6_exchange cX6_exchange 4 none, Cond.methodLink RX8 248 yX6_countChange, Cond.instanceMethod yX6_countChange]
noncomputable def wsL_law_r13 : List Cond := [Cond.selects RX6 yX6_countChange yX6_countChange, Cond.code yX6_countChange cX6_countChange 1 none, Cond.methodLink RX8 127 yX6_changes, Cond.instanceMethod yX6_changes, Cond.selects RX6 yX6_changes yX6_changes, Cond.code yX6_changes cX6_changes 1 (some .int), Cond.methodLink RL 49 yX9_swap, Cond.instanceMethod yX9_swap, Cond.selects RX9 yX9_swap yX9_swap, Cond.code yX9_swap cX9_swap 3 (some .int), Cond.methodLink RX9 88 yX9_change, Cond.instanceMethod yX9_change, Cond.selects RX9 yX9_change yX9_change, Cond.code yX9_change cX9_change 4 none, Cond.methodLink RL 50 yX8_as, Cond.instanceMethod yX8_as, Cond.selects RX8 yX8_as yX8_as, Cond.code yX8_as cX8_as 4 (some .int), Cond.methodLink RL 53 yX9_as, Cond.instanceMethod yX9_as, Cond.selects RX9 yX9_as yX9_as, Cond.code yX9_as cX9_as 3 (some .int), Cond.methodLink RX9 92 yX9_has, Cond.static yX9_has]
noncomputable def wsL_law_r14 : List Cond := [Cond.code yX9_has cX9_has 2 (some .boolean), Cond.methodLink RL 54 yX8_job, Cond.instanceMethod yX8_job, Cond.selects RX8 yX8_job yX8_job, Cond.code yX8_job cX8_job 3 (some .int), Cond.methodLink RX8 130 yX6_needs, Cond.instanceMethod yX6_needs, Cond.selects RX6 yX6_needs yX6_needs, Cond.code yX6_needs cX6_needs 2 (some .int), Cond.methodLink RX8 133 yX6_number, Cond.instanceMethod yX6_number, Cond.selects RX6 yX6_number yX6_number, Cond.code yX6_number cX6_number 2 (some .int), Cond.methodLink RL 57 yX9_job, Cond.instanceMethod yX9_job, Cond.selects RX9 yX9_job yX9_job, Cond.code yX9_job cX9_job 3 (some .int), Cond.methodLink RX9 99 yX9_jobNow, Cond.instanceMethod yX9_jobNow, Cond.selects RX9 yX9_jobNow yX9_jobNow, Cond.code yX9_jobNow cX9_jobNow 3 (some .int), Cond.methodLink RX9 96 yX9_needs, Cond.instanceMethod yX9_needs, Cond.selects RX9 yX9_needs yX9_needs]
noncomputable def wsL_law_r15 : List Cond := [Cond.code yX9_needs cX9_needs 2 (some .int), Cond.methodLink RL 58 yX8_next, Cond.instanceMethod yX8_next, Cond.selects RX8 yX8_next yX8_next, Cond.code yX8_next cX8_next 3 (some .int), Cond.methodLink RX8 136 yX6_nextPlace, Cond.instanceMethod yX6_nextPlace, Cond.selects RX6 yX6_nextPlace yX6_nextPlace, Cond.code yX6_nextPlace cX6_nextPlace 4 (some .int), Cond.methodLink RX6 56 yX6_needs, Cond.methodLink RL 61 yX9_next, Cond.instanceMethod yX9_next, Cond.selects RX9 yX9_next yX9_next, Cond.code yX9_next cX9_next 3 (some .int), Cond.methodLink RX9 103 yX9_nextOf, Cond.instanceMethod yX9_nextOf, Cond.selects RX9 yX9_nextOf yX9_nextOf, Cond.code yX9_nextOf cX9_nextOf 4 (some .int), Cond.methodLink RL 62 yX8_soonest, Cond.instanceMethod yX8_soonest, Cond.selects RX8 yX8_soonest yX8_soonest, Cond.code yX8_soonest cX8_soonest 4 (some .int), Cond.methodLink RX8 140 yX8_refusalOfKeeping, Cond.instanceMethod yX8_refusalOfKeeping]
noncomputable def wsL_law_r16 : List Cond := [Cond.selects RX8 yX8_refusalOfKeeping yX8_refusalOfKeeping, Cond.code yX8_refusalOfKeeping cX8_refusalOfKeeping 3 (some .int), Cond.methodLink RX8 189 yX8_isTooBig, Cond.instanceMethod yX8_isTooBig, Cond.selects RX8 yX8_isTooBig yX8_isTooBig, Cond.code yX8_isTooBig cX8_isTooBig 2 (some .boolean), Cond.methodLink RX8 251 yX3_holds, Cond.instanceMethod yX3_holds, Cond.selects RX3 yX3_holds yX3_holds, Cond.code yX3_holds cX3_holds 2 (some .boolean), Cond.methodLink RX3 28 yX3_sizeOf, Cond.instanceMethod yX3_sizeOf, Cond.selects RX3 yX3_sizeOf yX3_sizeOf, Cond.code yX3_sizeOf cX3_sizeOf 2 (some .int), Cond.methodLink RX3 22 yJ6_bitCount_0f7a4, Cond.static yJ6_bitCount_0f7a4, Cond.initialized RJ6, Cond.code yJ6_bitCount_0f7a4 cJ6_bitCount_0f7a4 1 (some .int), Cond.constant RJ6 265 (1431655765), Cond.constant RJ6 266 (858993459), Cond.constant RJ6 267 (252645135), Cond.methodLink RX8 143 yX8_standKeepings, Cond.instanceMethod yX8_standKeepings, Cond.selects RX8 yX8_standKeepings yX8_standKeepings]
noncomputable def wsL_law_r17 : List Cond := [Cond.code yX8_standKeepings cX8_standKeepings 1 none, Cond.methodLink RX8 261 ⟨"PocketKeeper$Keeping", "keepAll", "()V"⟩, Cond.sameMethod "PocketKeeper$Keeping" "PocketKeeper$Keeping" "keepAll" "()V", Cond.selects RX5 ⟨"PocketKeeper$Keeping", "keepAll", "()V"⟩ yX1_keepAll, Cond.instanceMethod yX1_keepAll, Cond.code yX1_keepAll cX1_keepAll 4 none, Cond.methodLink RX1 29 yX6_size, Cond.methodLink RX1 35 yX6_needs, Cond.methodLink RX1 39 ⟨"PocketKeeper$Keeping", "staying", "(II)I"⟩, Cond.sameMethod "PocketKeeper$Keeping" "PocketKeeper$Keeping" "staying" "(II)I", Cond.selects RX5 ⟨"PocketKeeper$Keeping", "staying", "(II)I"⟩ yX5_staying, Cond.instanceMethod yX5_staying, Cond.code yX5_staying cX5_staying 3 (some .int), Cond.methodLink RX5 13 yX2_leastSetAtLeastCost, Cond.instanceMethod yX2_leastSetAtLeastCost, Cond.selects RX2 yX2_leastSetAtLeastCost yX2_leastSetAtLeastCost, Cond.code yX2_leastSetAtLeastCost cX2_leastSetAtLeastCost 7 (some .int), Cond.methodLink RX2 48 yX2_cell, Cond.static yX2_cell, Cond.code yX2_cell cX2_cell 2 (some .int), Cond.methodLink RX2 52 yX2_subsets, Cond.static yX2_subsets, Cond.code yX2_subsets cX2_subsets 1 (some .int), Cond.methodLink RX2 83 yJ6_bitCount_0f7a4]
noncomputable def wsL_law_r18 : List Cond := [Cond.methodLink RX2 55 yX2_subsetBehind, Cond.static yX2_subsetBehind, Cond.code yX2_subsetBehind cX2_subsetBehind 2 (some .int), Cond.selects RX7 ⟨"PocketKeeper$Keeping", "staying", "(II)I"⟩ yX7_staying, Cond.instanceMethod yX7_staying, Cond.code yX7_staying cX7_staying 5 (some .int), Cond.fieldLink RX7 9 "PocketKeeper$SoonestKeeping" "magazine" "LPocketKeeper$Magazine;", Cond.sameField "PocketKeeper$SoonestKeeping" "PocketKeeper$Keeping" "magazine" "LPocketKeeper$Magazine;", Cond.fieldLink RX7 15 "PocketKeeper$SoonestKeeping" "row" "LPocketKeeper$Row;", Cond.sameField "PocketKeeper$SoonestKeeping" "PocketKeeper$Keeping" "row" "LPocketKeeper$Row;", Cond.methodLink RX7 19 yX6_needs, Cond.methodLink RX7 25 yX3_holds, Cond.methodLink RX7 31 yX7_firstToGo, Cond.instanceMethod yX7_firstToGo, Cond.selects RX7 yX7_firstToGo yX7_firstToGo, Cond.code yX7_firstToGo cX7_firstToGo 6 (some .int), Cond.methodLink RX7 39 yX7_rank, Cond.instanceMethod yX7_rank, Cond.selects RX7 yX7_rank yX7_rank, Cond.code yX7_rank cX7_rank 5 (some .int), Cond.methodLink RX7 42 yX6_nextPlace, Cond.methodLink RX7 45 yX3_bigTools, Cond.methodLink RX1 43 yX6_broken, Cond.selects RX7 ⟨"PocketKeeper$Keeping", "keepAll", "()V"⟩ yX1_keepAll]
noncomputable def wsL_law_r19 : List Cond := [Cond.methodLink RX8 264 yX2_least, Cond.instanceMethod yX2_least, Cond.selects RX2 yX2_least yX2_least, Cond.code yX2_least cX2_least 2 (some .int), Cond.methodLink RX2 26 yX2_findWorthKeeping, Cond.instanceMethod yX2_findWorthKeeping, Cond.selects RX2 yX2_findWorthKeeping yX2_findWorthKeeping, Cond.code yX2_findWorthKeeping cX2_findWorthKeeping 4 none, Cond.methodLink RX2 29 yX6_size, Cond.methodLink RX2 39 yX6_needs, Cond.methodLink RX2 58 yX6_broken, Cond.methodLink RX2 35 yX2_fillPlace, Cond.instanceMethod yX2_fillPlace, Cond.selects RX2 yX2_fillPlace yX2_fillPlace, Cond.code yX2_fillPlace cX2_fillPlace 4 none, Cond.methodLink RX2 61 yX3_holds, Cond.methodLink RX2 65 yX2_costIfKept, Cond.instanceMethod yX2_costIfKept, Cond.selects RX2 yX2_costIfKept yX2_costIfKept, Cond.code yX2_costIfKept cX2_costIfKept 5 (some .int), Cond.methodLink RX2 43 yX3_sizeOf, Cond.methodLink RX2 68 yX2_costOfFewer, Cond.instanceMethod yX2_costOfFewer, Cond.selects RX2 yX2_costOfFewer yX2_costOfFewer]
noncomputable def wsL_law_r20 : List Cond := [Cond.code yX2_costOfFewer cX2_costOfFewer 5 (some .int), Cond.constant RX2 73 (2147483647), Cond.methodLink RX2 78 Lib.Math.min.name, Cond.static Lib.Math.min.name, Cond.initialized "java/lang/Math", Cond.code Lib.Math.min.name Lib.Math.min.code 2 (some .int), Cond.methodLink RX8 146 yX8_numberOfKeeping, Cond.instanceMethod yX8_numberOfKeeping, Cond.selects RX8 yX8_numberOfKeeping yX8_numberOfKeeping, Cond.code yX8_numberOfKeeping cX8_numberOfKeeping 4 (some .int), Cond.methodLink RX8 215 ⟨"PocketKeeper$Keeping", "inside", "(I)I"⟩, Cond.sameMethod "PocketKeeper$Keeping" "PocketKeeper$Keeping" "inside" "(I)I", Cond.selects RX5 ⟨"PocketKeeper$Keeping", "inside", "(I)I"⟩ yX1_inside, Cond.instanceMethod yX1_inside, Cond.code yX1_inside cX1_inside 2 (some .int), Cond.selects RX7 ⟨"PocketKeeper$Keeping", "inside", "(I)I"⟩ yX1_inside, Cond.methodLink RX8 220 ⟨"PocketKeeper$Keeping", "coming", "(I)I"⟩, Cond.sameMethod "PocketKeeper$Keeping" "PocketKeeper$Keeping" "coming" "(I)I", Cond.selects RX5 ⟨"PocketKeeper$Keeping", "coming", "(I)I"⟩ yX1_coming, Cond.instanceMethod yX1_coming, Cond.code yX1_coming cX1_coming 2 (some .int), Cond.selects RX7 ⟨"PocketKeeper$Keeping", "coming", "(I)I"⟩ yX1_coming, Cond.methodLink RX8 223 ⟨"PocketKeeper$Keeping", "going", "(I)I"⟩, Cond.sameMethod "PocketKeeper$Keeping" "PocketKeeper$Keeping" "going" "(I)I"]
noncomputable def wsL_law_r21 : List Cond := [Cond.selects RX5 ⟨"PocketKeeper$Keeping", "going", "(I)I"⟩ yX1_going, Cond.instanceMethod yX1_going, Cond.code yX1_going cX1_going 2 (some .int), Cond.selects RX7 ⟨"PocketKeeper$Keeping", "going", "(I)I"⟩ yX1_going, Cond.methodLink RX8 226 yX3_sizeOf, Cond.methodLink RL 65 yX9_soonest, Cond.instanceMethod yX9_soonest, Cond.selects RX9 yX9_soonest yX9_soonest, Cond.code yX9_soonest cX9_soonest 4 (some .int), Cond.methodLink RX9 145 yX9_refused, Cond.instanceMethod yX9_refused, Cond.selects RX9 yX9_refused yX9_refused, Cond.code yX9_refused cX9_refused 3 (some .int), Cond.methodLink RX9 141 yX9_isTooBig, Cond.instanceMethod yX9_isTooBig, Cond.selects RX9 yX9_isTooBig yX9_isTooBig, Cond.code yX9_isTooBig cX9_isTooBig 3 (some .boolean), Cond.methodLink RX9 106 yX9_sizeOf, Cond.instanceMethod yX9_sizeOf, Cond.selects RX9 yX9_sizeOf yX9_sizeOf, Cond.code yX9_sizeOf cX9_sizeOf 2 (some .int), Cond.methodLink RX9 41 yX9_ones, Cond.static yX9_ones, Cond.code yX9_ones cX9_ones 3 (some .int)]
noncomputable def wsL_law_r22 : List Cond := [Cond.methodLink RX9 148 yX9_keptNow, Cond.instanceMethod yX9_keptNow, Cond.selects RX9 yX9_keptNow yX9_keptNow, Cond.code yX9_keptNow cX9_keptNow 4 (some .int), Cond.methodLink RX9 138 yX9_layAll, Cond.instanceMethod yX9_layAll, Cond.selects RX9 yX9_layAll yX9_layAll, Cond.code yX9_layAll cX9_layAll 2 none, Cond.fieldLink RX9 132 "PocketKeeperModel" "leastAll" "I", Cond.methodLink RX9 123 yX9_laySoonest, Cond.instanceMethod yX9_laySoonest, Cond.selects RX9 yX9_laySoonest yX9_laySoonest, Cond.code yX9_laySoonest cX9_laySoonest 3 none, Cond.methodLink RX9 112 yX9_goesFirst, Cond.instanceMethod yX9_goesFirst, Cond.selects RX9 yX9_goesFirst yX9_goesFirst, Cond.code yX9_goesFirst cX9_goesFirst 7 (some .int), Cond.methodLink RX9 109 yX9_late, Cond.instanceMethod yX9_late, Cond.selects RX9 yX9_late yX9_late, Cond.code yX9_late cX9_late 4 (some .int), Cond.methodLink RX9 126 yX9_layBetter, Cond.instanceMethod yX9_layBetter, Cond.selects RX9 yX9_layBetter yX9_layBetter]
noncomputable def wsL_law_r23 : List Cond := [Cond.code yX9_layBetter cX9_layBetter 5 none, Cond.fieldLink RX9 188 "PocketKeeperModel" "betterOne" "I", Cond.fieldLink RX9 191 "PocketKeeperModel" "betterOther" "I", Cond.fieldLink RX9 194 "PocketKeeperModel" "betterLeast" "I", Cond.methodLink RX9 129 yX9_layLeast, Cond.instanceMethod yX9_layLeast, Cond.selects RX9 yX9_layLeast yX9_layLeast, Cond.code yX9_layLeast cX9_layLeast 3 (some .int), Cond.constant RX9 115 (1048576), Cond.methodLink RX9 120 yX9_leastOf, Cond.instanceMethod yX9_leastOf, Cond.selects RX9 yX9_leastOf yX9_leastOf, Cond.code yX9_leastOf cX9_leastOf 9 (some .int), Cond.methodLink RX9 116 yX9_costBy, Cond.instanceMethod yX9_costBy, Cond.selects RX9 yX9_costBy yX9_costBy, Cond.code yX9_costBy cX9_costBy 4 (some .int), Cond.methodLink RX9 135 yX9_layPlan, Cond.instanceMethod yX9_layPlan, Cond.selects RX9 yX9_layPlan yX9_layPlan, Cond.code yX9_layPlan cX9_layPlan 8 none, Cond.methodLink RL 66 yX8_plan, Cond.instanceMethod yX8_plan, Cond.selects RX8 yX8_plan yX8_plan]
noncomputable def wsL_law_r24 : List Cond := [Cond.code yX8_plan cX8_plan 4 (some .int), Cond.methodLink RL 69 yX9_plan, Cond.instanceMethod yX9_plan, Cond.selects RX9 yX9_plan yX9_plan, Cond.code yX9_plan cX9_plan 4 (some .int), Cond.methodLink RL 70 yX8_cost, Cond.instanceMethod yX8_cost, Cond.selects RX8 yX8_cost yX8_cost, Cond.code yX8_cost cX8_cost 2 (some .int), Cond.methodLink RX8 150 yX8_canKeep, Cond.instanceMethod yX8_canKeep, Cond.selects RX8 yX8_canKeep yX8_canKeep, Cond.code yX8_canKeep cX8_canKeep 1 (some .boolean), Cond.methodLink RX8 153 yX8_numberOfCost, Cond.instanceMethod yX8_numberOfCost, Cond.selects RX8 yX8_numberOfCost yX8_numberOfCost, Cond.code yX8_numberOfCost cX8_numberOfCost 2 (some .int), Cond.methodLink RX8 229 ⟨"PocketKeeper$Keeping", "totalCost", "()I"⟩, Cond.sameMethod "PocketKeeper$Keeping" "PocketKeeper$Keeping" "totalCost" "()I", Cond.selects RX5 ⟨"PocketKeeper$Keeping", "totalCost", "()I"⟩ yX1_totalCost, Cond.instanceMethod yX1_totalCost, Cond.code yX1_totalCost cX1_totalCost 3 (some .int), Cond.methodLink RX1 46 yX3_sizeOf, Cond.selects RX7 ⟨"PocketKeeper$Keeping", "totalCost", "()I"⟩ yX1_totalCost]
noncomputable def wsL_law_r25 : List Cond := [Cond.methodLink RX8 232 yX6_allNeeds, Cond.instanceMethod yX6_allNeeds, Cond.selects RX6 yX6_allNeeds yX6_allNeeds, Cond.code yX6_allNeeds cX6_allNeeds 3 (some .int), Cond.methodLink RX8 235 ⟨"PocketKeeper$Keeping", "totalComing", "()I"⟩, Cond.sameMethod "PocketKeeper$Keeping" "PocketKeeper$Keeping" "totalComing" "()I", Cond.selects RX5 ⟨"PocketKeeper$Keeping", "totalComing", "()I"⟩ yX1_totalComing, Cond.instanceMethod yX1_totalComing, Cond.code yX1_totalComing cX1_totalComing 3 (some .int), Cond.methodLink RX1 51 yJ6_bitCount_0f7a4, Cond.selects RX7 ⟨"PocketKeeper$Keeping", "totalComing", "()I"⟩ yX1_totalComing, Cond.methodLink RL 73 yX9_cost, Cond.instanceMethod yX9_cost, Cond.selects RX9 yX9_cost yX9_cost, Cond.code yX9_cost cX9_cost 2 (some .int), Cond.methodLink RX9 161 yX9_isReady, Cond.instanceMethod yX9_isReady, Cond.selects RX9 yX9_isReady yX9_isReady, Cond.code yX9_isReady cX9_isReady 1 (some .boolean), Cond.methodLink RX9 164 yX9_costNow, Cond.instanceMethod yX9_costNow, Cond.selects RX9 yX9_costNow yX9_costNow, Cond.code yX9_costNow cX9_costNow 2 (some .int), Cond.methodLink RX9 151 yX9_keptAll]
noncomputable def wsL_law_r26 : List Cond := [Cond.instanceMethod yX9_keptAll, Cond.selects RX9 yX9_keptAll yX9_keptAll, Cond.code yX9_keptAll cX9_keptAll 6 (some .int), Cond.methodLink RX9 155 yX9_leastNow, Cond.instanceMethod yX9_leastNow, Cond.selects RX9 yX9_leastNow yX9_leastNow, Cond.code yX9_leastNow cX9_leastNow 1 (some .int), Cond.methodLink RX9 158 yX9_boundNow, Cond.instanceMethod yX9_boundNow, Cond.selects RX9 yX9_boundNow yX9_boundNow, Cond.code yX9_boundNow cX9_boundNow 3 (some .int), Cond.methodLink RL 74 yX8_mean, Cond.instanceMethod yX8_mean, Cond.selects RX8 yX8_mean yX8_mean, Cond.code yX8_mean cX8_mean 1 (some .long), Cond.constantLong RX8 156 (-1003), Cond.methodLink RX8 158 yX8_bitsOfMean, Cond.instanceMethod yX8_bitsOfMean, Cond.selects RX8 yX8_bitsOfMean yX8_bitsOfMean, Cond.code yX8_bitsOfMean cX8_bitsOfMean 1 (some .long), Cond.methodLink RX8 238 yX8_bitsOfDouble, Cond.static yX8_bitsOfDouble, Cond.code yX8_bitsOfDouble cX8_bitsOfDouble 7 (some .long), Cond.constantLong RX8 270 (1023)]
noncomputable def wsL_law_r27 : List Cond := [Cond.constantDouble RX8 272 (4611686018427387904), Cond.constantDouble RX8 274 (4841369599423283200), Cond.methodLink RL 78 yX9_mean, Cond.instanceMethod yX9_mean, Cond.selects RX9 yX9_mean yX9_mean, Cond.code yX9_mean cX9_mean 1 (some .long), Cond.constantLong RX9 177 (-1003), Cond.methodLink RX9 173 yX9_meanNow, Cond.instanceMethod yX9_meanNow, Cond.selects RX9 yX9_meanNow yX9_meanNow, Cond.code yX9_meanNow cX9_meanNow 1 (some .long), Cond.methodLink RX9 167 yJxe99ae_doubleToLongBits_ccdee, Cond.static yJxe99ae_doubleToLongBits_ccdee, Cond.initialized RJxe99ae, Cond.code yJxe99ae_doubleToLongBits_ccdee cJxe99ae_doubleToLongBits_ccdee 2 (some .long), Cond.methodLink RJxe99ae 134 ⟨"java/lang/Double", "doubleToRawLongBits", "(D)J"⟩, Cond.native ⟨"java/lang/Double", "doubleToRawLongBits", "(D)J"⟩, Cond.static ⟨"java/lang/Double", "doubleToRawLongBits", "(D)J"⟩, Cond.initialized "java/lang/Double", Cond.constantLong RJxe99ae 137 (9221120237041090560), Cond.methodLink RJxe99ae 122 yJxe99ae_isNaN_b9ae7, Cond.static yJxe99ae_isNaN_b9ae7, Cond.code yJxe99ae_isNaN_b9ae7 cJxe99ae_isNaN_b9ae7 2 (some .boolean), Cond.methodLink RL 79 yX8_ratio]
noncomputable def wsL_law_r28 : List Cond := [Cond.instanceMethod yX8_ratio, Cond.selects RX8 yX8_ratio yX8_ratio, Cond.code yX8_ratio cX8_ratio 1 (some .int), Cond.methodLink RX8 162 yX8_bitsOfRatio, Cond.instanceMethod yX8_bitsOfRatio, Cond.selects RX8 yX8_bitsOfRatio yX8_bitsOfRatio, Cond.code yX8_bitsOfRatio cX8_bitsOfRatio 1 (some .int), Cond.methodLink RX8 242 yX8_bitsOfFloat, Cond.static yX8_bitsOfFloat, Cond.code yX8_bitsOfFloat cX8_bitsOfFloat 4 (some .int), Cond.constantFloat RX8 276 (1258291200), Cond.methodLink RL 82 yX9_ratio, Cond.instanceMethod yX9_ratio, Cond.selects RX9 yX9_ratio yX9_ratio, Cond.code yX9_ratio cX9_ratio 1 (some .int), Cond.methodLink RX9 185 yX9_ratioNow, Cond.instanceMethod yX9_ratioNow, Cond.selects RX9 yX9_ratioNow yX9_ratioNow, Cond.code yX9_ratioNow cX9_ratioNow 1 (some .int), Cond.methodLink RX9 179 yJxf58ca_floatToIntBits_5c35a, Cond.static yJxf58ca_floatToIntBits_5c35a, Cond.initialized RJxf58ca, Cond.code yJxf58ca_floatToIntBits_5c35a cJxf58ca_floatToIntBits_5c35a 1 (some .int), Cond.methodLink RJxf58ca 74 ⟨"java/lang/Float", "floatToRawIntBits", "(F)I"⟩]
noncomputable def wsL_law_r29 : List Cond := [Cond.native ⟨"java/lang/Float", "floatToRawIntBits", "(F)I"⟩, Cond.static ⟨"java/lang/Float", "floatToRawIntBits", "(F)I"⟩, Cond.initialized "java/lang/Float", Cond.constant RJxf58ca 77 (2143289344), Cond.methodLink RJxf58ca 59 yJxf58ca_isNaN_12338, Cond.static yJxf58ca_isNaN_12338, Cond.code yJxf58ca_isNaN_12338 cJxf58ca_isNaN_12338 1 (some .boolean), Cond.methodLink RL 83 yX8_pair, Cond.instanceMethod yX8_pair, Cond.selects RX8 yX8_pair yX8_pair, Cond.code yX8_pair cX8_pair 2 (some .int), Cond.methodLink RX8 165 yX8_standExchange, Cond.instanceMethod yX8_standExchange, Cond.selects RX8 yX8_standExchange yX8_standExchange, Cond.code yX8_standExchange cX8_standExchange 1 none, Cond.methodLink RX8 267 yX0_find, Cond.instanceMethod yX0_find, Cond.selects RX0 yX0_find yX0_find, Cond.code yX0_find cX0_find 4 none, Cond.fieldLink RX0 17 "PocketKeeper$Exchange" "found" "Z", Cond.fieldLink RX0 28 "PocketKeeper$Exchange" "leastThen" "I", Cond.methodLink RX0 31 yX2_least, Cond.methodLink RX0 37 yX6_size, Cond.methodLink RX0 42 yX6_exchange]
noncomputable def wsL_law_r30 : List Cond := [Cond.methodLink RX0 46 yX0_note, Cond.instanceMethod yX0_note, Cond.selects RX0 yX0_note yX0_note, Cond.code yX0_note cX0_note 4 none, Cond.fieldLink RX0 21 "PocketKeeper$Exchange" "first" "I", Cond.fieldLink RX0 25 "PocketKeeper$Exchange" "second" "I", Cond.methodLink RX8 168 yX8_numberOfExchange, Cond.instanceMethod yX8_numberOfExchange, Cond.selects RX8 yX8_numberOfExchange yX8_numberOfExchange, Cond.code yX8_numberOfExchange cX8_numberOfExchange 2 (some .int), Cond.methodLink RX8 171 yX0_isFound, Cond.instanceMethod yX0_isFound, Cond.selects RX0 yX0_isFound yX0_isFound, Cond.code yX0_isFound cX0_isFound 1 (some .boolean), Cond.methodLink RX8 174 yX0_first, Cond.instanceMethod yX0_first, Cond.selects RX0 yX0_first yX0_first, Cond.code yX0_first cX0_first 1 (some .int), Cond.methodLink RX8 177 yX0_second, Cond.instanceMethod yX0_second, Cond.selects RX0 yX0_second yX0_second, Cond.code yX0_second cX0_second 1 (some .int), Cond.methodLink RX8 180 yX0_leastThen, Cond.instanceMethod yX0_leastThen]
noncomputable def wsL_law_r31 : List Cond := [Cond.selects RX0 yX0_leastThen yX0_leastThen, Cond.code yX0_leastThen cX0_leastThen 1 (some .int), Cond.methodLink RL 86 yX9_pair, Cond.instanceMethod yX9_pair, Cond.selects RX9 yX9_pair yX9_pair, Cond.code yX9_pair cX9_pair 2 (some .int), Cond.methodLink RX9 197 yX9_betterNow, Cond.instanceMethod yX9_betterNow, Cond.selects RX9 yX9_betterNow yX9_betterNow, Cond.code yX9_betterNow cX9_betterNow 2 (some .int), Cond.methodLink RL 87 yX8_better, Cond.instanceMethod yX8_better, Cond.selects RX8 yX8_better yX8_better, Cond.code yX8_better cX8_better 1 (some .int), Cond.methodLink RL 90 yX9_better, Cond.instanceMethod yX9_better, Cond.selects RX9 yX9_better yX9_better, Cond.code yX9_better cX9_better 2 (some .int), Cond.methodLink RL 91 yX8_count, Cond.instanceMethod yX8_count, Cond.selects RX8 yX8_count yX8_count, Cond.code yX8_count cX8_count 2 (some .int), Cond.methodLink RX8 183 yX6_allBreaks, Cond.instanceMethod yX6_allBreaks]
noncomputable def wsL_law_r32 : List Cond := [Cond.selects RX6 yX6_allBreaks yX6_allBreaks, Cond.code yX6_allBreaks cX6_allBreaks 3 (some .int), Cond.methodLink RX6 59 yJ6_bitCount_0f7a4, Cond.methodLink RX8 186 yX6_reads, Cond.instanceMethod yX6_reads, Cond.selects RX6 yX6_reads yX6_reads, Cond.code yX6_reads cX6_reads 1 (some .int), Cond.methodLink RL 94 yX9_count, Cond.instanceMethod yX9_count, Cond.selects RX9 yX9_count yX9_count, Cond.code yX9_count cX9_count 2 (some .int), Cond.methodLink RX9 203 yX9_howMany, Cond.instanceMethod yX9_howMany, Cond.selects RX9 yX9_howMany yX9_howMany, Cond.code yX9_howMany cX9_howMany 2 (some .int), Cond.methodLink RX9 200 yX9_breaksMany, Cond.instanceMethod yX9_breaksMany, Cond.selects RX9 yX9_breaksMany yX9_breaksMany, Cond.code yX9_breaksMany cX9_breaksMany 3 (some .int), Cond.methodLink RL 95 yX8_digest, Cond.instanceMethod yX8_digest, Cond.selects RX8 yX8_digest yX8_digest, Cond.code yX8_digest cX8_digest 4 (some .long), Cond.constantLong RX8 192 (1699)]
noncomputable def wsL_law_r33 : List Cond := [Cond.constantLong RX8 201 (31), Cond.methodLink RX8 194 yX8_digestOfRow, Cond.instanceMethod yX8_digestOfRow, Cond.selects RX8 yX8_digestOfRow yX8_digestOfRow, Cond.code yX8_digestOfRow cX8_digestOfRow 7 (some .long), Cond.methodLink RX8 209 yX8_job, Cond.methodLink RX8 212 yX8_next, Cond.methodLink RX8 198 yX8_digestOfKeepings, Cond.instanceMethod yX8_digestOfKeepings, Cond.selects RX8 yX8_digestOfKeepings yX8_digestOfKeepings, Cond.code yX8_digestOfKeepings cX8_digestOfKeepings 7 (some .long), Cond.methodLink RX8 203 yX4_codeAt, Cond.methodLink RX8 206 yX8_count, Cond.methodLink RL 98 yX9_digest, Cond.instanceMethod yX9_digest, Cond.selects RX9 yX9_digest yX9_digest, Cond.code yX9_digest cX9_digest 3 (some .long), Cond.constantLong RX9 216 (1699), Cond.fieldLink RX9 208 "PocketKeeperModel" "h" "J", Cond.methodLink RX9 212 yX9_mix, Cond.instanceMethod yX9_mix, Cond.selects RX9 yX9_mix yX9_mix, Cond.code yX9_mix cX9_mix 3 none, Cond.constantLong RX9 206 (31)]
noncomputable def wsL_law_r34 : List Cond := [Cond.methodLink RX9 218 yX9_mixKeeping, Cond.instanceMethod yX9_mixKeeping, Cond.selects RX9 yX9_mixKeeping yX9_mixKeeping, Cond.code yX9_mixKeeping cX9_mixKeeping 2 none]
noncomputable def wsL_law : List Cond := (wsL_law_r1 ++ (wsL_law_r2 ++ (wsL_law_r3 ++ (wsL_law_r4 ++ (wsL_law_r5 ++ (wsL_law_r6 ++ (wsL_law_r7 ++ (wsL_law_r8 ++ (wsL_law_r9 ++ (wsL_law_r10 ++ (wsL_law_r11 ++ (wsL_law_r12 ++ (wsL_law_r13 ++ (wsL_law_r14 ++ (wsL_law_r15 ++ (wsL_law_r16 ++ (wsL_law_r17 ++ (wsL_law_r18 ++ (wsL_law_r19 ++ (wsL_law_r20 ++ (wsL_law_r21 ++ (wsL_law_r22 ++ (wsL_law_r23 ++ (wsL_law_r24 ++ (wsL_law_r25 ++ (wsL_law_r26 ++ (wsL_law_r27 ++ (wsL_law_r28 ++ (wsL_law_r29 ++ (wsL_law_r30 ++ (wsL_law_r31 ++ (wsL_law_r32 ++ (wsL_law_r33 ++ wsL_law_r34))))))))))))))))))))))))))))))))) ++ wsX80 ++ wsX90 ++ wsX40 ++ wsX30 ++ wsX60 ++ wsX20 ++ wsX70 ++ wsX50 ++ wsX00 ++ ([] : List Cond)
set_option maxRecDepth 20000 in
theorem inlX0 : ∀ w ∈ wsX00, w ∈ wsL_law := fun _ h => List.mem_append_left _ (List.mem_append_right _ h)
theorem inlX2 : ∀ w ∈ wsX20, w ∈ wsL_law := fun _ h => List.mem_append_left _ (List.mem_append_left _ (List.mem_append_left _ (List.mem_append_left _ (List.mem_append_right _ h))))
theorem inlX3 : ∀ w ∈ wsX30, w ∈ wsL_law := fun _ h => List.mem_append_left _ (List.mem_append_left _ (List.mem_append_left _ (List.mem_append_left _ (List.mem_append_left _ (List.mem_append_left _ (List.mem_append_right _ h))))))
theorem inlX4 : ∀ w ∈ wsX40, w ∈ wsL_law := fun _ h => List.mem_append_left _ (List.mem_append_left _ (List.mem_append_left _ (List.mem_append_left _ (List.mem_append_left _ (List.mem_append_left _ (List.mem_append_left _ (List.mem_append_right _ h)))))))
theorem inlX5 : ∀ w ∈ wsX50, w ∈ wsL_law := fun _ h => List.mem_append_left _ (List.mem_append_left _ (List.mem_append_right _ h))
theorem inlX6 : ∀ w ∈ wsX60, w ∈ wsL_law := fun _ h => List.mem_append_left _ (List.mem_append_left _ (List.mem_append_left _ (List.mem_append_left _ (List.mem_append_left _ (List.mem_append_right _ h)))))
theorem inlX7 : ∀ w ∈ wsX70, w ∈ wsL_law := fun _ h => List.mem_append_left _ (List.mem_append_left _ (List.mem_append_left _ (List.mem_append_right _ h)))
theorem inlX8 : ∀ w ∈ wsX80, w ∈ wsL_law := fun _ h => List.mem_append_left _ (List.mem_append_left _ (List.mem_append_left _ (List.mem_append_left _ (List.mem_append_left _ (List.mem_append_left _ (List.mem_append_left _ (List.mem_append_left _ (List.mem_append_left _ (List.mem_append_right _ h)))))))))
theorem inlX9 : ∀ w ∈ wsX90, w ∈ wsL_law := fun _ h => List.mem_append_left _ (List.mem_append_left _ (List.mem_append_left _ (List.mem_append_left _ (List.mem_append_left _ (List.mem_append_left _ (List.mem_append_left _ (List.mem_append_left _ (List.mem_append_right _ h))))))))
theorem inJxe99ae : ∀ w ∈ wsJxe99ae0, w ∈ lw_tbl := by decide +kernel
theorem inJxf58ca : ∀ w ∈ wsJxf58ca0, w ∈ lw_tbl := by decide +kernel
theorem inJ6 : ∀ w ∈ wsJ60, w ∈ lw_tbl := by decide +kernel
theorem inJ9 : ∀ w ∈ wsJ90, w ∈ lw_tbl := by decide +kernel
end
section
theorem dX0_init_0 : decode cX0_init 0 = .ok (.aload_n 0, 1) := by decide +kernel
theorem dX0_init_1 : decode cX0_init 1 = .ok (.invokespecial 1, 3) := by decide +kernel
theorem dX0_init_4 : decode cX0_init 4 = .ok (.aload_n 0, 1) := by decide +kernel
theorem dX0_init_5 : decode cX0_init 5 = .ok (.aload_n 1, 1) := by decide +kernel
theorem dX0_init_6 : decode cX0_init 6 = .ok (.putfield 7, 3) := by decide +kernel
theorem dX0_init_9 : decode cX0_init 9 = .ok (.aload_n 0, 1) := by decide +kernel
theorem dX0_init_10 : decode cX0_init 10 = .ok (.aload_n 2, 1) := by decide +kernel
theorem dX0_init_11 : decode cX0_init 11 = .ok (.putfield 13, 3) := by decide +kernel
theorem dX0_init_14 : decode cX0_init 14 = .ok (.return_, 1) := by decide +kernel
theorem dX0_isFound_0 : decode cX0_isFound 0 = .ok (.aload_n 0, 1) := by decide +kernel
theorem dX0_isFound_1 : decode cX0_isFound 1 = .ok (.getfield 17, 3) := by decide +kernel
theorem dX0_isFound_4 : decode cX0_isFound 4 = .ok (.ireturn, 1) := by decide +kernel
theorem dX0_first_0 : decode cX0_first 0 = .ok (.aload_n 0, 1) := by decide +kernel
theorem dX0_first_1 : decode cX0_first 1 = .ok (.getfield 21, 3) := by decide +kernel
theorem dX0_first_4 : decode cX0_first 4 = .ok (.ireturn, 1) := by decide +kernel
theorem dX0_second_0 : decode cX0_second 0 = .ok (.aload_n 0, 1) := by decide +kernel
theorem dX0_second_1 : decode cX0_second 1 = .ok (.getfield 25, 3) := by decide +kernel
theorem dX0_second_4 : decode cX0_second 4 = .ok (.ireturn, 1) := by decide +kernel
theorem dX0_leastThen_0 : decode cX0_leastThen 0 = .ok (.aload_n 0, 1) := by decide +kernel
theorem dX0_leastThen_1 : decode cX0_leastThen 1 = .ok (.getfield 28, 3) := by decide +kernel
theorem dX0_leastThen_4 : decode cX0_leastThen 4 = .ok (.ireturn, 1) := by decide +kernel
set_option maxRecDepth 20000 in
theorem ggX0_find_X2_least : GoodIn wsX0_find wsX2_least := goodIn_r _ [9, 10, 11, 12, 13, 14, 15, 8, 16, 17, 18, 19, 20, 21, 22, 23, 24, 25, 26, 27, 28, 29, 30, 31, 32, 33, 34, 35, 36, 37, 38, 39, 40, 41, 42, 43, 44, 45, 46, 47, 48, 49, 50, 51, 52, 53, 54, 55, 56, 57, 58, 59, 60, 61, 62, 63, 64, 65, 66, 67, 68, 69, 70, 71, 72, 73, 74, 75, 76, 77, 78, 79, 80, 81, 82, 83, 102, 103, 104, 105, 106, 107, 108, 109, 110, 111, 112, 113] (by decide +kernel) (by decide +kernel)
set_option maxRecDepth 20000 in
theorem gX0_find_X2_least : GoodIn wsX0_find (wsV RX0 31 RX2 yX2_least wsX2_least) := goodIn_app (goodIn_of _ (by decide +kernel)) ggX0_find_X2_least
set_option maxRecDepth 20000 in
theorem ggX0_find_X6_size : GoodIn wsX0_find wsX6_size := goodIn_r _ [22, 23, 106, 107, 108, 109, 110, 111] (by decide +kernel) (by decide +kernel)
set_option maxRecDepth 20000 in
theorem gX0_find_X6_size : GoodIn wsX0_find (wsV RX0 37 RX6 yX6_size wsX6_size) := goodIn_app (goodIn_of _ (by decide +kernel)) ggX0_find_X6_size
set_option maxRecDepth 20000 in
theorem ggX0_find_X6_exchange : GoodIn wsX0_find wsX6_exchange := goodIn_r _ [88, 29, 106, 107, 108, 109, 110, 111] (by decide +kernel) (by decide +kernel)
set_option maxRecDepth 20000 in
theorem gX0_find_X6_exchange : GoodIn wsX0_find (wsV RX0 42 RX6 yX6_exchange wsX6_exchange) := goodIn_app (goodIn_of _ (by decide +kernel)) ggX0_find_X6_exchange
set_option maxRecDepth 20000 in
theorem ggX0_find_X0_note : GoodIn wsX0_find wsX0_note := goodIn_r _ [93, 1, 94, 95, 3, 96, 97, 98, 99, 100, 101] (by decide +kernel) (by decide +kernel)
set_option maxRecDepth 20000 in
theorem gX0_find_X0_note : GoodIn wsX0_find (wsV RX0 46 RX0 yX0_note wsX0_note) := goodIn_app (goodIn_of _ (by decide +kernel)) ggX0_find_X0_note
theorem dX0_find_0 : decode cX0_find 0 = .ok (.aload_n 0, 1) := by decide +kernel
theorem dX0_find_1 : decode cX0_find 1 = .ok (.iconst 0, 1) := by decide +kernel
theorem dX0_find_2 : decode cX0_find 2 = .ok (.putfield 17, 3) := by decide +kernel
theorem dX0_find_5 : decode cX0_find 5 = .ok (.aload_n 0, 1) := by decide +kernel
theorem dX0_find_6 : decode cX0_find 6 = .ok (.aload_n 0, 1) := by decide +kernel
theorem dX0_find_7 : decode cX0_find 7 = .ok (.getfield 13, 3) := by decide +kernel
theorem dX0_find_10 : decode cX0_find 10 = .ok (.invokevirtual 31, 3) := by decide +kernel
theorem dX0_find_13 : decode cX0_find 13 = .ok (.putfield 28, 3) := by decide +kernel
theorem dX0_find_16 : decode cX0_find 16 = .ok (.iconst 0, 1) := by decide +kernel
theorem dX0_find_17 : decode cX0_find 17 = .ok (.istore_n 1, 1) := by decide +kernel
theorem dX0_find_18 : decode cX0_find 18 = .ok (.iload_n 1, 1) := by decide +kernel
theorem dX0_find_19 : decode cX0_find 19 = .ok (.aload_n 0, 1) := by decide +kernel
theorem dX0_find_20 : decode cX0_find 20 = .ok (.getfield 7, 3) := by decide +kernel
theorem dX0_find_23 : decode cX0_find 23 = .ok (.invokevirtual 37, 3) := by decide +kernel
theorem dX0_find_26 : decode cX0_find 26 = .ok (.if_icmp .ge 71, 3) := by decide +kernel
theorem dX0_find_29 : decode cX0_find 29 = .ok (.iload_n 1, 1) := by decide +kernel
theorem dX0_find_30 : decode cX0_find 30 = .ok (.iconst 1, 1) := by decide +kernel
theorem dX0_find_31 : decode cX0_find 31 = .ok (.iadd, 1) := by decide +kernel
theorem dX0_find_32 : decode cX0_find 32 = .ok (.istore_n 2, 1) := by decide +kernel
theorem dX0_find_33 : decode cX0_find 33 = .ok (.iload_n 2, 1) := by decide +kernel
theorem dX0_find_34 : decode cX0_find 34 = .ok (.aload_n 0, 1) := by decide +kernel
theorem dX0_find_35 : decode cX0_find 35 = .ok (.getfield 7, 3) := by decide +kernel
theorem dX0_find_38 : decode cX0_find 38 = .ok (.invokevirtual 37, 3) := by decide +kernel
theorem dX0_find_41 : decode cX0_find 41 = .ok (.if_icmp .ge 50, 3) := by decide +kernel
theorem dX0_find_44 : decode cX0_find 44 = .ok (.aload_n 0, 1) := by decide +kernel
theorem dX0_find_45 : decode cX0_find 45 = .ok (.getfield 7, 3) := by decide +kernel
theorem dX0_find_48 : decode cX0_find 48 = .ok (.iload_n 1, 1) := by decide +kernel
theorem dX0_find_49 : decode cX0_find 49 = .ok (.iload_n 2, 1) := by decide +kernel
theorem dX0_find_50 : decode cX0_find 50 = .ok (.invokevirtual 42, 3) := by decide +kernel
theorem dX0_find_53 : decode cX0_find 53 = .ok (.aload_n 0, 1) := by decide +kernel
theorem dX0_find_54 : decode cX0_find 54 = .ok (.getfield 13, 3) := by decide +kernel
theorem dX0_find_57 : decode cX0_find 57 = .ok (.invokevirtual 31, 3) := by decide +kernel
theorem dX0_find_60 : decode cX0_find 60 = .ok (.istore_n 3, 1) := by decide +kernel
theorem dX0_find_61 : decode cX0_find 61 = .ok (.aload_n 0, 1) := by decide +kernel
theorem dX0_find_62 : decode cX0_find 62 = .ok (.getfield 7, 3) := by decide +kernel
theorem dX0_find_65 : decode cX0_find 65 = .ok (.iload_n 1, 1) := by decide +kernel
theorem dX0_find_66 : decode cX0_find 66 = .ok (.iload_n 2, 1) := by decide +kernel
theorem dX0_find_67 : decode cX0_find 67 = .ok (.invokevirtual 42, 3) := by decide +kernel
theorem dX0_find_70 : decode cX0_find 70 = .ok (.iload_n 3, 1) := by decide +kernel
theorem dX0_find_71 : decode cX0_find 71 = .ok (.aload_n 0, 1) := by decide +kernel
theorem dX0_find_72 : decode cX0_find 72 = .ok (.getfield 28, 3) := by decide +kernel
theorem dX0_find_75 : decode cX0_find 75 = .ok (.if_icmp .ge 10, 3) := by decide +kernel
theorem dX0_find_78 : decode cX0_find 78 = .ok (.aload_n 0, 1) := by decide +kernel
theorem dX0_find_79 : decode cX0_find 79 = .ok (.iload_n 1, 1) := by decide +kernel
theorem dX0_find_80 : decode cX0_find 80 = .ok (.iload_n 2, 1) := by decide +kernel
theorem dX0_find_81 : decode cX0_find 81 = .ok (.iload_n 3, 1) := by decide +kernel
theorem dX0_find_82 : decode cX0_find 82 = .ok (.invokevirtual 46, 3) := by decide +kernel
theorem dX0_find_85 : decode cX0_find 85 = .ok (.iinc 2 1, 3) := by decide +kernel
theorem dX0_find_88 : decode cX0_find 88 = .ok (.goto (-55), 3) := by decide +kernel
theorem dX0_find_91 : decode cX0_find 91 = .ok (.iinc 1 1, 3) := by decide +kernel
theorem dX0_find_94 : decode cX0_find 94 = .ok (.goto (-76), 3) := by decide +kernel
theorem dX0_find_97 : decode cX0_find 97 = .ok (.return_, 1) := by decide +kernel
theorem dX0_note_0 : decode cX0_note 0 = .ok (.aload_n 0, 1) := by decide +kernel
theorem dX0_note_1 : decode cX0_note 1 = .ok (.iconst 1, 1) := by decide +kernel
theorem dX0_note_2 : decode cX0_note 2 = .ok (.putfield 17, 3) := by decide +kernel
theorem dX0_note_5 : decode cX0_note 5 = .ok (.aload_n 0, 1) := by decide +kernel
theorem dX0_note_6 : decode cX0_note 6 = .ok (.iload_n 1, 1) := by decide +kernel
theorem dX0_note_7 : decode cX0_note 7 = .ok (.putfield 21, 3) := by decide +kernel
theorem dX0_note_10 : decode cX0_note 10 = .ok (.aload_n 0, 1) := by decide +kernel
theorem dX0_note_11 : decode cX0_note 11 = .ok (.iload_n 2, 1) := by decide +kernel
theorem dX0_note_12 : decode cX0_note 12 = .ok (.putfield 25, 3) := by decide +kernel
theorem dX0_note_15 : decode cX0_note 15 = .ok (.aload_n 0, 1) := by decide +kernel
theorem dX0_note_16 : decode cX0_note 16 = .ok (.iload_n 3, 1) := by decide +kernel
theorem dX0_note_17 : decode cX0_note 17 = .ok (.putfield 28, 3) := by decide +kernel
theorem dX0_note_20 : decode cX0_note 20 = .ok (.return_, 1) := by decide +kernel
theorem dX1_init_0 : decode cX1_init 0 = .ok (.aload_n 0, 1) := by decide +kernel
theorem dX1_init_1 : decode cX1_init 1 = .ok (.invokespecial 3, 3) := by decide +kernel
theorem dX1_init_4 : decode cX1_init 4 = .ok (.aload_n 0, 1) := by decide +kernel
theorem dX1_init_5 : decode cX1_init 5 = .ok (.bipush 8, 2) := by decide +kernel
theorem dX1_init_7 : decode cX1_init 7 = .ok (.newarray .int, 2) := by decide +kernel
theorem dX1_init_9 : decode cX1_init 9 = .ok (.putfield 9, 3) := by decide +kernel
theorem dX1_init_12 : decode cX1_init 12 = .ok (.aload_n 0, 1) := by decide +kernel
theorem dX1_init_13 : decode cX1_init 13 = .ok (.bipush 8, 2) := by decide +kernel
theorem dX1_init_15 : decode cX1_init 15 = .ok (.newarray .int, 2) := by decide +kernel
theorem dX1_init_17 : decode cX1_init 17 = .ok (.putfield 15, 3) := by decide +kernel
theorem dX1_init_20 : decode cX1_init 20 = .ok (.aload_n 0, 1) := by decide +kernel
theorem dX1_init_21 : decode cX1_init 21 = .ok (.bipush 8, 2) := by decide +kernel
theorem dX1_init_23 : decode cX1_init 23 = .ok (.newarray .int, 2) := by decide +kernel
theorem dX1_init_25 : decode cX1_init 25 = .ok (.putfield 18, 3) := by decide +kernel
theorem dX1_init_28 : decode cX1_init 28 = .ok (.aload_n 0, 1) := by decide +kernel
theorem dX1_init_29 : decode cX1_init 29 = .ok (.aload_n 1, 1) := by decide +kernel
theorem dX1_init_30 : decode cX1_init 30 = .ok (.putfield 21, 3) := by decide +kernel
theorem dX1_init_33 : decode cX1_init 33 = .ok (.aload_n 0, 1) := by decide +kernel
theorem dX1_init_34 : decode cX1_init 34 = .ok (.aload_n 2, 1) := by decide +kernel
theorem dX1_init_35 : decode cX1_init 35 = .ok (.putfield 25, 3) := by decide +kernel
theorem dX1_init_38 : decode cX1_init 38 = .ok (.return_, 1) := by decide +kernel
set_option maxRecDepth 20000 in
theorem ggX1_keepAll_X6_size : GoodIn wsX1_keepAll wsX6_size := goodIn_r _ [9, 10, 104, 105, 106, 107, 108, 109] (by decide +kernel) (by decide +kernel)
set_option maxRecDepth 20000 in
theorem gX1_keepAll_X6_size : GoodIn wsX1_keepAll (wsV RX1 29 RX6 yX6_size wsX6_size) := goodIn_app (goodIn_of _ (by decide +kernel)) ggX1_keepAll_X6_size
set_option maxRecDepth 20000 in
theorem ggX1_keepAll_X6_needs : GoodIn wsX1_keepAll wsX6_needs := goodIn_r _ [14, 15, 16, 104, 105, 106, 107, 108, 109] (by decide +kernel) (by decide +kernel)
set_option maxRecDepth 20000 in
theorem gX1_keepAll_X6_needs : GoodIn wsX1_keepAll (wsV RX1 35 RX6 yX6_needs wsX6_needs) := goodIn_app (goodIn_of _ (by decide +kernel)) ggX1_keepAll_X6_needs
set_option maxRecDepth 20000 in
theorem ggX1_keepAll_X5_staying : GoodIn wsX1_keepAll wsX5_staying := goodIn_r _ [22, 23, 24, 25, 26, 27, 28, 29, 30, 31, 32, 33, 34, 35, 36, 37, 38, 39, 40, 41, 42, 43, 44, 45, 46, 93, 94, 95, 96, 97, 98, 110, 111, 112, 113] (by decide +kernel) (by decide +kernel)
set_option maxRecDepth 20000 in
theorem gX1_keepAll_X5_staying_u39X5 : GoodIn wsX1_keepAll (va_wsU RX1 39 RX5 "PocketKeeper$Keeping" ⟨"PocketKeeper$Keeping", "staying", "(II)I"⟩ yX5_staying wsX5_staying) := goodIn_app (goodIn_of _ (by decide +kernel)) ggX1_keepAll_X5_staying
set_option maxRecDepth 20000 in
theorem ggX1_keepAll_X7_staying : GoodIn wsX1_keepAll wsX7_staying := goodIn_r _ [50, 51, 52, 53, 54, 55, 12, 13, 8, 14, 15, 16, 56, 57, 58, 59, 60, 61, 62, 63, 64, 65, 66, 67, 38, 39, 40, 41, 42, 43, 68, 69, 70, 49, 71, 72, 73, 74, 75, 76, 77, 78, 79, 80, 81, 82, 10, 83, 84, 85, 86, 87, 88, 93, 94, 95, 96, 97, 98, 99, 100, 101, 102, 103, 104, 105, 106, 107, 108, 109, 114, 115] (by decide +kernel) (by decide +kernel)
set_option maxRecDepth 20000 in
theorem gX1_keepAll_X7_staying_u39X7 : GoodIn wsX1_keepAll (va_wsU RX1 39 RX7 "PocketKeeper$Keeping" ⟨"PocketKeeper$Keeping", "staying", "(II)I"⟩ yX7_staying wsX7_staying) := goodIn_app (goodIn_of _ (by decide +kernel)) ggX1_keepAll_X7_staying
set_option maxRecDepth 20000 in
theorem ggX1_keepAll_X6_broken : GoodIn wsX1_keepAll wsX6_broken := goodIn_r _ [92, 83, 104, 105, 106, 107, 108, 109] (by decide +kernel) (by decide +kernel)
set_option maxRecDepth 20000 in
theorem gX1_keepAll_X6_broken : GoodIn wsX1_keepAll (wsV RX1 43 RX6 yX6_broken wsX6_broken) := goodIn_app (goodIn_of _ (by decide +kernel)) ggX1_keepAll_X6_broken
theorem dX1_keepAll_0 : decode cX1_keepAll 0 = .ok (.iconst 0, 1) := by decide +kernel
theorem dX1_keepAll_1 : decode cX1_keepAll 1 = .ok (.istore_n 1, 1) := by decide +kernel
theorem dX1_keepAll_2 : decode cX1_keepAll 2 = .ok (.iconst 0, 1) := by decide +kernel
theorem dX1_keepAll_3 : decode cX1_keepAll 3 = .ok (.istore_n 2, 1) := by decide +kernel
theorem dX1_keepAll_4 : decode cX1_keepAll 4 = .ok (.iload_n 2, 1) := by decide +kernel
theorem dX1_keepAll_5 : decode cX1_keepAll 5 = .ok (.aload_n 0, 1) := by decide +kernel
theorem dX1_keepAll_6 : decode cX1_keepAll 6 = .ok (.getfield 21, 3) := by decide +kernel
theorem dX1_keepAll_9 : decode cX1_keepAll 9 = .ok (.invokevirtual 29, 3) := by decide +kernel
theorem dX1_keepAll_12 : decode cX1_keepAll 12 = .ok (.if_icmp .ge 81, 3) := by decide +kernel
theorem dX1_keepAll_15 : decode cX1_keepAll 15 = .ok (.aload_n 0, 1) := by decide +kernel
theorem dX1_keepAll_16 : decode cX1_keepAll 16 = .ok (.getfield 21, 3) := by decide +kernel
theorem dX1_keepAll_19 : decode cX1_keepAll 19 = .ok (.iload_n 2, 1) := by decide +kernel
theorem dX1_keepAll_20 : decode cX1_keepAll 20 = .ok (.invokevirtual 35, 3) := by decide +kernel
theorem dX1_keepAll_23 : decode cX1_keepAll 23 = .ok (.istore_n 3, 1) := by decide +kernel
theorem dX1_keepAll_24 : decode cX1_keepAll 24 = .ok (.aload_n 0, 1) := by decide +kernel
theorem dX1_keepAll_25 : decode cX1_keepAll 25 = .ok (.getfield 9, 3) := by decide +kernel
theorem dX1_keepAll_28 : decode cX1_keepAll 28 = .ok (.iload_n 2, 1) := by decide +kernel
theorem dX1_keepAll_29 : decode cX1_keepAll 29 = .ok (.iload_n 3, 1) := by decide +kernel
theorem dX1_keepAll_30 : decode cX1_keepAll 30 = .ok (.aload_n 0, 1) := by decide +kernel
theorem dX1_keepAll_31 : decode cX1_keepAll 31 = .ok (.iload_n 2, 1) := by decide +kernel
theorem dX1_keepAll_32 : decode cX1_keepAll 32 = .ok (.iload_n 1, 1) := by decide +kernel
theorem dX1_keepAll_33 : decode cX1_keepAll 33 = .ok (.iload_n 3, 1) := by decide +kernel
theorem dX1_keepAll_34 : decode cX1_keepAll 34 = .ok (.iconst (-1), 1) := by decide +kernel
theorem dX1_keepAll_35 : decode cX1_keepAll 35 = .ok (.ixor, 1) := by decide +kernel
theorem dX1_keepAll_36 : decode cX1_keepAll 36 = .ok (.iand, 1) := by decide +kernel
theorem dX1_keepAll_37 : decode cX1_keepAll 37 = .ok (.invokevirtual 39, 3) := by decide +kernel
theorem dX1_keepAll_40 : decode cX1_keepAll 40 = .ok (.ior, 1) := by decide +kernel
theorem dX1_keepAll_41 : decode cX1_keepAll 41 = .ok (.iastore, 1) := by decide +kernel
theorem dX1_keepAll_42 : decode cX1_keepAll 42 = .ok (.aload_n 0, 1) := by decide +kernel
theorem dX1_keepAll_43 : decode cX1_keepAll 43 = .ok (.getfield 15, 3) := by decide +kernel
theorem dX1_keepAll_46 : decode cX1_keepAll 46 = .ok (.iload_n 2, 1) := by decide +kernel
theorem dX1_keepAll_47 : decode cX1_keepAll 47 = .ok (.iload_n 3, 1) := by decide +kernel
theorem dX1_keepAll_48 : decode cX1_keepAll 48 = .ok (.iload_n 1, 1) := by decide +kernel
theorem dX1_keepAll_49 : decode cX1_keepAll 49 = .ok (.iconst (-1), 1) := by decide +kernel
theorem dX1_keepAll_50 : decode cX1_keepAll 50 = .ok (.ixor, 1) := by decide +kernel
theorem dX1_keepAll_51 : decode cX1_keepAll 51 = .ok (.iand, 1) := by decide +kernel
theorem dX1_keepAll_52 : decode cX1_keepAll 52 = .ok (.iastore, 1) := by decide +kernel
theorem dX1_keepAll_53 : decode cX1_keepAll 53 = .ok (.aload_n 0, 1) := by decide +kernel
theorem dX1_keepAll_54 : decode cX1_keepAll 54 = .ok (.getfield 18, 3) := by decide +kernel
theorem dX1_keepAll_57 : decode cX1_keepAll 57 = .ok (.iload_n 2, 1) := by decide +kernel
theorem dX1_keepAll_58 : decode cX1_keepAll 58 = .ok (.iload_n 1, 1) := by decide +kernel
theorem dX1_keepAll_59 : decode cX1_keepAll 59 = .ok (.aload_n 0, 1) := by decide +kernel
theorem dX1_keepAll_60 : decode cX1_keepAll 60 = .ok (.getfield 9, 3) := by decide +kernel
theorem dX1_keepAll_63 : decode cX1_keepAll 63 = .ok (.iload_n 2, 1) := by decide +kernel
theorem dX1_keepAll_64 : decode cX1_keepAll 64 = .ok (.iaload, 1) := by decide +kernel
theorem dX1_keepAll_65 : decode cX1_keepAll 65 = .ok (.iconst (-1), 1) := by decide +kernel
theorem dX1_keepAll_66 : decode cX1_keepAll 66 = .ok (.ixor, 1) := by decide +kernel
theorem dX1_keepAll_67 : decode cX1_keepAll 67 = .ok (.iand, 1) := by decide +kernel
theorem dX1_keepAll_68 : decode cX1_keepAll 68 = .ok (.iastore, 1) := by decide +kernel
theorem dX1_keepAll_69 : decode cX1_keepAll 69 = .ok (.aload_n 0, 1) := by decide +kernel
theorem dX1_keepAll_70 : decode cX1_keepAll 70 = .ok (.getfield 9, 3) := by decide +kernel
theorem dX1_keepAll_73 : decode cX1_keepAll 73 = .ok (.iload_n 2, 1) := by decide +kernel
theorem dX1_keepAll_74 : decode cX1_keepAll 74 = .ok (.iaload, 1) := by decide +kernel
theorem dX1_keepAll_75 : decode cX1_keepAll 75 = .ok (.aload_n 0, 1) := by decide +kernel
theorem dX1_keepAll_76 : decode cX1_keepAll 76 = .ok (.getfield 21, 3) := by decide +kernel
theorem dX1_keepAll_79 : decode cX1_keepAll 79 = .ok (.iload_n 2, 1) := by decide +kernel
theorem dX1_keepAll_80 : decode cX1_keepAll 80 = .ok (.invokevirtual 43, 3) := by decide +kernel
theorem dX1_keepAll_83 : decode cX1_keepAll 83 = .ok (.iconst (-1), 1) := by decide +kernel
theorem dX1_keepAll_84 : decode cX1_keepAll 84 = .ok (.ixor, 1) := by decide +kernel
theorem dX1_keepAll_85 : decode cX1_keepAll 85 = .ok (.iand, 1) := by decide +kernel
theorem dX1_keepAll_86 : decode cX1_keepAll 86 = .ok (.istore_n 1, 1) := by decide +kernel
theorem dX1_keepAll_87 : decode cX1_keepAll 87 = .ok (.iinc 2 1, 3) := by decide +kernel
theorem dX1_keepAll_90 : decode cX1_keepAll 90 = .ok (.goto (-86), 3) := by decide +kernel
theorem dX1_keepAll_93 : decode cX1_keepAll 93 = .ok (.return_, 1) := by decide +kernel
theorem dX1_inside_0 : decode cX1_inside 0 = .ok (.aload_n 0, 1) := by decide +kernel
theorem dX1_inside_1 : decode cX1_inside 1 = .ok (.getfield 9, 3) := by decide +kernel
theorem dX1_inside_4 : decode cX1_inside 4 = .ok (.iload_n 1, 1) := by decide +kernel
theorem dX1_inside_5 : decode cX1_inside 5 = .ok (.iaload, 1) := by decide +kernel
theorem dX1_inside_6 : decode cX1_inside 6 = .ok (.ireturn, 1) := by decide +kernel
theorem dX1_coming_0 : decode cX1_coming 0 = .ok (.aload_n 0, 1) := by decide +kernel
theorem dX1_coming_1 : decode cX1_coming 1 = .ok (.getfield 15, 3) := by decide +kernel
theorem dX1_coming_4 : decode cX1_coming 4 = .ok (.iload_n 1, 1) := by decide +kernel
theorem dX1_coming_5 : decode cX1_coming 5 = .ok (.iaload, 1) := by decide +kernel
theorem dX1_coming_6 : decode cX1_coming 6 = .ok (.ireturn, 1) := by decide +kernel
theorem dX1_going_0 : decode cX1_going 0 = .ok (.aload_n 0, 1) := by decide +kernel
theorem dX1_going_1 : decode cX1_going 1 = .ok (.getfield 18, 3) := by decide +kernel
theorem dX1_going_4 : decode cX1_going 4 = .ok (.iload_n 1, 1) := by decide +kernel
theorem dX1_going_5 : decode cX1_going 5 = .ok (.iaload, 1) := by decide +kernel
theorem dX1_going_6 : decode cX1_going 6 = .ok (.ireturn, 1) := by decide +kernel
set_option maxRecDepth 20000 in
theorem ggX1_totalCost_X6_size : GoodIn wsX1_totalCost wsX6_size := goodIn_r _ [8, 9, 34, 35, 36, 37, 38, 39] (by decide +kernel) (by decide +kernel)
set_option maxRecDepth 20000 in
theorem gX1_totalCost_X6_size : GoodIn wsX1_totalCost (wsV RX1 29 RX6 yX6_size wsX6_size) := goodIn_app (goodIn_of _ (by decide +kernel)) ggX1_totalCost_X6_size
set_option maxRecDepth 20000 in
theorem ggX1_totalCost_X3_sizeOf : GoodIn wsX1_totalCost wsX3_sizeOf := goodIn_r _ [14, 15, 16, 17, 18, 19, 20, 21, 22, 40, 41] (by decide +kernel) (by decide +kernel)
set_option maxRecDepth 20000 in
theorem gX1_totalCost_X3_sizeOf : GoodIn wsX1_totalCost (wsV RX1 46 RX3 yX3_sizeOf wsX3_sizeOf) := goodIn_app (goodIn_of _ (by decide +kernel)) ggX1_totalCost_X3_sizeOf
theorem dX1_totalCost_0 : decode cX1_totalCost 0 = .ok (.iconst 0, 1) := by decide +kernel
theorem dX1_totalCost_1 : decode cX1_totalCost 1 = .ok (.istore_n 1, 1) := by decide +kernel
theorem dX1_totalCost_2 : decode cX1_totalCost 2 = .ok (.iconst 0, 1) := by decide +kernel
theorem dX1_totalCost_3 : decode cX1_totalCost 3 = .ok (.istore_n 2, 1) := by decide +kernel
theorem dX1_totalCost_4 : decode cX1_totalCost 4 = .ok (.iload_n 2, 1) := by decide +kernel
theorem dX1_totalCost_5 : decode cX1_totalCost 5 = .ok (.aload_n 0, 1) := by decide +kernel
theorem dX1_totalCost_6 : decode cX1_totalCost 6 = .ok (.getfield 21, 3) := by decide +kernel
theorem dX1_totalCost_9 : decode cX1_totalCost 9 = .ok (.invokevirtual 29, 3) := by decide +kernel
theorem dX1_totalCost_12 : decode cX1_totalCost 12 = .ok (.if_icmp .ge 25, 3) := by decide +kernel
theorem dX1_totalCost_15 : decode cX1_totalCost 15 = .ok (.iload_n 1, 1) := by decide +kernel
theorem dX1_totalCost_16 : decode cX1_totalCost 16 = .ok (.aload_n 0, 1) := by decide +kernel
theorem dX1_totalCost_17 : decode cX1_totalCost 17 = .ok (.getfield 25, 3) := by decide +kernel
theorem dX1_totalCost_20 : decode cX1_totalCost 20 = .ok (.aload_n 0, 1) := by decide +kernel
theorem dX1_totalCost_21 : decode cX1_totalCost 21 = .ok (.getfield 15, 3) := by decide +kernel
theorem dX1_totalCost_24 : decode cX1_totalCost 24 = .ok (.iload_n 2, 1) := by decide +kernel
theorem dX1_totalCost_25 : decode cX1_totalCost 25 = .ok (.iaload, 1) := by decide +kernel
theorem dX1_totalCost_26 : decode cX1_totalCost 26 = .ok (.invokevirtual 46, 3) := by decide +kernel
theorem dX1_totalCost_29 : decode cX1_totalCost 29 = .ok (.iadd, 1) := by decide +kernel
theorem dX1_totalCost_30 : decode cX1_totalCost 30 = .ok (.istore_n 1, 1) := by decide +kernel
theorem dX1_totalCost_31 : decode cX1_totalCost 31 = .ok (.iinc 2 1, 3) := by decide +kernel
theorem dX1_totalCost_34 : decode cX1_totalCost 34 = .ok (.goto (-30), 3) := by decide +kernel
theorem dX1_totalCost_37 : decode cX1_totalCost 37 = .ok (.iload_n 1, 1) := by decide +kernel
theorem dX1_totalCost_38 : decode cX1_totalCost 38 = .ok (.ireturn, 1) := by decide +kernel
set_option maxRecDepth 20000 in
theorem ggX1_totalComing_X6_size : GoodIn wsX1_totalComing wsX6_size := goodIn_r _ [7, 8, 27, 28, 29, 30, 31, 32] (by decide +kernel) (by decide +kernel)
set_option maxRecDepth 20000 in
theorem gX1_totalComing_X6_size : GoodIn wsX1_totalComing (wsV RX1 29 RX6 yX6_size wsX6_size) := goodIn_app (goodIn_of _ (by decide +kernel)) ggX1_totalComing_X6_size
set_option maxRecDepth 20000 in
theorem ggX1_totalComing_J6_bitCount_0f7a4 : GoodIn wsX1_totalComing wsJ6_bitCount_0f7a4 := goodIn_r _ [12, 13, 14, 15] (by decide +kernel) (by decide +kernel)
set_option maxRecDepth 20000 in
theorem gX1_totalComing_J6_bitCount_0f7a4 : GoodIn wsX1_totalComing (va_wsS RX1 51 yJ6_bitCount_0f7a4 wsJ6_bitCount_0f7a4) := goodIn_app (goodIn_of _ (by decide +kernel)) ggX1_totalComing_J6_bitCount_0f7a4
theorem dX1_totalComing_0 : decode cX1_totalComing 0 = .ok (.iconst 0, 1) := by decide +kernel
theorem dX1_totalComing_1 : decode cX1_totalComing 1 = .ok (.istore_n 1, 1) := by decide +kernel
theorem dX1_totalComing_2 : decode cX1_totalComing 2 = .ok (.iconst 0, 1) := by decide +kernel
theorem dX1_totalComing_3 : decode cX1_totalComing 3 = .ok (.istore_n 2, 1) := by decide +kernel
theorem dX1_totalComing_4 : decode cX1_totalComing 4 = .ok (.iload_n 2, 1) := by decide +kernel
theorem dX1_totalComing_5 : decode cX1_totalComing 5 = .ok (.aload_n 0, 1) := by decide +kernel
theorem dX1_totalComing_6 : decode cX1_totalComing 6 = .ok (.getfield 21, 3) := by decide +kernel
theorem dX1_totalComing_9 : decode cX1_totalComing 9 = .ok (.invokevirtual 29, 3) := by decide +kernel
theorem dX1_totalComing_12 : decode cX1_totalComing 12 = .ok (.if_icmp .ge 21, 3) := by decide +kernel
theorem dX1_totalComing_15 : decode cX1_totalComing 15 = .ok (.iload_n 1, 1) := by decide +kernel
theorem dX1_totalComing_16 : decode cX1_totalComing 16 = .ok (.aload_n 0, 1) := by decide +kernel
theorem dX1_totalComing_17 : decode cX1_totalComing 17 = .ok (.getfield 15, 3) := by decide +kernel
theorem dX1_totalComing_20 : decode cX1_totalComing 20 = .ok (.iload_n 2, 1) := by decide +kernel
theorem dX1_totalComing_21 : decode cX1_totalComing 21 = .ok (.iaload, 1) := by decide +kernel
theorem dX1_totalComing_22 : decode cX1_totalComing 22 = .ok (.invokestatic 51, 3) := by decide +kernel
theorem dX1_totalComing_25 : decode cX1_totalComing 25 = .ok (.iadd, 1) := by decide +kernel
theorem dX1_totalComing_26 : decode cX1_totalComing 26 = .ok (.istore_n 1, 1) := by decide +kernel
theorem dX1_totalComing_27 : decode cX1_totalComing 27 = .ok (.iinc 2 1, 3) := by decide +kernel
theorem dX1_totalComing_30 : decode cX1_totalComing 30 = .ok (.goto (-26), 3) := by decide +kernel
theorem dX1_totalComing_33 : decode cX1_totalComing 33 = .ok (.iload_n 1, 1) := by decide +kernel
theorem dX1_totalComing_34 : decode cX1_totalComing 34 = .ok (.ireturn, 1) := by decide +kernel
theorem dX2_init_0 : decode cX2_init 0 = .ok (.aload_n 0, 1) := by decide +kernel
theorem dX2_init_1 : decode cX2_init 1 = .ok (.invokespecial 3, 3) := by decide +kernel
theorem dX2_init_4 : decode cX2_init 4 = .ok (.aload_n 0, 1) := by decide +kernel
theorem dX2_init_5 : decode cX2_init 5 = .ok (.bipush 8, 2) := by decide +kernel
theorem dX2_init_7 : decode cX2_init 7 = .ok (.newarray .int, 2) := by decide +kernel
theorem dX2_init_9 : decode cX2_init 9 = .ok (.putfield 9, 3) := by decide +kernel
theorem dX2_init_12 : decode cX2_init 12 = .ok (.aload_n 0, 1) := by decide +kernel
theorem dX2_init_13 : decode cX2_init 13 = .ok (.sipush 2048, 3) := by decide +kernel
theorem dX2_init_16 : decode cX2_init 16 = .ok (.newarray .int, 2) := by decide +kernel
theorem dX2_init_18 : decode cX2_init 18 = .ok (.putfield 15, 3) := by decide +kernel
theorem dX2_init_21 : decode cX2_init 21 = .ok (.aload_n 0, 1) := by decide +kernel
theorem dX2_init_22 : decode cX2_init 22 = .ok (.aload_n 1, 1) := by decide +kernel
theorem dX2_init_23 : decode cX2_init 23 = .ok (.putfield 18, 3) := by decide +kernel
theorem dX2_init_26 : decode cX2_init 26 = .ok (.aload_n 0, 1) := by decide +kernel
theorem dX2_init_27 : decode cX2_init 27 = .ok (.aload_n 2, 1) := by decide +kernel
theorem dX2_init_28 : decode cX2_init 28 = .ok (.putfield 22, 3) := by decide +kernel
theorem dX2_init_31 : decode cX2_init 31 = .ok (.return_, 1) := by decide +kernel
set_option maxRecDepth 20000 in
theorem ggX2_least_X2_findWorthKeeping : GoodIn wsX2_least wsX2_findWorthKeeping := goodIn_r _ [8, 1, 9, 10, 11, 12, 13, 14, 15, 16, 17, 18, 19, 20, 21, 22, 23, 24, 25, 26, 76, 77, 78, 79, 80, 81, 82, 83, 84, 85] (by decide +kernel) (by decide +kernel)
set_option maxRecDepth 20000 in
theorem gX2_least_X2_findWorthKeeping : GoodIn wsX2_least (wsV RX2 26 RX2 yX2_findWorthKeeping wsX2_findWorthKeeping) := goodIn_app (goodIn_of _ (by decide +kernel)) ggX2_least_X2_findWorthKeeping
set_option maxRecDepth 20000 in
theorem ggX2_least_X6_size : GoodIn wsX2_least wsX6_size := goodIn_r _ [14, 15, 80, 81, 82, 83, 84, 85] (by decide +kernel) (by decide +kernel)
set_option maxRecDepth 20000 in
theorem gX2_least_X6_size : GoodIn wsX2_least (wsV RX2 29 RX6 yX6_size wsX6_size) := goodIn_app (goodIn_of _ (by decide +kernel)) ggX2_least_X6_size
set_option maxRecDepth 20000 in
theorem ggX2_least_X2_fillPlace : GoodIn wsX2_least wsX2_fillPlace := goodIn_r _ [30, 9, 3, 2, 1, 31, 32, 7, 33, 34, 35, 36, 37, 38, 39, 40, 41, 42, 43, 16, 17, 18, 13, 19, 20, 21, 44, 45, 46, 47, 48, 49, 50, 51, 52, 53, 54, 55, 56, 57, 58, 59, 10, 11, 12, 14, 15, 22, 23, 24, 25, 26, 60, 61, 62, 63, 64, 65, 66, 67, 68, 69, 70, 71, 72, 73, 74, 75, 76, 77, 78, 79, 80, 81, 82, 83, 84, 85, 86, 87] (by decide +kernel) (by decide +kernel)
set_option maxRecDepth 20000 in
theorem gX2_least_X2_fillPlace : GoodIn wsX2_least (wsV RX2 35 RX2 yX2_fillPlace wsX2_fillPlace) := goodIn_app (goodIn_of _ (by decide +kernel)) ggX2_least_X2_fillPlace
set_option maxRecDepth 20000 in
theorem ggX2_least_X6_needs : GoodIn wsX2_least wsX6_needs := goodIn_r _ [19, 20, 21, 80, 81, 82, 83, 84, 85] (by decide +kernel) (by decide +kernel)
set_option maxRecDepth 20000 in
theorem gX2_least_X6_needs : GoodIn wsX2_least (wsV RX2 39 RX6 yX6_needs wsX6_needs) := goodIn_app (goodIn_of _ (by decide +kernel)) ggX2_least_X6_needs
set_option maxRecDepth 20000 in
theorem ggX2_least_X3_sizeOf : GoodIn wsX2_least wsX3_sizeOf := goodIn_r _ [53, 54, 55, 35, 36, 37, 38, 39, 40, 86, 87] (by decide +kernel) (by decide +kernel)
set_option maxRecDepth 20000 in
theorem gX2_least_X3_sizeOf : GoodIn wsX2_least (wsV RX2 43 RX3 yX3_sizeOf wsX3_sizeOf) := goodIn_app (goodIn_of _ (by decide +kernel)) ggX2_least_X3_sizeOf
set_option maxRecDepth 20000 in
theorem ggX2_least_X2_cell : GoodIn wsX2_least wsX2_cell := goodIn_r _ [43] (by decide +kernel) (by decide +kernel)
set_option maxRecDepth 20000 in
theorem gX2_least_X2_cell : GoodIn wsX2_least (va_wsS RX2 48 yX2_cell wsX2_cell) := goodIn_app (goodIn_of _ (by decide +kernel)) ggX2_least_X2_cell
theorem dX2_least_0 : decode cX2_least 0 = .ok (.aload_n 0, 1) := by decide +kernel
theorem dX2_least_1 : decode cX2_least 1 = .ok (.invokevirtual 26, 3) := by decide +kernel
theorem dX2_least_4 : decode cX2_least 4 = .ok (.aload_n 0, 1) := by decide +kernel
theorem dX2_least_5 : decode cX2_least 5 = .ok (.getfield 18, 3) := by decide +kernel
theorem dX2_least_8 : decode cX2_least 8 = .ok (.invokevirtual 29, 3) := by decide +kernel
theorem dX2_least_11 : decode cX2_least 11 = .ok (.iconst 1, 1) := by decide +kernel
theorem dX2_least_12 : decode cX2_least 12 = .ok (.isub, 1) := by decide +kernel
theorem dX2_least_13 : decode cX2_least 13 = .ok (.istore_n 1, 1) := by decide +kernel
theorem dX2_least_14 : decode cX2_least 14 = .ok (.iload_n 1, 1) := by decide +kernel
theorem dX2_least_15 : decode cX2_least 15 = .ok (.ifCond .lt 14, 3) := by decide +kernel
theorem dX2_least_18 : decode cX2_least 18 = .ok (.aload_n 0, 1) := by decide +kernel
theorem dX2_least_19 : decode cX2_least 19 = .ok (.iload_n 1, 1) := by decide +kernel
theorem dX2_least_20 : decode cX2_least 20 = .ok (.invokevirtual 35, 3) := by decide +kernel
theorem dX2_least_23 : decode cX2_least 23 = .ok (.iinc 1 (-1), 3) := by decide +kernel
theorem dX2_least_26 : decode cX2_least 26 = .ok (.goto (-12), 3) := by decide +kernel
theorem dX2_least_29 : decode cX2_least 29 = .ok (.aload_n 0, 1) := by decide +kernel
theorem dX2_least_30 : decode cX2_least 30 = .ok (.getfield 22, 3) := by decide +kernel
theorem dX2_least_33 : decode cX2_least 33 = .ok (.aload_n 0, 1) := by decide +kernel
theorem dX2_least_34 : decode cX2_least 34 = .ok (.getfield 18, 3) := by decide +kernel
theorem dX2_least_37 : decode cX2_least 37 = .ok (.iconst 0, 1) := by decide +kernel
theorem dX2_least_38 : decode cX2_least 38 = .ok (.invokevirtual 39, 3) := by decide +kernel
theorem dX2_least_41 : decode cX2_least 41 = .ok (.invokevirtual 43, 3) := by decide +kernel
theorem dX2_least_44 : decode cX2_least 44 = .ok (.aload_n 0, 1) := by decide +kernel
theorem dX2_least_45 : decode cX2_least 45 = .ok (.getfield 15, 3) := by decide +kernel
theorem dX2_least_48 : decode cX2_least 48 = .ok (.iconst 0, 1) := by decide +kernel
theorem dX2_least_49 : decode cX2_least 49 = .ok (.iconst 0, 1) := by decide +kernel
theorem dX2_least_50 : decode cX2_least 50 = .ok (.invokestatic 48, 3) := by decide +kernel
theorem dX2_least_53 : decode cX2_least 53 = .ok (.iaload, 1) := by decide +kernel
theorem dX2_least_54 : decode cX2_least 54 = .ok (.iadd, 1) := by decide +kernel
theorem dX2_least_55 : decode cX2_least 55 = .ok (.ireturn, 1) := by decide +kernel
set_option maxRecDepth 20000 in
theorem ggX2_leastSetAtLeastCost_X2_cell : GoodIn wsX2_leastSetAtLeastCost wsX2_cell := goodIn_r _ [6] (by decide +kernel) (by decide +kernel)
set_option maxRecDepth 20000 in
theorem gX2_leastSetAtLeastCost_X2_cell : GoodIn wsX2_leastSetAtLeastCost (va_wsS RX2 48 yX2_cell wsX2_cell) := goodIn_app (goodIn_of _ (by decide +kernel)) ggX2_leastSetAtLeastCost_X2_cell
set_option maxRecDepth 20000 in
theorem ggX2_leastSetAtLeastCost_X2_subsets : GoodIn wsX2_leastSetAtLeastCost wsX2_subsets := goodIn_r _ [9, 10, 11, 12, 13, 14, 15, 16] (by decide +kernel) (by decide +kernel)
set_option maxRecDepth 20000 in
theorem gX2_leastSetAtLeastCost_X2_subsets : GoodIn wsX2_leastSetAtLeastCost (va_wsS RX2 52 yX2_subsets wsX2_subsets) := goodIn_app (goodIn_of _ (by decide +kernel)) ggX2_leastSetAtLeastCost_X2_subsets
set_option maxRecDepth 20000 in
theorem ggX2_leastSetAtLeastCost_X2_subsetBehind : GoodIn wsX2_leastSetAtLeastCost wsX2_subsetBehind := goodIn_r _ [19] (by decide +kernel) (by decide +kernel)
set_option maxRecDepth 20000 in
theorem gX2_leastSetAtLeastCost_X2_subsetBehind : GoodIn wsX2_leastSetAtLeastCost (va_wsS RX2 55 yX2_subsetBehind wsX2_subsetBehind) := goodIn_app (goodIn_of _ (by decide +kernel)) ggX2_leastSetAtLeastCost_X2_subsetBehind
theorem dX2_leastSetAtLeastCost_0 : decode cX2_leastSetAtLeastCost 0 = .ok (.iload_n 2, 1) := by decide +kernel
theorem dX2_leastSetAtLeastCost_1 : decode cX2_leastSetAtLeastCost 1 = .ok (.aload_n 0, 1) := by decide +kernel
theorem dX2_leastSetAtLeastCost_2 : decode cX2_leastSetAtLeastCost 2 = .ok (.getfield 9, 3) := by decide +kernel
theorem dX2_leastSetAtLeastCost_5 : decode cX2_leastSetAtLeastCost 5 = .ok (.iload_n 1, 1) := by decide +kernel
theorem dX2_leastSetAtLeastCost_6 : decode cX2_leastSetAtLeastCost 6 = .ok (.iaload, 1) := by decide +kernel
theorem dX2_leastSetAtLeastCost_7 : decode cX2_leastSetAtLeastCost 7 = .ok (.iand, 1) := by decide +kernel
theorem dX2_leastSetAtLeastCost_8 : decode cX2_leastSetAtLeastCost 8 = .ok (.istore_n 3, 1) := by decide +kernel
theorem dX2_leastSetAtLeastCost_9 : decode cX2_leastSetAtLeastCost 9 = .ok (.aload_n 0, 1) := by decide +kernel
theorem dX2_leastSetAtLeastCost_10 : decode cX2_leastSetAtLeastCost 10 = .ok (.getfield 15, 3) := by decide +kernel
theorem dX2_leastSetAtLeastCost_13 : decode cX2_leastSetAtLeastCost 13 = .ok (.iload_n 1, 1) := by decide +kernel
theorem dX2_leastSetAtLeastCost_14 : decode cX2_leastSetAtLeastCost 14 = .ok (.iload_n 3, 1) := by decide +kernel
theorem dX2_leastSetAtLeastCost_15 : decode cX2_leastSetAtLeastCost 15 = .ok (.invokestatic 48, 3) := by decide +kernel
theorem dX2_leastSetAtLeastCost_18 : decode cX2_leastSetAtLeastCost 18 = .ok (.iaload, 1) := by decide +kernel
theorem dX2_leastSetAtLeastCost_19 : decode cX2_leastSetAtLeastCost 19 = .ok (.istore 4, 2) := by decide +kernel
theorem dX2_leastSetAtLeastCost_21 : decode cX2_leastSetAtLeastCost 21 = .ok (.iconst 0, 1) := by decide +kernel
theorem dX2_leastSetAtLeastCost_22 : decode cX2_leastSetAtLeastCost 22 = .ok (.istore 5, 2) := by decide +kernel
theorem dX2_leastSetAtLeastCost_24 : decode cX2_leastSetAtLeastCost 24 = .ok (.iload_n 3, 1) := by decide +kernel
theorem dX2_leastSetAtLeastCost_25 : decode cX2_leastSetAtLeastCost 25 = .ok (.invokestatic 52, 3) := by decide +kernel
theorem dX2_leastSetAtLeastCost_28 : decode cX2_leastSetAtLeastCost 28 = .ok (.istore 6, 2) := by decide +kernel
theorem dX2_leastSetAtLeastCost_30 : decode cX2_leastSetAtLeastCost 30 = .ok (.iload 6, 2) := by decide +kernel
theorem dX2_leastSetAtLeastCost_32 : decode cX2_leastSetAtLeastCost 32 = .ok (.ifCond .le 36, 3) := by decide +kernel
theorem dX2_leastSetAtLeastCost_35 : decode cX2_leastSetAtLeastCost 35 = .ok (.aload_n 0, 1) := by decide +kernel
theorem dX2_leastSetAtLeastCost_36 : decode cX2_leastSetAtLeastCost 36 = .ok (.getfield 15, 3) := by decide +kernel
theorem dX2_leastSetAtLeastCost_39 : decode cX2_leastSetAtLeastCost 39 = .ok (.iload_n 1, 1) := by decide +kernel
theorem dX2_leastSetAtLeastCost_40 : decode cX2_leastSetAtLeastCost 40 = .ok (.iload 5, 2) := by decide +kernel
theorem dX2_leastSetAtLeastCost_42 : decode cX2_leastSetAtLeastCost 42 = .ok (.invokestatic 48, 3) := by decide +kernel
theorem dX2_leastSetAtLeastCost_45 : decode cX2_leastSetAtLeastCost 45 = .ok (.iaload, 1) := by decide +kernel
theorem dX2_leastSetAtLeastCost_46 : decode cX2_leastSetAtLeastCost 46 = .ok (.iload 4, 2) := by decide +kernel
theorem dX2_leastSetAtLeastCost_48 : decode cX2_leastSetAtLeastCost 48 = .ok (.if_icmp .ne 6, 3) := by decide +kernel
theorem dX2_leastSetAtLeastCost_51 : decode cX2_leastSetAtLeastCost 51 = .ok (.iload 5, 2) := by decide +kernel
theorem dX2_leastSetAtLeastCost_53 : decode cX2_leastSetAtLeastCost 53 = .ok (.ireturn, 1) := by decide +kernel
theorem dX2_leastSetAtLeastCost_54 : decode cX2_leastSetAtLeastCost 54 = .ok (.iload_n 3, 1) := by decide +kernel
theorem dX2_leastSetAtLeastCost_55 : decode cX2_leastSetAtLeastCost 55 = .ok (.iload 5, 2) := by decide +kernel
theorem dX2_leastSetAtLeastCost_57 : decode cX2_leastSetAtLeastCost 57 = .ok (.invokestatic 55, 3) := by decide +kernel
theorem dX2_leastSetAtLeastCost_60 : decode cX2_leastSetAtLeastCost 60 = .ok (.istore 5, 2) := by decide +kernel
theorem dX2_leastSetAtLeastCost_62 : decode cX2_leastSetAtLeastCost 62 = .ok (.iinc 6 (-1), 3) := by decide +kernel
theorem dX2_leastSetAtLeastCost_65 : decode cX2_leastSetAtLeastCost 65 = .ok (.goto (-35), 3) := by decide +kernel
theorem dX2_leastSetAtLeastCost_68 : decode cX2_leastSetAtLeastCost 68 = .ok (.iload_n 3, 1) := by decide +kernel
theorem dX2_leastSetAtLeastCost_69 : decode cX2_leastSetAtLeastCost 69 = .ok (.ireturn, 1) := by decide +kernel
set_option maxRecDepth 20000 in
theorem ggX2_findWorthKeeping_X6_size : GoodIn wsX2_findWorthKeeping wsX6_size := goodIn_r _ [7, 8, 24, 25, 26, 27, 28, 29] (by decide +kernel) (by decide +kernel)
set_option maxRecDepth 20000 in
theorem gX2_findWorthKeeping_X6_size : GoodIn wsX2_findWorthKeeping (wsV RX2 29 RX6 yX6_size wsX6_size) := goodIn_app (goodIn_of _ (by decide +kernel)) ggX2_findWorthKeeping_X6_size
set_option maxRecDepth 20000 in
theorem ggX2_findWorthKeeping_X6_needs : GoodIn wsX2_findWorthKeeping wsX6_needs := goodIn_r _ [12, 13, 14, 24, 25, 26, 27, 28, 29] (by decide +kernel) (by decide +kernel)
set_option maxRecDepth 20000 in
theorem gX2_findWorthKeeping_X6_needs : GoodIn wsX2_findWorthKeeping (wsV RX2 39 RX6 yX6_needs wsX6_needs) := goodIn_app (goodIn_of _ (by decide +kernel)) ggX2_findWorthKeeping_X6_needs
set_option maxRecDepth 20000 in
theorem ggX2_findWorthKeeping_X6_broken : GoodIn wsX2_findWorthKeeping wsX6_broken := goodIn_r _ [18, 19, 24, 25, 26, 27, 28, 29] (by decide +kernel) (by decide +kernel)
set_option maxRecDepth 20000 in
theorem gX2_findWorthKeeping_X6_broken : GoodIn wsX2_findWorthKeeping (wsV RX2 58 RX6 yX6_broken wsX6_broken) := goodIn_app (goodIn_of _ (by decide +kernel)) ggX2_findWorthKeeping_X6_broken
theorem dX2_findWorthKeeping_0 : decode cX2_findWorthKeeping 0 = .ok (.iconst 0, 1) := by decide +kernel
theorem dX2_findWorthKeeping_1 : decode cX2_findWorthKeeping 1 = .ok (.istore_n 1, 1) := by decide +kernel
theorem dX2_findWorthKeeping_2 : decode cX2_findWorthKeeping 2 = .ok (.iconst 0, 1) := by decide +kernel
theorem dX2_findWorthKeeping_3 : decode cX2_findWorthKeeping 3 = .ok (.istore_n 2, 1) := by decide +kernel
theorem dX2_findWorthKeeping_4 : decode cX2_findWorthKeeping 4 = .ok (.iload_n 2, 1) := by decide +kernel
theorem dX2_findWorthKeeping_5 : decode cX2_findWorthKeeping 5 = .ok (.aload_n 0, 1) := by decide +kernel
theorem dX2_findWorthKeeping_6 : decode cX2_findWorthKeeping 6 = .ok (.getfield 18, 3) := by decide +kernel
theorem dX2_findWorthKeeping_9 : decode cX2_findWorthKeeping 9 = .ok (.invokevirtual 29, 3) := by decide +kernel
theorem dX2_findWorthKeeping_12 : decode cX2_findWorthKeeping 12 = .ok (.if_icmp .ge 49, 3) := by decide +kernel
theorem dX2_findWorthKeeping_15 : decode cX2_findWorthKeeping 15 = .ok (.aload_n 0, 1) := by decide +kernel
theorem dX2_findWorthKeeping_16 : decode cX2_findWorthKeeping 16 = .ok (.getfield 9, 3) := by decide +kernel
theorem dX2_findWorthKeeping_19 : decode cX2_findWorthKeeping 19 = .ok (.iload_n 2, 1) := by decide +kernel
theorem dX2_findWorthKeeping_20 : decode cX2_findWorthKeeping 20 = .ok (.iload_n 1, 1) := by decide +kernel
theorem dX2_findWorthKeeping_21 : decode cX2_findWorthKeeping 21 = .ok (.aload_n 0, 1) := by decide +kernel
theorem dX2_findWorthKeeping_22 : decode cX2_findWorthKeeping 22 = .ok (.getfield 18, 3) := by decide +kernel
theorem dX2_findWorthKeeping_25 : decode cX2_findWorthKeeping 25 = .ok (.iload_n 2, 1) := by decide +kernel
theorem dX2_findWorthKeeping_26 : decode cX2_findWorthKeeping 26 = .ok (.invokevirtual 39, 3) := by decide +kernel
theorem dX2_findWorthKeeping_29 : decode cX2_findWorthKeeping 29 = .ok (.iconst (-1), 1) := by decide +kernel
theorem dX2_findWorthKeeping_30 : decode cX2_findWorthKeeping 30 = .ok (.ixor, 1) := by decide +kernel
theorem dX2_findWorthKeeping_31 : decode cX2_findWorthKeeping 31 = .ok (.iand, 1) := by decide +kernel
theorem dX2_findWorthKeeping_32 : decode cX2_findWorthKeeping 32 = .ok (.iastore, 1) := by decide +kernel
theorem dX2_findWorthKeeping_33 : decode cX2_findWorthKeeping 33 = .ok (.iload_n 1, 1) := by decide +kernel
theorem dX2_findWorthKeeping_34 : decode cX2_findWorthKeeping 34 = .ok (.aload_n 0, 1) := by decide +kernel
theorem dX2_findWorthKeeping_35 : decode cX2_findWorthKeeping 35 = .ok (.getfield 18, 3) := by decide +kernel
theorem dX2_findWorthKeeping_38 : decode cX2_findWorthKeeping 38 = .ok (.iload_n 2, 1) := by decide +kernel
theorem dX2_findWorthKeeping_39 : decode cX2_findWorthKeeping 39 = .ok (.invokevirtual 39, 3) := by decide +kernel
theorem dX2_findWorthKeeping_42 : decode cX2_findWorthKeeping 42 = .ok (.ior, 1) := by decide +kernel
theorem dX2_findWorthKeeping_43 : decode cX2_findWorthKeeping 43 = .ok (.aload_n 0, 1) := by decide +kernel
theorem dX2_findWorthKeeping_44 : decode cX2_findWorthKeeping 44 = .ok (.getfield 18, 3) := by decide +kernel
theorem dX2_findWorthKeeping_47 : decode cX2_findWorthKeeping 47 = .ok (.iload_n 2, 1) := by decide +kernel
theorem dX2_findWorthKeeping_48 : decode cX2_findWorthKeeping 48 = .ok (.invokevirtual 58, 3) := by decide +kernel
theorem dX2_findWorthKeeping_51 : decode cX2_findWorthKeeping 51 = .ok (.iconst (-1), 1) := by decide +kernel
theorem dX2_findWorthKeeping_52 : decode cX2_findWorthKeeping 52 = .ok (.ixor, 1) := by decide +kernel
theorem dX2_findWorthKeeping_53 : decode cX2_findWorthKeeping 53 = .ok (.iand, 1) := by decide +kernel
theorem dX2_findWorthKeeping_54 : decode cX2_findWorthKeeping 54 = .ok (.istore_n 1, 1) := by decide +kernel
theorem dX2_findWorthKeeping_55 : decode cX2_findWorthKeeping 55 = .ok (.iinc 2 1, 3) := by decide +kernel
theorem dX2_findWorthKeeping_58 : decode cX2_findWorthKeeping 58 = .ok (.goto (-54), 3) := by decide +kernel
theorem dX2_findWorthKeeping_61 : decode cX2_findWorthKeeping 61 = .ok (.iconst 0, 1) := by decide +kernel
theorem dX2_findWorthKeeping_62 : decode cX2_findWorthKeeping 62 = .ok (.istore_n 2, 1) := by decide +kernel
theorem dX2_findWorthKeeping_63 : decode cX2_findWorthKeeping 63 = .ok (.aload_n 0, 1) := by decide +kernel
theorem dX2_findWorthKeeping_64 : decode cX2_findWorthKeeping 64 = .ok (.getfield 18, 3) := by decide +kernel
theorem dX2_findWorthKeeping_67 : decode cX2_findWorthKeeping 67 = .ok (.invokevirtual 29, 3) := by decide +kernel
theorem dX2_findWorthKeeping_70 : decode cX2_findWorthKeeping 70 = .ok (.iconst 1, 1) := by decide +kernel
theorem dX2_findWorthKeeping_71 : decode cX2_findWorthKeeping 71 = .ok (.isub, 1) := by decide +kernel
theorem dX2_findWorthKeeping_72 : decode cX2_findWorthKeeping 72 = .ok (.istore_n 3, 1) := by decide +kernel
theorem dX2_findWorthKeeping_73 : decode cX2_findWorthKeeping 73 = .ok (.iload_n 3, 1) := by decide +kernel
theorem dX2_findWorthKeeping_74 : decode cX2_findWorthKeeping 74 = .ok (.ifCond .lt 43, 3) := by decide +kernel
theorem dX2_findWorthKeeping_77 : decode cX2_findWorthKeeping 77 = .ok (.iload_n 2, 1) := by decide +kernel
theorem dX2_findWorthKeeping_78 : decode cX2_findWorthKeeping 78 = .ok (.aload_n 0, 1) := by decide +kernel
theorem dX2_findWorthKeeping_79 : decode cX2_findWorthKeeping 79 = .ok (.getfield 18, 3) := by decide +kernel
theorem dX2_findWorthKeeping_82 : decode cX2_findWorthKeeping 82 = .ok (.iload_n 3, 1) := by decide +kernel
theorem dX2_findWorthKeeping_83 : decode cX2_findWorthKeeping 83 = .ok (.invokevirtual 58, 3) := by decide +kernel
theorem dX2_findWorthKeeping_86 : decode cX2_findWorthKeeping 86 = .ok (.iconst (-1), 1) := by decide +kernel
theorem dX2_findWorthKeeping_87 : decode cX2_findWorthKeeping 87 = .ok (.ixor, 1) := by decide +kernel
theorem dX2_findWorthKeeping_88 : decode cX2_findWorthKeeping 88 = .ok (.iand, 1) := by decide +kernel
theorem dX2_findWorthKeeping_89 : decode cX2_findWorthKeeping 89 = .ok (.istore_n 2, 1) := by decide +kernel
theorem dX2_findWorthKeeping_90 : decode cX2_findWorthKeeping 90 = .ok (.aload_n 0, 1) := by decide +kernel
theorem dX2_findWorthKeeping_91 : decode cX2_findWorthKeeping 91 = .ok (.getfield 9, 3) := by decide +kernel
theorem dX2_findWorthKeeping_94 : decode cX2_findWorthKeeping 94 = .ok (.iload_n 3, 1) := by decide +kernel
theorem dX2_findWorthKeeping_95 : decode cX2_findWorthKeeping 95 = .ok (.dup2, 1) := by decide +kernel
theorem dX2_findWorthKeeping_96 : decode cX2_findWorthKeeping 96 = .ok (.iaload, 1) := by decide +kernel
theorem dX2_findWorthKeeping_97 : decode cX2_findWorthKeeping 97 = .ok (.iload_n 2, 1) := by decide +kernel
theorem dX2_findWorthKeeping_98 : decode cX2_findWorthKeeping 98 = .ok (.iand, 1) := by decide +kernel
theorem dX2_findWorthKeeping_99 : decode cX2_findWorthKeeping 99 = .ok (.iastore, 1) := by decide +kernel
theorem dX2_findWorthKeeping_100 : decode cX2_findWorthKeeping 100 = .ok (.iload_n 2, 1) := by decide +kernel
theorem dX2_findWorthKeeping_101 : decode cX2_findWorthKeeping 101 = .ok (.aload_n 0, 1) := by decide +kernel
theorem dX2_findWorthKeeping_102 : decode cX2_findWorthKeeping 102 = .ok (.getfield 18, 3) := by decide +kernel
theorem dX2_findWorthKeeping_105 : decode cX2_findWorthKeeping 105 = .ok (.iload_n 3, 1) := by decide +kernel
theorem dX2_findWorthKeeping_106 : decode cX2_findWorthKeeping 106 = .ok (.invokevirtual 39, 3) := by decide +kernel
theorem dX2_findWorthKeeping_109 : decode cX2_findWorthKeeping 109 = .ok (.ior, 1) := by decide +kernel
theorem dX2_findWorthKeeping_110 : decode cX2_findWorthKeeping 110 = .ok (.istore_n 2, 1) := by decide +kernel
theorem dX2_findWorthKeeping_111 : decode cX2_findWorthKeeping 111 = .ok (.iinc 3 (-1), 3) := by decide +kernel
theorem dX2_findWorthKeeping_114 : decode cX2_findWorthKeeping 114 = .ok (.goto (-41), 3) := by decide +kernel
theorem dX2_findWorthKeeping_117 : decode cX2_findWorthKeeping 117 = .ok (.return_, 1) := by decide +kernel
set_option maxRecDepth 20000 in
theorem ggX2_fillPlace_X2_subsets : GoodIn wsX2_fillPlace wsX2_subsets := goodIn_r _ [8, 9, 10, 11, 12, 13, 14, 15] (by decide +kernel) (by decide +kernel)
set_option maxRecDepth 20000 in
theorem gX2_fillPlace_X2_subsets : GoodIn wsX2_fillPlace (va_wsS RX2 52 yX2_subsets wsX2_subsets) := goodIn_app (goodIn_of _ (by decide +kernel)) ggX2_fillPlace_X2_subsets
set_option maxRecDepth 20000 in
theorem ggX2_fillPlace_X2_cell : GoodIn wsX2_fillPlace wsX2_cell := goodIn_r _ [18] (by decide +kernel) (by decide +kernel)
set_option maxRecDepth 20000 in
theorem gX2_fillPlace_X2_cell : GoodIn wsX2_fillPlace (va_wsS RX2 48 yX2_cell wsX2_cell) := goodIn_app (goodIn_of _ (by decide +kernel)) ggX2_fillPlace_X2_cell
set_option maxRecDepth 20000 in
theorem ggX2_fillPlace_X6_needs : GoodIn wsX2_fillPlace wsX6_needs := goodIn_r _ [23, 24, 25, 72, 73, 74, 75, 76, 77] (by decide +kernel) (by decide +kernel)
set_option maxRecDepth 20000 in
theorem gX2_fillPlace_X6_needs : GoodIn wsX2_fillPlace (wsV RX2 39 RX6 yX6_needs wsX6_needs) := goodIn_app (goodIn_of _ (by decide +kernel)) ggX2_fillPlace_X6_needs
set_option maxRecDepth 20000 in
theorem ggX2_fillPlace_X3_holds : GoodIn wsX2_fillPlace wsX3_holds := goodIn_r _ [30, 31, 32, 33, 34, 29, 35, 36, 37, 10, 11, 12, 13, 14, 15, 78, 79] (by decide +kernel) (by decide +kernel)
set_option maxRecDepth 20000 in
theorem gX2_fillPlace_X3_holds : GoodIn wsX2_fillPlace (wsV RX2 61 RX3 yX3_holds wsX3_holds) := goodIn_app (goodIn_of _ (by decide +kernel)) ggX2_fillPlace_X3_holds
set_option maxRecDepth 20000 in
theorem ggX2_fillPlace_X2_costIfKept : GoodIn wsX2_fillPlace wsX2_costIfKept := goodIn_r _ [41, 4, 3, 2, 1, 42, 43, 44, 22, 45, 46, 19, 20, 21, 23, 24, 25, 47, 48, 49, 50, 51, 52, 33, 34, 29, 35, 36, 37, 10, 11, 12, 13, 14, 15, 16, 17, 7, 18, 68, 69, 70, 71, 72, 73, 74, 75, 76, 77, 78, 79] (by decide +kernel) (by decide +kernel)
set_option maxRecDepth 20000 in
theorem gX2_fillPlace_X2_costIfKept : GoodIn wsX2_fillPlace (wsV RX2 65 RX2 yX2_costIfKept wsX2_costIfKept) := goodIn_app (goodIn_of _ (by decide +kernel)) ggX2_fillPlace_X2_costIfKept
set_option maxRecDepth 20000 in
theorem ggX2_fillPlace_X2_costOfFewer : GoodIn wsX2_fillPlace wsX2_costOfFewer := goodIn_r _ [56, 57, 2, 58, 59, 60, 61, 62, 63, 64, 16, 17, 7, 18, 68, 69, 70, 71] (by decide +kernel) (by decide +kernel)
set_option maxRecDepth 20000 in
theorem gX2_fillPlace_X2_costOfFewer : GoodIn wsX2_fillPlace (wsV RX2 68 RX2 yX2_costOfFewer wsX2_costOfFewer) := goodIn_app (goodIn_of _ (by decide +kernel)) ggX2_fillPlace_X2_costOfFewer
set_option maxRecDepth 20000 in
theorem ggX2_fillPlace_X2_subsetBehind : GoodIn wsX2_fillPlace wsX2_subsetBehind := goodIn_r _ [67] (by decide +kernel) (by decide +kernel)
set_option maxRecDepth 20000 in
theorem gX2_fillPlace_X2_subsetBehind : GoodIn wsX2_fillPlace (va_wsS RX2 55 yX2_subsetBehind wsX2_subsetBehind) := goodIn_app (goodIn_of _ (by decide +kernel)) ggX2_fillPlace_X2_subsetBehind
theorem dX2_fillPlace_0 : decode cX2_fillPlace 0 = .ok (.iconst 0, 1) := by decide +kernel
theorem dX2_fillPlace_1 : decode cX2_fillPlace 1 = .ok (.istore_n 2, 1) := by decide +kernel
theorem dX2_fillPlace_2 : decode cX2_fillPlace 2 = .ok (.aload_n 0, 1) := by decide +kernel
theorem dX2_fillPlace_3 : decode cX2_fillPlace 3 = .ok (.getfield 9, 3) := by decide +kernel
theorem dX2_fillPlace_6 : decode cX2_fillPlace 6 = .ok (.iload_n 1, 1) := by decide +kernel
theorem dX2_fillPlace_7 : decode cX2_fillPlace 7 = .ok (.iaload, 1) := by decide +kernel
theorem dX2_fillPlace_8 : decode cX2_fillPlace 8 = .ok (.invokestatic 52, 3) := by decide +kernel
theorem dX2_fillPlace_11 : decode cX2_fillPlace 11 = .ok (.istore_n 3, 1) := by decide +kernel
theorem dX2_fillPlace_12 : decode cX2_fillPlace 12 = .ok (.iload_n 3, 1) := by decide +kernel
theorem dX2_fillPlace_13 : decode cX2_fillPlace 13 = .ok (.ifCond .le 65, 3) := by decide +kernel
theorem dX2_fillPlace_16 : decode cX2_fillPlace 16 = .ok (.aload_n 0, 1) := by decide +kernel
theorem dX2_fillPlace_17 : decode cX2_fillPlace 17 = .ok (.getfield 15, 3) := by decide +kernel
theorem dX2_fillPlace_20 : decode cX2_fillPlace 20 = .ok (.iload_n 1, 1) := by decide +kernel
theorem dX2_fillPlace_21 : decode cX2_fillPlace 21 = .ok (.iload_n 2, 1) := by decide +kernel
theorem dX2_fillPlace_22 : decode cX2_fillPlace 22 = .ok (.invokestatic 48, 3) := by decide +kernel
theorem dX2_fillPlace_25 : decode cX2_fillPlace 25 = .ok (.aload_n 0, 1) := by decide +kernel
theorem dX2_fillPlace_26 : decode cX2_fillPlace 26 = .ok (.getfield 22, 3) := by decide +kernel
theorem dX2_fillPlace_29 : decode cX2_fillPlace 29 = .ok (.aload_n 0, 1) := by decide +kernel
theorem dX2_fillPlace_30 : decode cX2_fillPlace 30 = .ok (.getfield 18, 3) := by decide +kernel
theorem dX2_fillPlace_33 : decode cX2_fillPlace 33 = .ok (.iload_n 1, 1) := by decide +kernel
theorem dX2_fillPlace_34 : decode cX2_fillPlace 34 = .ok (.invokevirtual 39, 3) := by decide +kernel
theorem dX2_fillPlace_37 : decode cX2_fillPlace 37 = .ok (.iload_n 2, 1) := by decide +kernel
theorem dX2_fillPlace_38 : decode cX2_fillPlace 38 = .ok (.ior, 1) := by decide +kernel
theorem dX2_fillPlace_39 : decode cX2_fillPlace 39 = .ok (.invokevirtual 61, 3) := by decide +kernel
theorem dX2_fillPlace_42 : decode cX2_fillPlace 42 = .ok (.ifCond .eq 12, 3) := by decide +kernel
theorem dX2_fillPlace_45 : decode cX2_fillPlace 45 = .ok (.aload_n 0, 1) := by decide +kernel
theorem dX2_fillPlace_46 : decode cX2_fillPlace 46 = .ok (.iload_n 1, 1) := by decide +kernel
theorem dX2_fillPlace_47 : decode cX2_fillPlace 47 = .ok (.iload_n 2, 1) := by decide +kernel
theorem dX2_fillPlace_48 : decode cX2_fillPlace 48 = .ok (.invokevirtual 65, 3) := by decide +kernel
theorem dX2_fillPlace_51 : decode cX2_fillPlace 51 = .ok (.goto 9, 3) := by decide +kernel
theorem dX2_fillPlace_54 : decode cX2_fillPlace 54 = .ok (.aload_n 0, 1) := by decide +kernel
theorem dX2_fillPlace_55 : decode cX2_fillPlace 55 = .ok (.iload_n 1, 1) := by decide +kernel
theorem dX2_fillPlace_56 : decode cX2_fillPlace 56 = .ok (.iload_n 2, 1) := by decide +kernel
theorem dX2_fillPlace_57 : decode cX2_fillPlace 57 = .ok (.invokevirtual 68, 3) := by decide +kernel
theorem dX2_fillPlace_60 : decode cX2_fillPlace 60 = .ok (.iastore, 1) := by decide +kernel
theorem dX2_fillPlace_61 : decode cX2_fillPlace 61 = .ok (.aload_n 0, 1) := by decide +kernel
theorem dX2_fillPlace_62 : decode cX2_fillPlace 62 = .ok (.getfield 9, 3) := by decide +kernel
theorem dX2_fillPlace_65 : decode cX2_fillPlace 65 = .ok (.iload_n 1, 1) := by decide +kernel
theorem dX2_fillPlace_66 : decode cX2_fillPlace 66 = .ok (.iaload, 1) := by decide +kernel
theorem dX2_fillPlace_67 : decode cX2_fillPlace 67 = .ok (.iload_n 2, 1) := by decide +kernel
theorem dX2_fillPlace_68 : decode cX2_fillPlace 68 = .ok (.invokestatic 55, 3) := by decide +kernel
theorem dX2_fillPlace_71 : decode cX2_fillPlace 71 = .ok (.istore_n 2, 1) := by decide +kernel
theorem dX2_fillPlace_72 : decode cX2_fillPlace 72 = .ok (.iinc 3 (-1), 3) := by decide +kernel
theorem dX2_fillPlace_75 : decode cX2_fillPlace 75 = .ok (.goto (-63), 3) := by decide +kernel
theorem dX2_fillPlace_78 : decode cX2_fillPlace 78 = .ok (.return_, 1) := by decide +kernel
set_option maxRecDepth 20000 in
theorem ggX2_costIfKept_X6_size : GoodIn wsX2_costIfKept wsX6_size := goodIn_r _ [9, 10, 43, 44, 45, 46, 47, 48] (by decide +kernel) (by decide +kernel)
set_option maxRecDepth 20000 in
theorem gX2_costIfKept_X6_size : GoodIn wsX2_costIfKept (wsV RX2 29 RX6 yX6_size wsX6_size) := goodIn_app (goodIn_of _ (by decide +kernel)) ggX2_costIfKept_X6_size
set_option maxRecDepth 20000 in
theorem ggX2_costIfKept_X6_needs : GoodIn wsX2_costIfKept wsX6_needs := goodIn_r _ [14, 15, 16, 43, 44, 45, 46, 47, 48] (by decide +kernel) (by decide +kernel)
set_option maxRecDepth 20000 in
theorem gX2_costIfKept_X6_needs : GoodIn wsX2_costIfKept (wsV RX2 39 RX6 yX6_needs wsX6_needs) := goodIn_app (goodIn_of _ (by decide +kernel)) ggX2_costIfKept_X6_needs
set_option maxRecDepth 20000 in
theorem ggX2_costIfKept_X6_broken : GoodIn wsX2_costIfKept wsX6_broken := goodIn_r _ [20, 21, 43, 44, 45, 46, 47, 48] (by decide +kernel) (by decide +kernel)
set_option maxRecDepth 20000 in
theorem gX2_costIfKept_X6_broken : GoodIn wsX2_costIfKept (wsV RX2 58 RX6 yX6_broken wsX6_broken) := goodIn_app (goodIn_of _ (by decide +kernel)) ggX2_costIfKept_X6_broken
set_option maxRecDepth 20000 in
theorem ggX2_costIfKept_X3_sizeOf : GoodIn wsX2_costIfKept wsX3_sizeOf := goodIn_r _ [26, 27, 28, 29, 30, 31, 32, 33, 34, 49, 50] (by decide +kernel) (by decide +kernel)
set_option maxRecDepth 20000 in
theorem gX2_costIfKept_X3_sizeOf : GoodIn wsX2_costIfKept (wsV RX2 43 RX3 yX3_sizeOf wsX3_sizeOf) := goodIn_app (goodIn_of _ (by decide +kernel)) ggX2_costIfKept_X3_sizeOf
set_option maxRecDepth 20000 in
theorem ggX2_costIfKept_X2_cell : GoodIn wsX2_costIfKept wsX2_cell := goodIn_r _ [38] (by decide +kernel) (by decide +kernel)
set_option maxRecDepth 20000 in
theorem gX2_costIfKept_X2_cell : GoodIn wsX2_costIfKept (va_wsS RX2 48 yX2_cell wsX2_cell) := goodIn_app (goodIn_of _ (by decide +kernel)) ggX2_costIfKept_X2_cell
theorem dX2_costIfKept_0 : decode cX2_costIfKept 0 = .ok (.iload_n 1, 1) := by decide +kernel
theorem dX2_costIfKept_1 : decode cX2_costIfKept 1 = .ok (.iconst 1, 1) := by decide +kernel
theorem dX2_costIfKept_2 : decode cX2_costIfKept 2 = .ok (.iadd, 1) := by decide +kernel
theorem dX2_costIfKept_3 : decode cX2_costIfKept 3 = .ok (.aload_n 0, 1) := by decide +kernel
theorem dX2_costIfKept_4 : decode cX2_costIfKept 4 = .ok (.getfield 18, 3) := by decide +kernel
theorem dX2_costIfKept_7 : decode cX2_costIfKept 7 = .ok (.invokevirtual 29, 3) := by decide +kernel
theorem dX2_costIfKept_10 : decode cX2_costIfKept 10 = .ok (.if_icmp .lt 5, 3) := by decide +kernel
theorem dX2_costIfKept_13 : decode cX2_costIfKept 13 = .ok (.iconst 0, 1) := by decide +kernel
theorem dX2_costIfKept_14 : decode cX2_costIfKept 14 = .ok (.ireturn, 1) := by decide +kernel
theorem dX2_costIfKept_15 : decode cX2_costIfKept 15 = .ok (.aload_n 0, 1) := by decide +kernel
theorem dX2_costIfKept_16 : decode cX2_costIfKept 16 = .ok (.getfield 18, 3) := by decide +kernel
theorem dX2_costIfKept_19 : decode cX2_costIfKept 19 = .ok (.iload_n 1, 1) := by decide +kernel
theorem dX2_costIfKept_20 : decode cX2_costIfKept 20 = .ok (.invokevirtual 39, 3) := by decide +kernel
theorem dX2_costIfKept_23 : decode cX2_costIfKept 23 = .ok (.iload_n 2, 1) := by decide +kernel
theorem dX2_costIfKept_24 : decode cX2_costIfKept 24 = .ok (.ior, 1) := by decide +kernel
theorem dX2_costIfKept_25 : decode cX2_costIfKept 25 = .ok (.aload_n 0, 1) := by decide +kernel
theorem dX2_costIfKept_26 : decode cX2_costIfKept 26 = .ok (.getfield 18, 3) := by decide +kernel
theorem dX2_costIfKept_29 : decode cX2_costIfKept 29 = .ok (.iload_n 1, 1) := by decide +kernel
theorem dX2_costIfKept_30 : decode cX2_costIfKept 30 = .ok (.invokevirtual 58, 3) := by decide +kernel
theorem dX2_costIfKept_33 : decode cX2_costIfKept 33 = .ok (.iconst (-1), 1) := by decide +kernel
theorem dX2_costIfKept_34 : decode cX2_costIfKept 34 = .ok (.ixor, 1) := by decide +kernel
theorem dX2_costIfKept_35 : decode cX2_costIfKept 35 = .ok (.iand, 1) := by decide +kernel
theorem dX2_costIfKept_36 : decode cX2_costIfKept 36 = .ok (.istore_n 3, 1) := by decide +kernel
theorem dX2_costIfKept_37 : decode cX2_costIfKept 37 = .ok (.aload_n 0, 1) := by decide +kernel
theorem dX2_costIfKept_38 : decode cX2_costIfKept 38 = .ok (.getfield 18, 3) := by decide +kernel
theorem dX2_costIfKept_41 : decode cX2_costIfKept 41 = .ok (.iload_n 1, 1) := by decide +kernel
theorem dX2_costIfKept_42 : decode cX2_costIfKept 42 = .ok (.iconst 1, 1) := by decide +kernel
theorem dX2_costIfKept_43 : decode cX2_costIfKept 43 = .ok (.iadd, 1) := by decide +kernel
theorem dX2_costIfKept_44 : decode cX2_costIfKept 44 = .ok (.invokevirtual 39, 3) := by decide +kernel
theorem dX2_costIfKept_47 : decode cX2_costIfKept 47 = .ok (.iload_n 3, 1) := by decide +kernel
theorem dX2_costIfKept_48 : decode cX2_costIfKept 48 = .ok (.iconst (-1), 1) := by decide +kernel
theorem dX2_costIfKept_49 : decode cX2_costIfKept 49 = .ok (.ixor, 1) := by decide +kernel
theorem dX2_costIfKept_50 : decode cX2_costIfKept 50 = .ok (.iand, 1) := by decide +kernel
theorem dX2_costIfKept_51 : decode cX2_costIfKept 51 = .ok (.istore 4, 2) := by decide +kernel
theorem dX2_costIfKept_53 : decode cX2_costIfKept 53 = .ok (.aload_n 0, 1) := by decide +kernel
theorem dX2_costIfKept_54 : decode cX2_costIfKept 54 = .ok (.getfield 22, 3) := by decide +kernel
theorem dX2_costIfKept_57 : decode cX2_costIfKept 57 = .ok (.iload 4, 2) := by decide +kernel
theorem dX2_costIfKept_59 : decode cX2_costIfKept 59 = .ok (.invokevirtual 43, 3) := by decide +kernel
theorem dX2_costIfKept_62 : decode cX2_costIfKept 62 = .ok (.aload_n 0, 1) := by decide +kernel
theorem dX2_costIfKept_63 : decode cX2_costIfKept 63 = .ok (.getfield 15, 3) := by decide +kernel
theorem dX2_costIfKept_66 : decode cX2_costIfKept 66 = .ok (.iload_n 1, 1) := by decide +kernel
theorem dX2_costIfKept_67 : decode cX2_costIfKept 67 = .ok (.iconst 1, 1) := by decide +kernel
theorem dX2_costIfKept_68 : decode cX2_costIfKept 68 = .ok (.iadd, 1) := by decide +kernel
theorem dX2_costIfKept_69 : decode cX2_costIfKept 69 = .ok (.iload_n 3, 1) := by decide +kernel
theorem dX2_costIfKept_70 : decode cX2_costIfKept 70 = .ok (.aload_n 0, 1) := by decide +kernel
theorem dX2_costIfKept_71 : decode cX2_costIfKept 71 = .ok (.getfield 9, 3) := by decide +kernel
theorem dX2_costIfKept_74 : decode cX2_costIfKept 74 = .ok (.iload_n 1, 1) := by decide +kernel
theorem dX2_costIfKept_75 : decode cX2_costIfKept 75 = .ok (.iconst 1, 1) := by decide +kernel
theorem dX2_costIfKept_76 : decode cX2_costIfKept 76 = .ok (.iadd, 1) := by decide +kernel
theorem dX2_costIfKept_77 : decode cX2_costIfKept 77 = .ok (.iaload, 1) := by decide +kernel
theorem dX2_costIfKept_78 : decode cX2_costIfKept 78 = .ok (.iand, 1) := by decide +kernel
theorem dX2_costIfKept_79 : decode cX2_costIfKept 79 = .ok (.invokestatic 48, 3) := by decide +kernel
theorem dX2_costIfKept_82 : decode cX2_costIfKept 82 = .ok (.iaload, 1) := by decide +kernel
theorem dX2_costIfKept_83 : decode cX2_costIfKept 83 = .ok (.iadd, 1) := by decide +kernel
theorem dX2_costIfKept_84 : decode cX2_costIfKept 84 = .ok (.ireturn, 1) := by decide +kernel
set_option maxRecDepth 20000 in
theorem ggX2_costOfFewer_X8_hasTool : GoodIn wsX2_costOfFewer wsX8_hasTool := goodIn_r _ [9] (by decide +kernel) (by decide +kernel)
set_option maxRecDepth 20000 in
theorem gX2_costOfFewer_X8_hasTool_n74 : GoodIn wsX2_costOfFewer (wsX8_hasTool) := ggX2_costOfFewer_X8_hasTool
set_option maxRecDepth 20000 in
theorem ggX2_costOfFewer_X2_cell : GoodIn wsX2_costOfFewer wsX2_cell := goodIn_r _ [13] (by decide +kernel) (by decide +kernel)
set_option maxRecDepth 20000 in
theorem gX2_costOfFewer_X2_cell : GoodIn wsX2_costOfFewer (va_wsS RX2 48 yX2_cell wsX2_cell) := goodIn_app (goodIn_of _ (by decide +kernel)) ggX2_costOfFewer_X2_cell
theorem dX2_costOfFewer_0 : decode cX2_costOfFewer 0 = .ok (.ldc 73, 2) := by decide +kernel
theorem dX2_costOfFewer_2 : decode cX2_costOfFewer 2 = .ok (.istore_n 3, 1) := by decide +kernel
theorem dX2_costOfFewer_3 : decode cX2_costOfFewer 3 = .ok (.iconst 0, 1) := by decide +kernel
theorem dX2_costOfFewer_4 : decode cX2_costOfFewer 4 = .ok (.istore 4, 2) := by decide +kernel
theorem dX2_costOfFewer_6 : decode cX2_costOfFewer 6 = .ok (.iload 4, 2) := by decide +kernel
theorem dX2_costOfFewer_8 : decode cX2_costOfFewer 8 = .ok (.bipush 8, 2) := by decide +kernel
theorem dX2_costOfFewer_10 : decode cX2_costOfFewer 10 = .ok (.if_icmp .ge 40, 3) := by decide +kernel
theorem dX2_costOfFewer_13 : decode cX2_costOfFewer 13 = .ok (.iload_n 2, 1) := by decide +kernel
theorem dX2_costOfFewer_14 : decode cX2_costOfFewer 14 = .ok (.iload 4, 2) := by decide +kernel
theorem dX2_costOfFewer_16 : decode cX2_costOfFewer 16 = .ok (.invokestatic 74, 3) := by decide +kernel
theorem dX2_costOfFewer_19 : decode cX2_costOfFewer 19 = .ok (.ifCond .eq 25, 3) := by decide +kernel
theorem dX2_costOfFewer_22 : decode cX2_costOfFewer 22 = .ok (.iload_n 3, 1) := by decide +kernel
theorem dX2_costOfFewer_23 : decode cX2_costOfFewer 23 = .ok (.aload_n 0, 1) := by decide +kernel
theorem dX2_costOfFewer_24 : decode cX2_costOfFewer 24 = .ok (.getfield 15, 3) := by decide +kernel
theorem dX2_costOfFewer_27 : decode cX2_costOfFewer 27 = .ok (.iload_n 1, 1) := by decide +kernel
theorem dX2_costOfFewer_28 : decode cX2_costOfFewer 28 = .ok (.iload_n 2, 1) := by decide +kernel
theorem dX2_costOfFewer_29 : decode cX2_costOfFewer 29 = .ok (.iconst 1, 1) := by decide +kernel
theorem dX2_costOfFewer_30 : decode cX2_costOfFewer 30 = .ok (.iload 4, 2) := by decide +kernel
theorem dX2_costOfFewer_32 : decode cX2_costOfFewer 32 = .ok (.ishl, 1) := by decide +kernel
theorem dX2_costOfFewer_33 : decode cX2_costOfFewer 33 = .ok (.iconst (-1), 1) := by decide +kernel
theorem dX2_costOfFewer_34 : decode cX2_costOfFewer 34 = .ok (.ixor, 1) := by decide +kernel
theorem dX2_costOfFewer_35 : decode cX2_costOfFewer 35 = .ok (.iand, 1) := by decide +kernel
theorem dX2_costOfFewer_36 : decode cX2_costOfFewer 36 = .ok (.invokestatic 48, 3) := by decide +kernel
theorem dX2_costOfFewer_39 : decode cX2_costOfFewer 39 = .ok (.iaload, 1) := by decide +kernel
theorem dX2_costOfFewer_40 : decode cX2_costOfFewer 40 = .ok (.invokestatic 78, 3) := by decide +kernel
theorem dX2_costOfFewer_43 : decode cX2_costOfFewer 43 = .ok (.istore_n 3, 1) := by decide +kernel
theorem dX2_costOfFewer_44 : decode cX2_costOfFewer 44 = .ok (.iinc 4 1, 3) := by decide +kernel
theorem dX2_costOfFewer_47 : decode cX2_costOfFewer 47 = .ok (.goto (-41), 3) := by decide +kernel
theorem dX2_costOfFewer_50 : decode cX2_costOfFewer 50 = .ok (.iload_n 3, 1) := by decide +kernel
theorem dX2_costOfFewer_51 : decode cX2_costOfFewer 51 = .ok (.ireturn, 1) := by decide +kernel
theorem dX2_cell_0 : decode cX2_cell 0 = .ok (.iload_n 0, 1) := by decide +kernel
theorem dX2_cell_1 : decode cX2_cell 1 = .ok (.sipush 256, 3) := by decide +kernel
theorem dX2_cell_4 : decode cX2_cell 4 = .ok (.imul, 1) := by decide +kernel
theorem dX2_cell_5 : decode cX2_cell 5 = .ok (.iload_n 1, 1) := by decide +kernel
theorem dX2_cell_6 : decode cX2_cell 6 = .ok (.iadd, 1) := by decide +kernel
theorem dX2_cell_7 : decode cX2_cell 7 = .ok (.ireturn, 1) := by decide +kernel
set_option maxRecDepth 20000 in
theorem ggX2_subsets_J6_bitCount_0f7a4 : GoodIn wsX2_subsets wsJ6_bitCount_0f7a4 := goodIn_r _ [4, 5, 6, 7] (by decide +kernel) (by decide +kernel)
set_option maxRecDepth 20000 in
theorem gX2_subsets_J6_bitCount_0f7a4 : GoodIn wsX2_subsets (va_wsS RX2 83 yJ6_bitCount_0f7a4 wsJ6_bitCount_0f7a4) := goodIn_app (goodIn_of _ (by decide +kernel)) ggX2_subsets_J6_bitCount_0f7a4
theorem dX2_subsets_0 : decode cX2_subsets 0 = .ok (.iconst 1, 1) := by decide +kernel
theorem dX2_subsets_1 : decode cX2_subsets 1 = .ok (.iload_n 0, 1) := by decide +kernel
theorem dX2_subsets_2 : decode cX2_subsets 2 = .ok (.invokestatic 83, 3) := by decide +kernel
theorem dX2_subsets_5 : decode cX2_subsets 5 = .ok (.ishl, 1) := by decide +kernel
theorem dX2_subsets_6 : decode cX2_subsets 6 = .ok (.ireturn, 1) := by decide +kernel
theorem dX2_subsetBehind_0 : decode cX2_subsetBehind 0 = .ok (.iload_n 1, 1) := by decide +kernel
theorem dX2_subsetBehind_1 : decode cX2_subsetBehind 1 = .ok (.iload_n 0, 1) := by decide +kernel
theorem dX2_subsetBehind_2 : decode cX2_subsetBehind 2 = .ok (.isub, 1) := by decide +kernel
theorem dX2_subsetBehind_3 : decode cX2_subsetBehind 3 = .ok (.iload_n 0, 1) := by decide +kernel
theorem dX2_subsetBehind_4 : decode cX2_subsetBehind 4 = .ok (.iand, 1) := by decide +kernel
theorem dX2_subsetBehind_5 : decode cX2_subsetBehind 5 = .ok (.ireturn, 1) := by decide +kernel
theorem dX3_init_0 : decode cX3_init 0 = .ok (.aload_n 0, 1) := by decide +kernel
theorem dX3_init_1 : decode cX3_init 1 = .ok (.invokespecial 3, 3) := by decide +kernel
theorem dX3_init_4 : decode cX3_init 4 = .ok (.aload_n 0, 1) := by decide +kernel
theorem dX3_init_5 : decode cX3_init 5 = .ok (.iconst 4, 1) := by decide +kernel
theorem dX3_init_6 : decode cX3_init 6 = .ok (.putfield 9, 3) := by decide +kernel
theorem dX3_init_9 : decode cX3_init 9 = .ok (.return_, 1) := by decide +kernel
theorem dX3_bigTools_0 : decode cX3_bigTools 0 = .ok (.aload_n 0, 1) := by decide +kernel
theorem dX3_bigTools_1 : decode cX3_bigTools 1 = .ok (.getfield 15, 3) := by decide +kernel
theorem dX3_bigTools_4 : decode cX3_bigTools 4 = .ok (.ireturn, 1) := by decide +kernel
theorem dX3_room_0 : decode cX3_room 0 = .ok (.aload_n 0, 1) := by decide +kernel
theorem dX3_room_1 : decode cX3_room 1 = .ok (.getfield 9, 3) := by decide +kernel
theorem dX3_room_4 : decode cX3_room 4 = .ok (.ireturn, 1) := by decide +kernel
set_option maxRecDepth 20000 in
theorem ggX3_setBig_X8_withTool : GoodIn wsX3_setBig wsX8_withTool := goodIn_r _ [4] (by decide +kernel) (by decide +kernel)
set_option maxRecDepth 20000 in
theorem gX3_setBig_X8_withTool_n18 : GoodIn wsX3_setBig (wsX8_withTool) := ggX3_setBig_X8_withTool
theorem dX3_setBig_0 : decode cX3_setBig 0 = .ok (.aload_n 0, 1) := by decide +kernel
theorem dX3_setBig_1 : decode cX3_setBig 1 = .ok (.aload_n 0, 1) := by decide +kernel
theorem dX3_setBig_2 : decode cX3_setBig 2 = .ok (.getfield 15, 3) := by decide +kernel
theorem dX3_setBig_5 : decode cX3_setBig 5 = .ok (.iload_n 1, 1) := by decide +kernel
theorem dX3_setBig_6 : decode cX3_setBig 6 = .ok (.iload_n 2, 1) := by decide +kernel
theorem dX3_setBig_7 : decode cX3_setBig 7 = .ok (.invokestatic 18, 3) := by decide +kernel
theorem dX3_setBig_10 : decode cX3_setBig 10 = .ok (.putfield 15, 3) := by decide +kernel
theorem dX3_setBig_13 : decode cX3_setBig 13 = .ok (.return_, 1) := by decide +kernel
theorem dX3_setRoom_0 : decode cX3_setRoom 0 = .ok (.aload_n 0, 1) := by decide +kernel
theorem dX3_setRoom_1 : decode cX3_setRoom 1 = .ok (.iload_n 1, 1) := by decide +kernel
theorem dX3_setRoom_2 : decode cX3_setRoom 2 = .ok (.putfield 9, 3) := by decide +kernel
theorem dX3_setRoom_5 : decode cX3_setRoom 5 = .ok (.return_, 1) := by decide +kernel
set_option maxRecDepth 20000 in
theorem ggX3_sizeOf_J6_bitCount_0f7a4 : GoodIn wsX3_sizeOf wsJ6_bitCount_0f7a4 := goodIn_r _ [5, 6, 7, 8] (by decide +kernel) (by decide +kernel)
set_option maxRecDepth 20000 in
theorem gX3_sizeOf_J6_bitCount_0f7a4 : GoodIn wsX3_sizeOf (va_wsS RX3 22 yJ6_bitCount_0f7a4 wsJ6_bitCount_0f7a4) := goodIn_app (goodIn_of _ (by decide +kernel)) ggX3_sizeOf_J6_bitCount_0f7a4
theorem dX3_sizeOf_0 : decode cX3_sizeOf 0 = .ok (.iload_n 1, 1) := by decide +kernel
theorem dX3_sizeOf_1 : decode cX3_sizeOf 1 = .ok (.invokestatic 22, 3) := by decide +kernel
theorem dX3_sizeOf_4 : decode cX3_sizeOf 4 = .ok (.iload_n 1, 1) := by decide +kernel
theorem dX3_sizeOf_5 : decode cX3_sizeOf 5 = .ok (.aload_n 0, 1) := by decide +kernel
theorem dX3_sizeOf_6 : decode cX3_sizeOf 6 = .ok (.getfield 15, 3) := by decide +kernel
theorem dX3_sizeOf_9 : decode cX3_sizeOf 9 = .ok (.iand, 1) := by decide +kernel
theorem dX3_sizeOf_10 : decode cX3_sizeOf 10 = .ok (.invokestatic 22, 3) := by decide +kernel
theorem dX3_sizeOf_13 : decode cX3_sizeOf 13 = .ok (.iadd, 1) := by decide +kernel
theorem dX3_sizeOf_14 : decode cX3_sizeOf 14 = .ok (.ireturn, 1) := by decide +kernel
set_option maxRecDepth 20000 in
theorem ggX3_holds_X3_sizeOf : GoodIn wsX3_holds wsX3_sizeOf := goodIn_r _ [6, 7, 8, 9, 10, 11, 12, 13, 14, 15, 16] (by decide +kernel) (by decide +kernel)
set_option maxRecDepth 20000 in
theorem gX3_holds_X3_sizeOf : GoodIn wsX3_holds (wsV RX3 28 RX3 yX3_sizeOf wsX3_sizeOf) := goodIn_app (goodIn_of _ (by decide +kernel)) ggX3_holds_X3_sizeOf
theorem dX3_holds_0 : decode cX3_holds 0 = .ok (.aload_n 0, 1) := by decide +kernel
theorem dX3_holds_1 : decode cX3_holds 1 = .ok (.iload_n 1, 1) := by decide +kernel
theorem dX3_holds_2 : decode cX3_holds 2 = .ok (.invokevirtual 28, 3) := by decide +kernel
theorem dX3_holds_5 : decode cX3_holds 5 = .ok (.aload_n 0, 1) := by decide +kernel
theorem dX3_holds_6 : decode cX3_holds 6 = .ok (.getfield 9, 3) := by decide +kernel
theorem dX3_holds_9 : decode cX3_holds 9 = .ok (.if_icmp .gt 7, 3) := by decide +kernel
theorem dX3_holds_12 : decode cX3_holds 12 = .ok (.iconst 1, 1) := by decide +kernel
theorem dX3_holds_13 : decode cX3_holds 13 = .ok (.goto 4, 3) := by decide +kernel
theorem dX3_holds_16 : decode cX3_holds 16 = .ok (.iconst 0, 1) := by decide +kernel
theorem dX3_holds_17 : decode cX3_holds 17 = .ok (.ireturn, 1) := by decide +kernel
theorem dX4_init_0 : decode cX4_init 0 = .ok (.aload_n 0, 1) := by decide +kernel
theorem dX4_init_1 : decode cX4_init 1 = .ok (.invokespecial 3, 3) := by decide +kernel
theorem dX4_init_4 : decode cX4_init 4 = .ok (.aload_n 0, 1) := by decide +kernel
theorem dX4_init_5 : decode cX4_init 5 = .ok (.bipush 71, 2) := by decide +kernel
theorem dX4_init_7 : decode cX4_init 7 = .ok (.newarray .char, 2) := by decide +kernel
theorem dX4_init_9 : decode cX4_init 9 = .ok (.putfield 9, 3) := by decide +kernel
theorem dX4_init_12 : decode cX4_init 12 = .ok (.return_, 1) := by decide +kernel
theorem dX4_length_0 : decode cX4_length 0 = .ok (.aload_n 0, 1) := by decide +kernel
theorem dX4_length_1 : decode cX4_length 1 = .ok (.getfield 15, 3) := by decide +kernel
theorem dX4_length_4 : decode cX4_length 4 = .ok (.ireturn, 1) := by decide +kernel
theorem dX4_isFull_0 : decode cX4_isFull 0 = .ok (.aload_n 0, 1) := by decide +kernel
theorem dX4_isFull_1 : decode cX4_isFull 1 = .ok (.getfield 15, 3) := by decide +kernel
theorem dX4_isFull_4 : decode cX4_isFull 4 = .ok (.bipush 71, 2) := by decide +kernel
theorem dX4_isFull_6 : decode cX4_isFull 6 = .ok (.if_icmp .lt 7, 3) := by decide +kernel
theorem dX4_isFull_9 : decode cX4_isFull 9 = .ok (.iconst 1, 1) := by decide +kernel
theorem dX4_isFull_10 : decode cX4_isFull 10 = .ok (.goto 4, 3) := by decide +kernel
theorem dX4_isFull_13 : decode cX4_isFull 13 = .ok (.iconst 0, 1) := by decide +kernel
theorem dX4_isFull_14 : decode cX4_isFull 14 = .ok (.ireturn, 1) := by decide +kernel
set_option maxRecDepth 20000 in
theorem ggX4_write_X4_isFull : GoodIn wsX4_write wsX4_isFull := goodIn_r _ [7, 2, 8, 9] (by decide +kernel) (by decide +kernel)
set_option maxRecDepth 20000 in
theorem gX4_write_X4_isFull : GoodIn wsX4_write (wsV RX4 19 RX4 yX4_isFull wsX4_isFull) := goodIn_app (goodIn_of _ (by decide +kernel)) ggX4_write_X4_isFull
theorem dX4_write_0 : decode cX4_write 0 = .ok (.aload_n 0, 1) := by decide +kernel
theorem dX4_write_1 : decode cX4_write 1 = .ok (.invokevirtual 19, 3) := by decide +kernel
theorem dX4_write_4 : decode cX4_write 4 = .ok (.ifCond .ne 24, 3) := by decide +kernel
theorem dX4_write_7 : decode cX4_write 7 = .ok (.aload_n 0, 1) := by decide +kernel
theorem dX4_write_8 : decode cX4_write 8 = .ok (.getfield 9, 3) := by decide +kernel
theorem dX4_write_11 : decode cX4_write 11 = .ok (.aload_n 0, 1) := by decide +kernel
theorem dX4_write_12 : decode cX4_write 12 = .ok (.getfield 15, 3) := by decide +kernel
theorem dX4_write_15 : decode cX4_write 15 = .ok (.iload_n 1, 1) := by decide +kernel
theorem dX4_write_16 : decode cX4_write 16 = .ok (.i2c, 1) := by decide +kernel
theorem dX4_write_17 : decode cX4_write 17 = .ok (.castore, 1) := by decide +kernel
theorem dX4_write_18 : decode cX4_write 18 = .ok (.aload_n 0, 1) := by decide +kernel
theorem dX4_write_19 : decode cX4_write 19 = .ok (.dup, 1) := by decide +kernel
theorem dX4_write_20 : decode cX4_write 20 = .ok (.getfield 15, 3) := by decide +kernel
theorem dX4_write_23 : decode cX4_write 23 = .ok (.iconst 1, 1) := by decide +kernel
theorem dX4_write_24 : decode cX4_write 24 = .ok (.iadd, 1) := by decide +kernel
theorem dX4_write_25 : decode cX4_write 25 = .ok (.putfield 15, 3) := by decide +kernel
theorem dX4_write_28 : decode cX4_write 28 = .ok (.return_, 1) := by decide +kernel
theorem dX4_wipe_0 : decode cX4_wipe 0 = .ok (.aload_n 0, 1) := by decide +kernel
theorem dX4_wipe_1 : decode cX4_wipe 1 = .ok (.iconst 0, 1) := by decide +kernel
theorem dX4_wipe_2 : decode cX4_wipe 2 = .ok (.putfield 15, 3) := by decide +kernel
theorem dX4_wipe_5 : decode cX4_wipe 5 = .ok (.return_, 1) := by decide +kernel
theorem dX4_codeAt_0 : decode cX4_codeAt 0 = .ok (.iload_n 1, 1) := by decide +kernel
theorem dX4_codeAt_1 : decode cX4_codeAt 1 = .ok (.ifCond .lt 20, 3) := by decide +kernel
theorem dX4_codeAt_4 : decode cX4_codeAt 4 = .ok (.iload_n 1, 1) := by decide +kernel
theorem dX4_codeAt_5 : decode cX4_codeAt 5 = .ok (.aload_n 0, 1) := by decide +kernel
theorem dX4_codeAt_6 : decode cX4_codeAt 6 = .ok (.getfield 15, 3) := by decide +kernel
theorem dX4_codeAt_9 : decode cX4_codeAt 9 = .ok (.if_icmp .ge 12, 3) := by decide +kernel
theorem dX4_codeAt_12 : decode cX4_codeAt 12 = .ok (.aload_n 0, 1) := by decide +kernel
theorem dX4_codeAt_13 : decode cX4_codeAt 13 = .ok (.getfield 9, 3) := by decide +kernel
theorem dX4_codeAt_16 : decode cX4_codeAt 16 = .ok (.iload_n 1, 1) := by decide +kernel
theorem dX4_codeAt_17 : decode cX4_codeAt 17 = .ok (.caload, 1) := by decide +kernel
theorem dX4_codeAt_18 : decode cX4_codeAt 18 = .ok (.goto 4, 3) := by decide +kernel
theorem dX4_codeAt_21 : decode cX4_codeAt 21 = .ok (.iconst (-1), 1) := by decide +kernel
theorem dX4_codeAt_22 : decode cX4_codeAt 22 = .ok (.ireturn, 1) := by decide +kernel
theorem dX4_firstFault_0 : decode cX4_firstFault 0 = .ok (.iconst 1, 1) := by decide +kernel
theorem dX4_firstFault_1 : decode cX4_firstFault 1 = .ok (.istore_n 1, 1) := by decide +kernel
theorem dX4_firstFault_2 : decode cX4_firstFault 2 = .ok (.iconst (-1), 1) := by decide +kernel
theorem dX4_firstFault_3 : decode cX4_firstFault 3 = .ok (.istore_n 2, 1) := by decide +kernel
theorem dX4_firstFault_4 : decode cX4_firstFault 4 = .ok (.iconst 0, 1) := by decide +kernel
theorem dX4_firstFault_5 : decode cX4_firstFault 5 = .ok (.istore_n 3, 1) := by decide +kernel
theorem dX4_firstFault_6 : decode cX4_firstFault 6 = .ok (.iload_n 3, 1) := by decide +kernel
theorem dX4_firstFault_7 : decode cX4_firstFault 7 = .ok (.aload_n 0, 1) := by decide +kernel
theorem dX4_firstFault_8 : decode cX4_firstFault 8 = .ok (.getfield 15, 3) := by decide +kernel
theorem dX4_firstFault_11 : decode cX4_firstFault 11 = .ok (.if_icmp .ge 70, 3) := by decide +kernel
theorem dX4_firstFault_14 : decode cX4_firstFault 14 = .ok (.aload_n 0, 1) := by decide +kernel
theorem dX4_firstFault_15 : decode cX4_firstFault 15 = .ok (.getfield 9, 3) := by decide +kernel
theorem dX4_firstFault_18 : decode cX4_firstFault 18 = .ok (.iload_n 3, 1) := by decide +kernel
theorem dX4_firstFault_19 : decode cX4_firstFault 19 = .ok (.caload, 1) := by decide +kernel
theorem dX4_firstFault_20 : decode cX4_firstFault 20 = .ok (.bipush 44, 2) := by decide +kernel
theorem dX4_firstFault_22 : decode cX4_firstFault 22 = .ok (.if_icmp .ne 24, 3) := by decide +kernel
theorem dX4_firstFault_25 : decode cX4_firstFault 25 = .ok (.iload_n 2, 1) := by decide +kernel
theorem dX4_firstFault_26 : decode cX4_firstFault 26 = .ok (.iconst (-1), 1) := by decide +kernel
theorem dX4_firstFault_27 : decode cX4_firstFault 27 = .ok (.if_icmp .eq 9, 3) := by decide +kernel
theorem dX4_firstFault_30 : decode cX4_firstFault 30 = .ok (.iload_n 1, 1) := by decide +kernel
theorem dX4_firstFault_31 : decode cX4_firstFault 31 = .ok (.bipush 8, 2) := by decide +kernel
theorem dX4_firstFault_33 : decode cX4_firstFault 33 = .ok (.if_icmp .ne 5, 3) := by decide +kernel
theorem dX4_firstFault_36 : decode cX4_firstFault 36 = .ok (.iload_n 3, 1) := by decide +kernel
theorem dX4_firstFault_37 : decode cX4_firstFault 37 = .ok (.ireturn, 1) := by decide +kernel
theorem dX4_firstFault_38 : decode cX4_firstFault 38 = .ok (.iinc 1 1, 3) := by decide +kernel
theorem dX4_firstFault_41 : decode cX4_firstFault 41 = .ok (.iconst (-1), 1) := by decide +kernel
theorem dX4_firstFault_42 : decode cX4_firstFault 42 = .ok (.istore_n 2, 1) := by decide +kernel
theorem dX4_firstFault_43 : decode cX4_firstFault 43 = .ok (.goto 32, 3) := by decide +kernel
theorem dX4_firstFault_46 : decode cX4_firstFault 46 = .ok (.aload_n 0, 1) := by decide +kernel
theorem dX4_firstFault_47 : decode cX4_firstFault 47 = .ok (.getfield 9, 3) := by decide +kernel
theorem dX4_firstFault_50 : decode cX4_firstFault 50 = .ok (.iload_n 3, 1) := by decide +kernel
theorem dX4_firstFault_51 : decode cX4_firstFault 51 = .ok (.caload, 1) := by decide +kernel
theorem dX4_firstFault_52 : decode cX4_firstFault 52 = .ok (.bipush 97, 2) := by decide +kernel
theorem dX4_firstFault_54 : decode cX4_firstFault 54 = .ok (.isub, 1) := by decide +kernel
theorem dX4_firstFault_55 : decode cX4_firstFault 55 = .ok (.istore 4, 2) := by decide +kernel
theorem dX4_firstFault_57 : decode cX4_firstFault 57 = .ok (.iload 4, 2) := by decide +kernel
theorem dX4_firstFault_59 : decode cX4_firstFault 59 = .ok (.iload_n 2, 1) := by decide +kernel
theorem dX4_firstFault_60 : decode cX4_firstFault 60 = .ok (.if_icmp .le 10, 3) := by decide +kernel
theorem dX4_firstFault_63 : decode cX4_firstFault 63 = .ok (.iload 4, 2) := by decide +kernel
theorem dX4_firstFault_65 : decode cX4_firstFault 65 = .ok (.bipush 8, 2) := by decide +kernel
theorem dX4_firstFault_67 : decode cX4_firstFault 67 = .ok (.if_icmp .lt 5, 3) := by decide +kernel
theorem dX4_firstFault_70 : decode cX4_firstFault 70 = .ok (.iload_n 3, 1) := by decide +kernel
theorem dX4_firstFault_71 : decode cX4_firstFault 71 = .ok (.ireturn, 1) := by decide +kernel
theorem dX4_firstFault_72 : decode cX4_firstFault 72 = .ok (.iload 4, 2) := by decide +kernel
theorem dX4_firstFault_74 : decode cX4_firstFault 74 = .ok (.istore_n 2, 1) := by decide +kernel
theorem dX4_firstFault_75 : decode cX4_firstFault 75 = .ok (.iinc 3 1, 3) := by decide +kernel
theorem dX4_firstFault_78 : decode cX4_firstFault 78 = .ok (.goto (-72), 3) := by decide +kernel
theorem dX4_firstFault_81 : decode cX4_firstFault 81 = .ok (.aload_n 0, 1) := by decide +kernel
theorem dX4_firstFault_82 : decode cX4_firstFault 82 = .ok (.getfield 15, 3) := by decide +kernel
theorem dX4_firstFault_85 : decode cX4_firstFault 85 = .ok (.ireturn, 1) := by decide +kernel
set_option maxRecDepth 20000 in
theorem ggX4_isWhole_X4_firstFault : GoodIn wsX4_isWhole wsX4_firstFault := goodIn_r _ [7, 1, 2, 8, 9] (by decide +kernel) (by decide +kernel)
set_option maxRecDepth 20000 in
theorem gX4_isWhole_X4_firstFault : GoodIn wsX4_isWhole (wsV RX4 23 RX4 yX4_firstFault wsX4_firstFault) := goodIn_app (goodIn_of _ (by decide +kernel)) ggX4_isWhole_X4_firstFault
theorem dX4_isWhole_0 : decode cX4_isWhole 0 = .ok (.aload_n 0, 1) := by decide +kernel
theorem dX4_isWhole_1 : decode cX4_isWhole 1 = .ok (.getfield 15, 3) := by decide +kernel
theorem dX4_isWhole_4 : decode cX4_isWhole 4 = .ok (.ifCond .le 34, 3) := by decide +kernel
theorem dX4_isWhole_7 : decode cX4_isWhole 7 = .ok (.aload_n 0, 1) := by decide +kernel
theorem dX4_isWhole_8 : decode cX4_isWhole 8 = .ok (.getfield 9, 3) := by decide +kernel
theorem dX4_isWhole_11 : decode cX4_isWhole 11 = .ok (.aload_n 0, 1) := by decide +kernel
theorem dX4_isWhole_12 : decode cX4_isWhole 12 = .ok (.getfield 15, 3) := by decide +kernel
theorem dX4_isWhole_15 : decode cX4_isWhole 15 = .ok (.iconst 1, 1) := by decide +kernel
theorem dX4_isWhole_16 : decode cX4_isWhole 16 = .ok (.isub, 1) := by decide +kernel
theorem dX4_isWhole_17 : decode cX4_isWhole 17 = .ok (.caload, 1) := by decide +kernel
theorem dX4_isWhole_18 : decode cX4_isWhole 18 = .ok (.bipush 44, 2) := by decide +kernel
theorem dX4_isWhole_20 : decode cX4_isWhole 20 = .ok (.if_icmp .eq 18, 3) := by decide +kernel
theorem dX4_isWhole_23 : decode cX4_isWhole 23 = .ok (.aload_n 0, 1) := by decide +kernel
theorem dX4_isWhole_24 : decode cX4_isWhole 24 = .ok (.invokevirtual 23, 3) := by decide +kernel
theorem dX4_isWhole_27 : decode cX4_isWhole 27 = .ok (.aload_n 0, 1) := by decide +kernel
theorem dX4_isWhole_28 : decode cX4_isWhole 28 = .ok (.getfield 15, 3) := by decide +kernel
theorem dX4_isWhole_31 : decode cX4_isWhole 31 = .ok (.if_icmp .ne 7, 3) := by decide +kernel
theorem dX4_isWhole_34 : decode cX4_isWhole 34 = .ok (.iconst 1, 1) := by decide +kernel
theorem dX4_isWhole_35 : decode cX4_isWhole 35 = .ok (.goto 4, 3) := by decide +kernel
theorem dX4_isWhole_38 : decode cX4_isWhole 38 = .ok (.iconst 0, 1) := by decide +kernel
theorem dX4_isWhole_39 : decode cX4_isWhole 39 = .ok (.ireturn, 1) := by decide +kernel
set_option maxRecDepth 20000 in
theorem ggX5_init_X1_init : GoodIn wsX5_init wsX1_init := goodIn_r _ [5, 6, 7, 8, 9, 10, 11, 12, 13, 14, 15, 16, 17, 18, 19, 20, 21, 22, 23, 24, 25] (by decide +kernel) (by decide +kernel)
set_option maxRecDepth 20000 in
theorem gX5_init_X1_init : GoodIn wsX5_init (wsX1_init) := ggX5_init_X1_init
theorem dX5_init_0 : decode cX5_init 0 = .ok (.aload_n 0, 1) := by decide +kernel
theorem dX5_init_1 : decode cX5_init 1 = .ok (.aload_n 1, 1) := by decide +kernel
theorem dX5_init_2 : decode cX5_init 2 = .ok (.aload_n 2, 1) := by decide +kernel
theorem dX5_init_3 : decode cX5_init 3 = .ok (.invokespecial 1, 3) := by decide +kernel
theorem dX5_init_6 : decode cX5_init 6 = .ok (.aload_n 0, 1) := by decide +kernel
theorem dX5_init_7 : decode cX5_init 7 = .ok (.aload_n 3, 1) := by decide +kernel
theorem dX5_init_8 : decode cX5_init 8 = .ok (.putfield 7, 3) := by decide +kernel
theorem dX5_init_11 : decode cX5_init 11 = .ok (.return_, 1) := by decide +kernel
set_option maxRecDepth 20000 in
theorem ggX5_staying_X2_leastSetAtLeastCost : GoodIn wsX5_staying wsX2_leastSetAtLeastCost := goodIn_r _ [6, 7, 8, 9, 10, 5, 11, 12, 13, 14, 15, 16, 17, 18, 19, 20, 21, 22, 23, 24, 31, 32, 33, 34] (by decide +kernel) (by decide +kernel)
set_option maxRecDepth 20000 in
theorem gX5_staying_X2_leastSetAtLeastCost : GoodIn wsX5_staying (wsV RX5 13 RX2 yX2_leastSetAtLeastCost wsX2_leastSetAtLeastCost) := goodIn_app (goodIn_of _ (by decide +kernel)) ggX5_staying_X2_leastSetAtLeastCost
theorem dX5_staying_0 : decode cX5_staying 0 = .ok (.aload_n 0, 1) := by decide +kernel
theorem dX5_staying_1 : decode cX5_staying 1 = .ok (.getfield 7, 3) := by decide +kernel
theorem dX5_staying_4 : decode cX5_staying 4 = .ok (.iload_n 1, 1) := by decide +kernel
theorem dX5_staying_5 : decode cX5_staying 5 = .ok (.iload_n 2, 1) := by decide +kernel
theorem dX5_staying_6 : decode cX5_staying 6 = .ok (.invokevirtual 13, 3) := by decide +kernel
theorem dX5_staying_9 : decode cX5_staying 9 = .ok (.ireturn, 1) := by decide +kernel
theorem dX6_init_0 : decode cX6_init 0 = .ok (.aload_n 0, 1) := by decide +kernel
theorem dX6_init_1 : decode cX6_init 1 = .ok (.invokespecial 3, 3) := by decide +kernel
theorem dX6_init_4 : decode cX6_init 4 = .ok (.aload_n 0, 1) := by decide +kernel
theorem dX6_init_5 : decode cX6_init 5 = .ok (.bipush 8, 2) := by decide +kernel
theorem dX6_init_7 : decode cX6_init 7 = .ok (.newarray .int, 2) := by decide +kernel
theorem dX6_init_9 : decode cX6_init 9 = .ok (.putfield 9, 3) := by decide +kernel
theorem dX6_init_12 : decode cX6_init 12 = .ok (.aload_n 0, 1) := by decide +kernel
theorem dX6_init_13 : decode cX6_init 13 = .ok (.bipush 8, 2) := by decide +kernel
theorem dX6_init_15 : decode cX6_init 15 = .ok (.newarray .int, 2) := by decide +kernel
theorem dX6_init_17 : decode cX6_init 17 = .ok (.putfield 15, 3) := by decide +kernel
theorem dX6_init_20 : decode cX6_init 20 = .ok (.aload_n 0, 1) := by decide +kernel
theorem dX6_init_21 : decode cX6_init 21 = .ok (.bipush 8, 2) := by decide +kernel
theorem dX6_init_23 : decode cX6_init 23 = .ok (.newarray .int, 2) := by decide +kernel
theorem dX6_init_25 : decode cX6_init 25 = .ok (.putfield 18, 3) := by decide +kernel
theorem dX6_init_28 : decode cX6_init 28 = .ok (.return_, 1) := by decide +kernel
theorem dX6_size_0 : decode cX6_size 0 = .ok (.aload_n 0, 1) := by decide +kernel
theorem dX6_size_1 : decode cX6_size 1 = .ok (.getfield 21, 3) := by decide +kernel
theorem dX6_size_4 : decode cX6_size 4 = .ok (.ireturn, 1) := by decide +kernel
theorem dX6_changes_0 : decode cX6_changes 0 = .ok (.aload_n 0, 1) := by decide +kernel
theorem dX6_changes_1 : decode cX6_changes 1 = .ok (.getfield 25, 3) := by decide +kernel
theorem dX6_changes_4 : decode cX6_changes 4 = .ok (.ireturn, 1) := by decide +kernel
theorem dX6_reads_0 : decode cX6_reads 0 = .ok (.aload_n 0, 1) := by decide +kernel
theorem dX6_reads_1 : decode cX6_reads 1 = .ok (.getfield 28, 3) := by decide +kernel
theorem dX6_reads_4 : decode cX6_reads 4 = .ok (.ireturn, 1) := by decide +kernel
theorem dX6_isPlace_0 : decode cX6_isPlace 0 = .ok (.iload_n 1, 1) := by decide +kernel
theorem dX6_isPlace_1 : decode cX6_isPlace 1 = .ok (.ifCond .lt 15, 3) := by decide +kernel
theorem dX6_isPlace_4 : decode cX6_isPlace 4 = .ok (.iload_n 1, 1) := by decide +kernel
theorem dX6_isPlace_5 : decode cX6_isPlace 5 = .ok (.aload_n 0, 1) := by decide +kernel
theorem dX6_isPlace_6 : decode cX6_isPlace 6 = .ok (.getfield 21, 3) := by decide +kernel
theorem dX6_isPlace_9 : decode cX6_isPlace 9 = .ok (.if_icmp .ge 7, 3) := by decide +kernel
theorem dX6_isPlace_12 : decode cX6_isPlace 12 = .ok (.iconst 1, 1) := by decide +kernel
theorem dX6_isPlace_13 : decode cX6_isPlace 13 = .ok (.goto 4, 3) := by decide +kernel
theorem dX6_isPlace_16 : decode cX6_isPlace 16 = .ok (.iconst 0, 1) := by decide +kernel
theorem dX6_isPlace_17 : decode cX6_isPlace 17 = .ok (.ireturn, 1) := by decide +kernel
theorem dX6_needs_0 : decode cX6_needs 0 = .ok (.aload_n 0, 1) := by decide +kernel
theorem dX6_needs_1 : decode cX6_needs 1 = .ok (.getfield 9, 3) := by decide +kernel
theorem dX6_needs_4 : decode cX6_needs 4 = .ok (.aload_n 0, 1) := by decide +kernel
theorem dX6_needs_5 : decode cX6_needs 5 = .ok (.getfield 15, 3) := by decide +kernel
theorem dX6_needs_8 : decode cX6_needs 8 = .ok (.iload_n 1, 1) := by decide +kernel
theorem dX6_needs_9 : decode cX6_needs 9 = .ok (.iaload, 1) := by decide +kernel
theorem dX6_needs_10 : decode cX6_needs 10 = .ok (.iaload, 1) := by decide +kernel
theorem dX6_needs_11 : decode cX6_needs 11 = .ok (.ireturn, 1) := by decide +kernel
theorem dX6_number_0 : decode cX6_number 0 = .ok (.aload_n 0, 1) := by decide +kernel
theorem dX6_number_1 : decode cX6_number 1 = .ok (.getfield 15, 3) := by decide +kernel
theorem dX6_number_4 : decode cX6_number 4 = .ok (.iload_n 1, 1) := by decide +kernel
theorem dX6_number_5 : decode cX6_number 5 = .ok (.iaload, 1) := by decide +kernel
theorem dX6_number_6 : decode cX6_number 6 = .ok (.ireturn, 1) := by decide +kernel
theorem dX6_broken_0 : decode cX6_broken 0 = .ok (.aload_n 0, 1) := by decide +kernel
theorem dX6_broken_1 : decode cX6_broken 1 = .ok (.getfield 18, 3) := by decide +kernel
theorem dX6_broken_4 : decode cX6_broken 4 = .ok (.iload_n 1, 1) := by decide +kernel
theorem dX6_broken_5 : decode cX6_broken 5 = .ok (.iaload, 1) := by decide +kernel
theorem dX6_broken_6 : decode cX6_broken 6 = .ok (.ireturn, 1) := by decide +kernel
set_option maxRecDepth 20000 in
theorem ggX6_read_X4_isWhole : GoodIn wsX6_read wsX4_isWhole := goodIn_r _ [8, 9, 10, 11, 12, 13, 7, 14, 37, 38] (by decide +kernel) (by decide +kernel)
set_option maxRecDepth 20000 in
theorem gX6_read_X4_isWhole : GoodIn wsX6_read (wsV RX6 31 RX4 yX4_isWhole wsX4_isWhole) := goodIn_app (goodIn_of _ (by decide +kernel)) ggX6_read_X4_isWhole
set_option maxRecDepth 20000 in
theorem ggX6_read_X6_clear : GoodIn wsX6_read wsX6_clear := goodIn_r _ [19, 1, 20, 21, 22, 31, 32, 33, 34, 35, 36] (by decide +kernel) (by decide +kernel)
set_option maxRecDepth 20000 in
theorem gX6_read_X6_clear : GoodIn wsX6_read (wsV RX6 37 RX6 yX6_clear wsX6_clear) := goodIn_app (goodIn_of _ (by decide +kernel)) ggX6_read_X6_clear
set_option maxRecDepth 20000 in
theorem ggX6_read_X4_length : GoodIn wsX6_read wsX4_length := goodIn_r _ [26, 9, 37, 38] (by decide +kernel) (by decide +kernel)
set_option maxRecDepth 20000 in
theorem gX6_read_X4_length : GoodIn wsX6_read (wsV RX6 40 RX4 yX4_length wsX4_length) := goodIn_app (goodIn_of _ (by decide +kernel)) ggX6_read_X4_length
set_option maxRecDepth 20000 in
theorem ggX6_read_X4_codeAt : GoodIn wsX6_read wsX4_codeAt := goodIn_r _ [30, 9, 10, 37, 38] (by decide +kernel) (by decide +kernel)
set_option maxRecDepth 20000 in
theorem gX6_read_X4_codeAt : GoodIn wsX6_read (wsV RX6 44 RX4 yX4_codeAt wsX4_codeAt) := goodIn_app (goodIn_of _ (by decide +kernel)) ggX6_read_X4_codeAt
theorem dX6_read_0 : decode cX6_read 0 = .ok (.aload_n 1, 1) := by decide +kernel
theorem dX6_read_1 : decode cX6_read 1 = .ok (.invokevirtual 31, 3) := by decide +kernel
theorem dX6_read_4 : decode cX6_read 4 = .ok (.ifCond .ne 5, 3) := by decide +kernel
theorem dX6_read_7 : decode cX6_read 7 = .ok (.iconst 0, 1) := by decide +kernel
theorem dX6_read_8 : decode cX6_read 8 = .ok (.ireturn, 1) := by decide +kernel
theorem dX6_read_9 : decode cX6_read 9 = .ok (.aload_n 0, 1) := by decide +kernel
theorem dX6_read_10 : decode cX6_read 10 = .ok (.invokevirtual 37, 3) := by decide +kernel
theorem dX6_read_13 : decode cX6_read 13 = .ok (.iconst 0, 1) := by decide +kernel
theorem dX6_read_14 : decode cX6_read 14 = .ok (.istore_n 2, 1) := by decide +kernel
theorem dX6_read_15 : decode cX6_read 15 = .ok (.iconst 0, 1) := by decide +kernel
theorem dX6_read_16 : decode cX6_read 16 = .ok (.istore_n 3, 1) := by decide +kernel
theorem dX6_read_17 : decode cX6_read 17 = .ok (.iload_n 3, 1) := by decide +kernel
theorem dX6_read_18 : decode cX6_read 18 = .ok (.aload_n 1, 1) := by decide +kernel
theorem dX6_read_19 : decode cX6_read 19 = .ok (.invokevirtual 40, 3) := by decide +kernel
theorem dX6_read_22 : decode cX6_read 22 = .ok (.if_icmp .ge 44, 3) := by decide +kernel
theorem dX6_read_25 : decode cX6_read 25 = .ok (.aload_n 1, 1) := by decide +kernel
theorem dX6_read_26 : decode cX6_read 26 = .ok (.iload_n 3, 1) := by decide +kernel
theorem dX6_read_27 : decode cX6_read 27 = .ok (.invokevirtual 44, 3) := by decide +kernel
theorem dX6_read_30 : decode cX6_read 30 = .ok (.bipush 44, 2) := by decide +kernel
theorem dX6_read_32 : decode cX6_read 32 = .ok (.if_icmp .ne 9, 3) := by decide +kernel
theorem dX6_read_35 : decode cX6_read 35 = .ok (.iinc 2 1, 3) := by decide +kernel
theorem dX6_read_38 : decode cX6_read 38 = .ok (.goto 22, 3) := by decide +kernel
theorem dX6_read_41 : decode cX6_read 41 = .ok (.aload_n 0, 1) := by decide +kernel
theorem dX6_read_42 : decode cX6_read 42 = .ok (.getfield 9, 3) := by decide +kernel
theorem dX6_read_45 : decode cX6_read 45 = .ok (.iload_n 2, 1) := by decide +kernel
theorem dX6_read_46 : decode cX6_read 46 = .ok (.dup2, 1) := by decide +kernel
theorem dX6_read_47 : decode cX6_read 47 = .ok (.iaload, 1) := by decide +kernel
theorem dX6_read_48 : decode cX6_read 48 = .ok (.iconst 1, 1) := by decide +kernel
theorem dX6_read_49 : decode cX6_read 49 = .ok (.aload_n 1, 1) := by decide +kernel
theorem dX6_read_50 : decode cX6_read 50 = .ok (.iload_n 3, 1) := by decide +kernel
theorem dX6_read_51 : decode cX6_read 51 = .ok (.invokevirtual 44, 3) := by decide +kernel
theorem dX6_read_54 : decode cX6_read 54 = .ok (.bipush 97, 2) := by decide +kernel
theorem dX6_read_56 : decode cX6_read 56 = .ok (.isub, 1) := by decide +kernel
theorem dX6_read_57 : decode cX6_read 57 = .ok (.ishl, 1) := by decide +kernel
theorem dX6_read_58 : decode cX6_read 58 = .ok (.ior, 1) := by decide +kernel
theorem dX6_read_59 : decode cX6_read 59 = .ok (.iastore, 1) := by decide +kernel
theorem dX6_read_60 : decode cX6_read 60 = .ok (.iinc 3 1, 3) := by decide +kernel
theorem dX6_read_63 : decode cX6_read 63 = .ok (.goto (-46), 3) := by decide +kernel
theorem dX6_read_66 : decode cX6_read 66 = .ok (.aload_n 0, 1) := by decide +kernel
theorem dX6_read_67 : decode cX6_read 67 = .ok (.iload_n 2, 1) := by decide +kernel
theorem dX6_read_68 : decode cX6_read 68 = .ok (.iconst 1, 1) := by decide +kernel
theorem dX6_read_69 : decode cX6_read 69 = .ok (.iadd, 1) := by decide +kernel
theorem dX6_read_70 : decode cX6_read 70 = .ok (.putfield 21, 3) := by decide +kernel
theorem dX6_read_73 : decode cX6_read 73 = .ok (.aload_n 0, 1) := by decide +kernel
theorem dX6_read_74 : decode cX6_read 74 = .ok (.dup, 1) := by decide +kernel
theorem dX6_read_75 : decode cX6_read 75 = .ok (.getfield 28, 3) := by decide +kernel
theorem dX6_read_78 : decode cX6_read 78 = .ok (.iconst 1, 1) := by decide +kernel
theorem dX6_read_79 : decode cX6_read 79 = .ok (.iadd, 1) := by decide +kernel
theorem dX6_read_80 : decode cX6_read 80 = .ok (.putfield 28, 3) := by decide +kernel
theorem dX6_read_83 : decode cX6_read 83 = .ok (.iconst 1, 1) := by decide +kernel
theorem dX6_read_84 : decode cX6_read 84 = .ok (.ireturn, 1) := by decide +kernel
theorem dX6_clear_0 : decode cX6_clear 0 = .ok (.iconst 0, 1) := by decide +kernel
theorem dX6_clear_1 : decode cX6_clear 1 = .ok (.istore_n 1, 1) := by decide +kernel
theorem dX6_clear_2 : decode cX6_clear 2 = .ok (.iload_n 1, 1) := by decide +kernel
theorem dX6_clear_3 : decode cX6_clear 3 = .ok (.bipush 8, 2) := by decide +kernel
theorem dX6_clear_5 : decode cX6_clear 5 = .ok (.if_icmp .ge 30, 3) := by decide +kernel
theorem dX6_clear_8 : decode cX6_clear 8 = .ok (.aload_n 0, 1) := by decide +kernel
theorem dX6_clear_9 : decode cX6_clear 9 = .ok (.getfield 9, 3) := by decide +kernel
theorem dX6_clear_12 : decode cX6_clear 12 = .ok (.iload_n 1, 1) := by decide +kernel
theorem dX6_clear_13 : decode cX6_clear 13 = .ok (.iconst 0, 1) := by decide +kernel
theorem dX6_clear_14 : decode cX6_clear 14 = .ok (.iastore, 1) := by decide +kernel
theorem dX6_clear_15 : decode cX6_clear 15 = .ok (.aload_n 0, 1) := by decide +kernel
theorem dX6_clear_16 : decode cX6_clear 16 = .ok (.getfield 15, 3) := by decide +kernel
theorem dX6_clear_19 : decode cX6_clear 19 = .ok (.iload_n 1, 1) := by decide +kernel
theorem dX6_clear_20 : decode cX6_clear 20 = .ok (.iload_n 1, 1) := by decide +kernel
theorem dX6_clear_21 : decode cX6_clear 21 = .ok (.iastore, 1) := by decide +kernel
theorem dX6_clear_22 : decode cX6_clear 22 = .ok (.aload_n 0, 1) := by decide +kernel
theorem dX6_clear_23 : decode cX6_clear 23 = .ok (.getfield 18, 3) := by decide +kernel
theorem dX6_clear_26 : decode cX6_clear 26 = .ok (.iload_n 1, 1) := by decide +kernel
theorem dX6_clear_27 : decode cX6_clear 27 = .ok (.iconst 0, 1) := by decide +kernel
theorem dX6_clear_28 : decode cX6_clear 28 = .ok (.iastore, 1) := by decide +kernel
theorem dX6_clear_29 : decode cX6_clear 29 = .ok (.iinc 1 1, 3) := by decide +kernel
theorem dX6_clear_32 : decode cX6_clear 32 = .ok (.goto (-30), 3) := by decide +kernel
theorem dX6_clear_35 : decode cX6_clear 35 = .ok (.aload_n 0, 1) := by decide +kernel
theorem dX6_clear_36 : decode cX6_clear 36 = .ok (.iconst 0, 1) := by decide +kernel
theorem dX6_clear_37 : decode cX6_clear 37 = .ok (.putfield 25, 3) := by decide +kernel
theorem dX6_clear_40 : decode cX6_clear 40 = .ok (.return_, 1) := by decide +kernel
set_option maxRecDepth 20000 in
theorem ggX6_setBreak_X8_withTool : GoodIn wsX6_setBreak wsX8_withTool := goodIn_r _ [4] (by decide +kernel) (by decide +kernel)
set_option maxRecDepth 20000 in
theorem gX6_setBreak_X8_withTool_n48 : GoodIn wsX6_setBreak (wsX8_withTool) := ggX6_setBreak_X8_withTool
theorem dX6_setBreak_0 : decode cX6_setBreak 0 = .ok (.aload_n 0, 1) := by decide +kernel
theorem dX6_setBreak_1 : decode cX6_setBreak 1 = .ok (.getfield 18, 3) := by decide +kernel
theorem dX6_setBreak_4 : decode cX6_setBreak 4 = .ok (.iload_n 1, 1) := by decide +kernel
theorem dX6_setBreak_5 : decode cX6_setBreak 5 = .ok (.aload_n 0, 1) := by decide +kernel
theorem dX6_setBreak_6 : decode cX6_setBreak 6 = .ok (.getfield 18, 3) := by decide +kernel
theorem dX6_setBreak_9 : decode cX6_setBreak 9 = .ok (.iload_n 1, 1) := by decide +kernel
theorem dX6_setBreak_10 : decode cX6_setBreak 10 = .ok (.iaload, 1) := by decide +kernel
theorem dX6_setBreak_11 : decode cX6_setBreak 11 = .ok (.iload_n 2, 1) := by decide +kernel
theorem dX6_setBreak_12 : decode cX6_setBreak 12 = .ok (.iload_n 3, 1) := by decide +kernel
theorem dX6_setBreak_13 : decode cX6_setBreak 13 = .ok (.invokestatic 48, 3) := by decide +kernel
theorem dX6_setBreak_16 : decode cX6_setBreak 16 = .ok (.iastore, 1) := by decide +kernel
theorem dX6_setBreak_17 : decode cX6_setBreak 17 = .ok (.return_, 1) := by decide +kernel
theorem dX6_exchange_0 : decode cX6_exchange 0 = .ok (.aload_n 0, 1) := by decide +kernel
theorem dX6_exchange_1 : decode cX6_exchange 1 = .ok (.getfield 15, 3) := by decide +kernel
theorem dX6_exchange_4 : decode cX6_exchange 4 = .ok (.iload_n 1, 1) := by decide +kernel
theorem dX6_exchange_5 : decode cX6_exchange 5 = .ok (.iaload, 1) := by decide +kernel
theorem dX6_exchange_6 : decode cX6_exchange 6 = .ok (.istore_n 3, 1) := by decide +kernel
theorem dX6_exchange_7 : decode cX6_exchange 7 = .ok (.aload_n 0, 1) := by decide +kernel
theorem dX6_exchange_8 : decode cX6_exchange 8 = .ok (.getfield 15, 3) := by decide +kernel
theorem dX6_exchange_11 : decode cX6_exchange 11 = .ok (.iload_n 1, 1) := by decide +kernel
theorem dX6_exchange_12 : decode cX6_exchange 12 = .ok (.aload_n 0, 1) := by decide +kernel
theorem dX6_exchange_13 : decode cX6_exchange 13 = .ok (.getfield 15, 3) := by decide +kernel
theorem dX6_exchange_16 : decode cX6_exchange 16 = .ok (.iload_n 2, 1) := by decide +kernel
theorem dX6_exchange_17 : decode cX6_exchange 17 = .ok (.iaload, 1) := by decide +kernel
theorem dX6_exchange_18 : decode cX6_exchange 18 = .ok (.iastore, 1) := by decide +kernel
theorem dX6_exchange_19 : decode cX6_exchange 19 = .ok (.aload_n 0, 1) := by decide +kernel
theorem dX6_exchange_20 : decode cX6_exchange 20 = .ok (.getfield 15, 3) := by decide +kernel
theorem dX6_exchange_23 : decode cX6_exchange 23 = .ok (.iload_n 2, 1) := by decide +kernel
theorem dX6_exchange_24 : decode cX6_exchange 24 = .ok (.iload_n 3, 1) := by decide +kernel
theorem dX6_exchange_25 : decode cX6_exchange 25 = .ok (.iastore, 1) := by decide +kernel
theorem dX6_exchange_26 : decode cX6_exchange 26 = .ok (.return_, 1) := by decide +kernel
theorem dX6_countChange_0 : decode cX6_countChange 0 = .ok (.aload_n 0, 1) := by decide +kernel
theorem dX6_countChange_1 : decode cX6_countChange 1 = .ok (.dup, 1) := by decide +kernel
theorem dX6_countChange_2 : decode cX6_countChange 2 = .ok (.getfield 25, 3) := by decide +kernel
theorem dX6_countChange_5 : decode cX6_countChange 5 = .ok (.iconst 1, 1) := by decide +kernel
theorem dX6_countChange_6 : decode cX6_countChange 6 = .ok (.iadd, 1) := by decide +kernel
theorem dX6_countChange_7 : decode cX6_countChange 7 = .ok (.putfield 25, 3) := by decide +kernel
theorem dX6_countChange_10 : decode cX6_countChange 10 = .ok (.return_, 1) := by decide +kernel
set_option maxRecDepth 20000 in
theorem ggX6_nextPlace_X8_hasTool : GoodIn wsX6_nextPlace wsX8_hasTool := goodIn_r _ [5] (by decide +kernel) (by decide +kernel)
set_option maxRecDepth 20000 in
theorem gX6_nextPlace_X8_hasTool_n52 : GoodIn wsX6_nextPlace (wsX8_hasTool) := ggX6_nextPlace_X8_hasTool
set_option maxRecDepth 20000 in
theorem ggX6_nextPlace_X6_needs : GoodIn wsX6_nextPlace wsX6_needs := goodIn_r _ [10, 11, 12, 13, 14, 15, 16, 17, 18] (by decide +kernel) (by decide +kernel)
set_option maxRecDepth 20000 in
theorem gX6_nextPlace_X6_needs : GoodIn wsX6_nextPlace (wsV RX6 56 RX6 yX6_needs wsX6_needs) := goodIn_app (goodIn_of _ (by decide +kernel)) ggX6_nextPlace_X6_needs
theorem dX6_nextPlace_0 : decode cX6_nextPlace 0 = .ok (.iload_n 1, 1) := by decide +kernel
theorem dX6_nextPlace_1 : decode cX6_nextPlace 1 = .ok (.iconst 1, 1) := by decide +kernel
theorem dX6_nextPlace_2 : decode cX6_nextPlace 2 = .ok (.iadd, 1) := by decide +kernel
theorem dX6_nextPlace_3 : decode cX6_nextPlace 3 = .ok (.istore_n 3, 1) := by decide +kernel
theorem dX6_nextPlace_4 : decode cX6_nextPlace 4 = .ok (.iload_n 3, 1) := by decide +kernel
theorem dX6_nextPlace_5 : decode cX6_nextPlace 5 = .ok (.aload_n 0, 1) := by decide +kernel
theorem dX6_nextPlace_6 : decode cX6_nextPlace 6 = .ok (.getfield 21, 3) := by decide +kernel
theorem dX6_nextPlace_9 : decode cX6_nextPlace 9 = .ok (.if_icmp .ge 40, 3) := by decide +kernel
theorem dX6_nextPlace_12 : decode cX6_nextPlace 12 = .ok (.aload_n 0, 1) := by decide +kernel
theorem dX6_nextPlace_13 : decode cX6_nextPlace 13 = .ok (.getfield 18, 3) := by decide +kernel
theorem dX6_nextPlace_16 : decode cX6_nextPlace 16 = .ok (.iload_n 3, 1) := by decide +kernel
theorem dX6_nextPlace_17 : decode cX6_nextPlace 17 = .ok (.iconst 1, 1) := by decide +kernel
theorem dX6_nextPlace_18 : decode cX6_nextPlace 18 = .ok (.isub, 1) := by decide +kernel
theorem dX6_nextPlace_19 : decode cX6_nextPlace 19 = .ok (.iaload, 1) := by decide +kernel
theorem dX6_nextPlace_20 : decode cX6_nextPlace 20 = .ok (.iload_n 2, 1) := by decide +kernel
theorem dX6_nextPlace_21 : decode cX6_nextPlace 21 = .ok (.invokestatic 52, 3) := by decide +kernel
theorem dX6_nextPlace_24 : decode cX6_nextPlace 24 = .ok (.ifCond .eq 5, 3) := by decide +kernel
theorem dX6_nextPlace_27 : decode cX6_nextPlace 27 = .ok (.iconst (-1), 1) := by decide +kernel
theorem dX6_nextPlace_28 : decode cX6_nextPlace 28 = .ok (.ireturn, 1) := by decide +kernel
theorem dX6_nextPlace_29 : decode cX6_nextPlace 29 = .ok (.aload_n 0, 1) := by decide +kernel
theorem dX6_nextPlace_30 : decode cX6_nextPlace 30 = .ok (.iload_n 3, 1) := by decide +kernel
theorem dX6_nextPlace_31 : decode cX6_nextPlace 31 = .ok (.invokevirtual 56, 3) := by decide +kernel
theorem dX6_nextPlace_34 : decode cX6_nextPlace 34 = .ok (.iload_n 2, 1) := by decide +kernel
theorem dX6_nextPlace_35 : decode cX6_nextPlace 35 = .ok (.invokestatic 52, 3) := by decide +kernel
theorem dX6_nextPlace_38 : decode cX6_nextPlace 38 = .ok (.ifCond .eq 5, 3) := by decide +kernel
theorem dX6_nextPlace_41 : decode cX6_nextPlace 41 = .ok (.iload_n 3, 1) := by decide +kernel
theorem dX6_nextPlace_42 : decode cX6_nextPlace 42 = .ok (.ireturn, 1) := by decide +kernel
theorem dX6_nextPlace_43 : decode cX6_nextPlace 43 = .ok (.iinc 3 1, 3) := by decide +kernel
theorem dX6_nextPlace_46 : decode cX6_nextPlace 46 = .ok (.goto (-42), 3) := by decide +kernel
theorem dX6_nextPlace_49 : decode cX6_nextPlace 49 = .ok (.iconst (-1), 1) := by decide +kernel
theorem dX6_nextPlace_50 : decode cX6_nextPlace 50 = .ok (.ireturn, 1) := by decide +kernel
set_option maxRecDepth 20000 in
theorem ggX6_allNeeds_X6_needs : GoodIn wsX6_allNeeds wsX6_needs := goodIn_r _ [6, 7, 8, 9, 10, 11, 12, 13, 14] (by decide +kernel) (by decide +kernel)
set_option maxRecDepth 20000 in
theorem gX6_allNeeds_X6_needs : GoodIn wsX6_allNeeds (wsV RX6 56 RX6 yX6_needs wsX6_needs) := goodIn_app (goodIn_of _ (by decide +kernel)) ggX6_allNeeds_X6_needs
theorem dX6_allNeeds_0 : decode cX6_allNeeds 0 = .ok (.iconst 0, 1) := by decide +kernel
theorem dX6_allNeeds_1 : decode cX6_allNeeds 1 = .ok (.istore_n 1, 1) := by decide +kernel
theorem dX6_allNeeds_2 : decode cX6_allNeeds 2 = .ok (.iconst 0, 1) := by decide +kernel
theorem dX6_allNeeds_3 : decode cX6_allNeeds 3 = .ok (.istore_n 2, 1) := by decide +kernel
theorem dX6_allNeeds_4 : decode cX6_allNeeds 4 = .ok (.iload_n 2, 1) := by decide +kernel
theorem dX6_allNeeds_5 : decode cX6_allNeeds 5 = .ok (.aload_n 0, 1) := by decide +kernel
theorem dX6_allNeeds_6 : decode cX6_allNeeds 6 = .ok (.getfield 21, 3) := by decide +kernel
theorem dX6_allNeeds_9 : decode cX6_allNeeds 9 = .ok (.if_icmp .ge 17, 3) := by decide +kernel
theorem dX6_allNeeds_12 : decode cX6_allNeeds 12 = .ok (.iload_n 1, 1) := by decide +kernel
theorem dX6_allNeeds_13 : decode cX6_allNeeds 13 = .ok (.aload_n 0, 1) := by decide +kernel
theorem dX6_allNeeds_14 : decode cX6_allNeeds 14 = .ok (.iload_n 2, 1) := by decide +kernel
theorem dX6_allNeeds_15 : decode cX6_allNeeds 15 = .ok (.invokevirtual 56, 3) := by decide +kernel
theorem dX6_allNeeds_18 : decode cX6_allNeeds 18 = .ok (.ior, 1) := by decide +kernel
theorem dX6_allNeeds_19 : decode cX6_allNeeds 19 = .ok (.istore_n 1, 1) := by decide +kernel
theorem dX6_allNeeds_20 : decode cX6_allNeeds 20 = .ok (.iinc 2 1, 3) := by decide +kernel
theorem dX6_allNeeds_23 : decode cX6_allNeeds 23 = .ok (.goto (-19), 3) := by decide +kernel
theorem dX6_allNeeds_26 : decode cX6_allNeeds 26 = .ok (.iload_n 1, 1) := by decide +kernel
theorem dX6_allNeeds_27 : decode cX6_allNeeds 27 = .ok (.ireturn, 1) := by decide +kernel
set_option maxRecDepth 20000 in
theorem ggX6_allBreaks_J6_bitCount_0f7a4 : GoodIn wsX6_allBreaks wsJ6_bitCount_0f7a4 := goodIn_r _ [6, 7, 8, 9] (by decide +kernel) (by decide +kernel)
set_option maxRecDepth 20000 in
theorem gX6_allBreaks_J6_bitCount_0f7a4 : GoodIn wsX6_allBreaks (va_wsS RX6 59 yJ6_bitCount_0f7a4 wsJ6_bitCount_0f7a4) := goodIn_app (goodIn_of _ (by decide +kernel)) ggX6_allBreaks_J6_bitCount_0f7a4
theorem dX6_allBreaks_0 : decode cX6_allBreaks 0 = .ok (.iconst 0, 1) := by decide +kernel
theorem dX6_allBreaks_1 : decode cX6_allBreaks 1 = .ok (.istore_n 1, 1) := by decide +kernel
theorem dX6_allBreaks_2 : decode cX6_allBreaks 2 = .ok (.iconst 0, 1) := by decide +kernel
theorem dX6_allBreaks_3 : decode cX6_allBreaks 3 = .ok (.istore_n 2, 1) := by decide +kernel
theorem dX6_allBreaks_4 : decode cX6_allBreaks 4 = .ok (.iload_n 2, 1) := by decide +kernel
theorem dX6_allBreaks_5 : decode cX6_allBreaks 5 = .ok (.aload_n 0, 1) := by decide +kernel
theorem dX6_allBreaks_6 : decode cX6_allBreaks 6 = .ok (.getfield 21, 3) := by decide +kernel
theorem dX6_allBreaks_9 : decode cX6_allBreaks 9 = .ok (.if_icmp .ge 21, 3) := by decide +kernel
theorem dX6_allBreaks_12 : decode cX6_allBreaks 12 = .ok (.iload_n 1, 1) := by decide +kernel
theorem dX6_allBreaks_13 : decode cX6_allBreaks 13 = .ok (.aload_n 0, 1) := by decide +kernel
theorem dX6_allBreaks_14 : decode cX6_allBreaks 14 = .ok (.getfield 18, 3) := by decide +kernel
theorem dX6_allBreaks_17 : decode cX6_allBreaks 17 = .ok (.iload_n 2, 1) := by decide +kernel
theorem dX6_allBreaks_18 : decode cX6_allBreaks 18 = .ok (.iaload, 1) := by decide +kernel
theorem dX6_allBreaks_19 : decode cX6_allBreaks 19 = .ok (.invokestatic 59, 3) := by decide +kernel
theorem dX6_allBreaks_22 : decode cX6_allBreaks 22 = .ok (.iadd, 1) := by decide +kernel
theorem dX6_allBreaks_23 : decode cX6_allBreaks 23 = .ok (.istore_n 1, 1) := by decide +kernel
theorem dX6_allBreaks_24 : decode cX6_allBreaks 24 = .ok (.iinc 2 1, 3) := by decide +kernel
theorem dX6_allBreaks_27 : decode cX6_allBreaks 27 = .ok (.goto (-23), 3) := by decide +kernel
theorem dX6_allBreaks_30 : decode cX6_allBreaks 30 = .ok (.iload_n 1, 1) := by decide +kernel
theorem dX6_allBreaks_31 : decode cX6_allBreaks 31 = .ok (.ireturn, 1) := by decide +kernel
set_option maxRecDepth 20000 in
theorem ggX7_init_X1_init : GoodIn wsX7_init wsX1_init := goodIn_r _ [4, 5, 6, 7, 8, 9, 10, 11, 12, 13, 14, 15, 16, 17, 18, 19, 20, 21, 22, 23, 24] (by decide +kernel) (by decide +kernel)
set_option maxRecDepth 20000 in
theorem gX7_init_X1_init : GoodIn wsX7_init (wsX1_init) := ggX7_init_X1_init
theorem dX7_init_0 : decode cX7_init 0 = .ok (.aload_n 0, 1) := by decide +kernel
theorem dX7_init_1 : decode cX7_init 1 = .ok (.aload_n 1, 1) := by decide +kernel
theorem dX7_init_2 : decode cX7_init 2 = .ok (.aload_n 2, 1) := by decide +kernel
theorem dX7_init_3 : decode cX7_init 3 = .ok (.invokespecial 3, 3) := by decide +kernel
theorem dX7_init_6 : decode cX7_init 6 = .ok (.return_, 1) := by decide +kernel
set_option maxRecDepth 20000 in
theorem ggX7_staying_X6_needs : GoodIn wsX7_staying wsX6_needs := goodIn_r _ [9, 10, 11, 64, 65, 66, 67, 68, 69] (by decide +kernel) (by decide +kernel)
set_option maxRecDepth 20000 in
theorem gX7_staying_X6_needs : GoodIn wsX7_staying (wsV RX7 19 RX6 yX6_needs wsX6_needs) := goodIn_app (goodIn_of _ (by decide +kernel)) ggX7_staying_X6_needs
set_option maxRecDepth 20000 in
theorem ggX7_staying_X3_holds : GoodIn wsX7_staying wsX3_holds := goodIn_r _ [16, 17, 18, 19, 20, 15, 21, 22, 23, 24, 25, 26, 27, 28, 29, 70, 71] (by decide +kernel) (by decide +kernel)
set_option maxRecDepth 20000 in
theorem gX7_staying_X3_holds : GoodIn wsX7_staying (wsV RX7 25 RX3 yX3_holds wsX3_holds) := goodIn_app (goodIn_of _ (by decide +kernel)) ggX7_staying_X3_holds
set_option maxRecDepth 20000 in
theorem ggX7_staying_X7_firstToGo : GoodIn wsX7_staying wsX7_firstToGo := goodIn_r _ [34, 35, 36, 37, 38, 39, 40, 33, 41, 3, 4, 1, 2, 42, 43, 44, 8, 45, 46, 47, 48, 6, 7, 9, 10, 11, 49, 50, 51, 15, 52, 22, 53, 54, 55, 56, 57, 58, 59, 60, 61, 62, 63, 64, 65, 66, 67, 68, 69, 70, 71] (by decide +kernel) (by decide +kernel)
set_option maxRecDepth 20000 in
theorem gX7_staying_X7_firstToGo : GoodIn wsX7_staying (wsV RX7 31 RX7 yX7_firstToGo wsX7_firstToGo) := goodIn_app (goodIn_of _ (by decide +kernel)) ggX7_staying_X7_firstToGo
theorem dX7_staying_0 : decode cX7_staying 0 = .ok (.iload_n 2, 1) := by decide +kernel
theorem dX7_staying_1 : decode cX7_staying 1 = .ok (.istore_n 3, 1) := by decide +kernel
theorem dX7_staying_2 : decode cX7_staying 2 = .ok (.iconst 0, 1) := by decide +kernel
theorem dX7_staying_3 : decode cX7_staying 3 = .ok (.istore 4, 2) := by decide +kernel
theorem dX7_staying_5 : decode cX7_staying 5 = .ok (.iload 4, 2) := by decide +kernel
theorem dX7_staying_7 : decode cX7_staying 7 = .ok (.bipush 8, 2) := by decide +kernel
theorem dX7_staying_9 : decode cX7_staying 9 = .ok (.if_icmp .ge 42, 3) := by decide +kernel
theorem dX7_staying_12 : decode cX7_staying 12 = .ok (.aload_n 0, 1) := by decide +kernel
theorem dX7_staying_13 : decode cX7_staying 13 = .ok (.getfield 9, 3) := by decide +kernel
theorem dX7_staying_16 : decode cX7_staying 16 = .ok (.aload_n 0, 1) := by decide +kernel
theorem dX7_staying_17 : decode cX7_staying 17 = .ok (.getfield 15, 3) := by decide +kernel
theorem dX7_staying_20 : decode cX7_staying 20 = .ok (.iload_n 1, 1) := by decide +kernel
theorem dX7_staying_21 : decode cX7_staying 21 = .ok (.invokevirtual 19, 3) := by decide +kernel
theorem dX7_staying_24 : decode cX7_staying 24 = .ok (.iload_n 3, 1) := by decide +kernel
theorem dX7_staying_25 : decode cX7_staying 25 = .ok (.ior, 1) := by decide +kernel
theorem dX7_staying_26 : decode cX7_staying 26 = .ok (.invokevirtual 25, 3) := by decide +kernel
theorem dX7_staying_29 : decode cX7_staying 29 = .ok (.ifCond .ne 22, 3) := by decide +kernel
theorem dX7_staying_32 : decode cX7_staying 32 = .ok (.iload_n 3, 1) := by decide +kernel
theorem dX7_staying_33 : decode cX7_staying 33 = .ok (.iconst 1, 1) := by decide +kernel
theorem dX7_staying_34 : decode cX7_staying 34 = .ok (.aload_n 0, 1) := by decide +kernel
theorem dX7_staying_35 : decode cX7_staying 35 = .ok (.iload_n 1, 1) := by decide +kernel
theorem dX7_staying_36 : decode cX7_staying 36 = .ok (.iload_n 3, 1) := by decide +kernel
theorem dX7_staying_37 : decode cX7_staying 37 = .ok (.invokevirtual 31, 3) := by decide +kernel
theorem dX7_staying_40 : decode cX7_staying 40 = .ok (.ishl, 1) := by decide +kernel
theorem dX7_staying_41 : decode cX7_staying 41 = .ok (.iconst (-1), 1) := by decide +kernel
theorem dX7_staying_42 : decode cX7_staying 42 = .ok (.ixor, 1) := by decide +kernel
theorem dX7_staying_43 : decode cX7_staying 43 = .ok (.iand, 1) := by decide +kernel
theorem dX7_staying_44 : decode cX7_staying 44 = .ok (.istore_n 3, 1) := by decide +kernel
theorem dX7_staying_45 : decode cX7_staying 45 = .ok (.iinc 4 1, 3) := by decide +kernel
theorem dX7_staying_48 : decode cX7_staying 48 = .ok (.goto (-43), 3) := by decide +kernel
theorem dX7_staying_51 : decode cX7_staying 51 = .ok (.iload_n 3, 1) := by decide +kernel
theorem dX7_staying_52 : decode cX7_staying 52 = .ok (.ireturn, 1) := by decide +kernel
set_option maxRecDepth 20000 in
theorem ggX7_firstToGo_X8_hasTool : GoodIn wsX7_firstToGo wsX8_hasTool := goodIn_r _ [3] (by decide +kernel) (by decide +kernel)
set_option maxRecDepth 20000 in
theorem gX7_firstToGo_X8_hasTool_n35 : GoodIn wsX7_firstToGo (wsX8_hasTool) := ggX7_firstToGo_X8_hasTool
set_option maxRecDepth 20000 in
theorem ggX7_firstToGo_X7_rank : GoodIn wsX7_firstToGo wsX7_rank := goodIn_r _ [8, 9, 10, 11, 12, 13, 14, 15, 16, 17, 18, 19, 1, 2, 3, 20, 21, 22, 23, 24, 25, 26, 27, 28, 29, 30, 31, 32, 33, 34, 35, 36, 37, 38, 39, 40, 41, 42, 43, 44, 45, 46, 47, 48, 49, 50] (by decide +kernel) (by decide +kernel)
set_option maxRecDepth 20000 in
theorem gX7_firstToGo_X7_rank : GoodIn wsX7_firstToGo (wsV RX7 39 RX7 yX7_rank wsX7_rank) := goodIn_app (goodIn_of _ (by decide +kernel)) ggX7_firstToGo_X7_rank
theorem dX7_firstToGo_0 : decode cX7_firstToGo 0 = .ok (.iconst 0, 1) := by decide +kernel
theorem dX7_firstToGo_1 : decode cX7_firstToGo 1 = .ok (.istore_n 3, 1) := by decide +kernel
theorem dX7_firstToGo_2 : decode cX7_firstToGo 2 = .ok (.iconst (-1), 1) := by decide +kernel
theorem dX7_firstToGo_3 : decode cX7_firstToGo 3 = .ok (.istore 4, 2) := by decide +kernel
theorem dX7_firstToGo_5 : decode cX7_firstToGo 5 = .ok (.iconst 0, 1) := by decide +kernel
theorem dX7_firstToGo_6 : decode cX7_firstToGo 6 = .ok (.istore 5, 2) := by decide +kernel
theorem dX7_firstToGo_8 : decode cX7_firstToGo 8 = .ok (.iload 5, 2) := by decide +kernel
theorem dX7_firstToGo_10 : decode cX7_firstToGo 10 = .ok (.bipush 8, 2) := by decide +kernel
theorem dX7_firstToGo_12 : decode cX7_firstToGo 12 = .ok (.if_icmp .ge 42, 3) := by decide +kernel
theorem dX7_firstToGo_15 : decode cX7_firstToGo 15 = .ok (.iload_n 2, 1) := by decide +kernel
theorem dX7_firstToGo_16 : decode cX7_firstToGo 16 = .ok (.iload 5, 2) := by decide +kernel
theorem dX7_firstToGo_18 : decode cX7_firstToGo 18 = .ok (.invokestatic 35, 3) := by decide +kernel
theorem dX7_firstToGo_21 : decode cX7_firstToGo 21 = .ok (.ifCond .eq 27, 3) := by decide +kernel
theorem dX7_firstToGo_24 : decode cX7_firstToGo 24 = .ok (.aload_n 0, 1) := by decide +kernel
theorem dX7_firstToGo_25 : decode cX7_firstToGo 25 = .ok (.iload_n 1, 1) := by decide +kernel
theorem dX7_firstToGo_26 : decode cX7_firstToGo 26 = .ok (.iload 5, 2) := by decide +kernel
theorem dX7_firstToGo_28 : decode cX7_firstToGo 28 = .ok (.invokevirtual 39, 3) := by decide +kernel
theorem dX7_firstToGo_31 : decode cX7_firstToGo 31 = .ok (.iload 4, 2) := by decide +kernel
theorem dX7_firstToGo_33 : decode cX7_firstToGo 33 = .ok (.if_icmp .lt 15, 3) := by decide +kernel
theorem dX7_firstToGo_36 : decode cX7_firstToGo 36 = .ok (.iload 5, 2) := by decide +kernel
theorem dX7_firstToGo_38 : decode cX7_firstToGo 38 = .ok (.istore_n 3, 1) := by decide +kernel
theorem dX7_firstToGo_39 : decode cX7_firstToGo 39 = .ok (.aload_n 0, 1) := by decide +kernel
theorem dX7_firstToGo_40 : decode cX7_firstToGo 40 = .ok (.iload_n 1, 1) := by decide +kernel
theorem dX7_firstToGo_41 : decode cX7_firstToGo 41 = .ok (.iload 5, 2) := by decide +kernel
theorem dX7_firstToGo_43 : decode cX7_firstToGo 43 = .ok (.invokevirtual 39, 3) := by decide +kernel
theorem dX7_firstToGo_46 : decode cX7_firstToGo 46 = .ok (.istore 4, 2) := by decide +kernel
theorem dX7_firstToGo_48 : decode cX7_firstToGo 48 = .ok (.iinc 5 1, 3) := by decide +kernel
theorem dX7_firstToGo_51 : decode cX7_firstToGo 51 = .ok (.goto (-43), 3) := by decide +kernel
theorem dX7_firstToGo_54 : decode cX7_firstToGo 54 = .ok (.iload_n 3, 1) := by decide +kernel
theorem dX7_firstToGo_55 : decode cX7_firstToGo 55 = .ok (.ireturn, 1) := by decide +kernel
set_option maxRecDepth 20000 in
theorem ggX7_rank_X6_nextPlace : GoodIn wsX7_rank wsX6_nextPlace := goodIn_r _ [9, 10, 11, 12, 13, 14, 15, 16, 17, 8, 18, 19, 20, 38, 39, 40, 41, 42, 43] (by decide +kernel) (by decide +kernel)
set_option maxRecDepth 20000 in
theorem gX7_rank_X6_nextPlace : GoodIn wsX7_rank (wsV RX7 42 RX6 yX6_nextPlace wsX6_nextPlace) := goodIn_app (goodIn_of _ (by decide +kernel)) ggX7_rank_X6_nextPlace
set_option maxRecDepth 20000 in
theorem ggX7_rank_X3_bigTools : GoodIn wsX7_rank wsX3_bigTools := goodIn_r _ [25, 26, 44, 45] (by decide +kernel) (by decide +kernel)
set_option maxRecDepth 20000 in
theorem gX7_rank_X3_bigTools : GoodIn wsX7_rank (wsV RX7 45 RX3 yX3_bigTools wsX3_bigTools) := goodIn_app (goodIn_of _ (by decide +kernel)) ggX7_rank_X3_bigTools
set_option maxRecDepth 20000 in
theorem ggX7_rank_X8_hasTool : GoodIn wsX7_rank wsX8_hasTool := goodIn_r _ [14] (by decide +kernel) (by decide +kernel)
set_option maxRecDepth 20000 in
theorem gX7_rank_X8_hasTool_n35 : GoodIn wsX7_rank (wsX8_hasTool) := ggX7_rank_X8_hasTool
theorem dX7_rank_0 : decode cX7_rank 0 = .ok (.aload_n 0, 1) := by decide +kernel
theorem dX7_rank_1 : decode cX7_rank 1 = .ok (.getfield 15, 3) := by decide +kernel
theorem dX7_rank_4 : decode cX7_rank 4 = .ok (.iload_n 1, 1) := by decide +kernel
theorem dX7_rank_5 : decode cX7_rank 5 = .ok (.iload_n 2, 1) := by decide +kernel
theorem dX7_rank_6 : decode cX7_rank 6 = .ok (.invokevirtual 42, 3) := by decide +kernel
theorem dX7_rank_9 : decode cX7_rank 9 = .ok (.istore_n 3, 1) := by decide +kernel
theorem dX7_rank_10 : decode cX7_rank 10 = .ok (.iload_n 3, 1) := by decide +kernel
theorem dX7_rank_11 : decode cX7_rank 11 = .ok (.iconst (-1), 1) := by decide +kernel
theorem dX7_rank_12 : decode cX7_rank 12 = .ok (.if_icmp .ne 8, 3) := by decide +kernel
theorem dX7_rank_15 : decode cX7_rank 15 = .ok (.bipush 8, 2) := by decide +kernel
theorem dX7_rank_17 : decode cX7_rank 17 = .ok (.goto 4, 3) := by decide +kernel
theorem dX7_rank_20 : decode cX7_rank 20 = .ok (.iload_n 3, 1) := by decide +kernel
theorem dX7_rank_21 : decode cX7_rank 21 = .ok (.istore 4, 2) := by decide +kernel
theorem dX7_rank_23 : decode cX7_rank 23 = .ok (.iconst 2, 1) := by decide +kernel
theorem dX7_rank_24 : decode cX7_rank 24 = .ok (.iload 4, 2) := by decide +kernel
theorem dX7_rank_26 : decode cX7_rank 26 = .ok (.imul, 1) := by decide +kernel
theorem dX7_rank_27 : decode cX7_rank 27 = .ok (.aload_n 0, 1) := by decide +kernel
theorem dX7_rank_28 : decode cX7_rank 28 = .ok (.getfield 9, 3) := by decide +kernel
theorem dX7_rank_31 : decode cX7_rank 31 = .ok (.invokevirtual 45, 3) := by decide +kernel
theorem dX7_rank_34 : decode cX7_rank 34 = .ok (.iload_n 2, 1) := by decide +kernel
theorem dX7_rank_35 : decode cX7_rank 35 = .ok (.invokestatic 35, 3) := by decide +kernel
theorem dX7_rank_38 : decode cX7_rank 38 = .ok (.ifCond .eq 7, 3) := by decide +kernel
theorem dX7_rank_41 : decode cX7_rank 41 = .ok (.iconst 1, 1) := by decide +kernel
theorem dX7_rank_42 : decode cX7_rank 42 = .ok (.goto 4, 3) := by decide +kernel
theorem dX7_rank_45 : decode cX7_rank 45 = .ok (.iconst 0, 1) := by decide +kernel
theorem dX7_rank_46 : decode cX7_rank 46 = .ok (.iadd, 1) := by decide +kernel
theorem dX7_rank_47 : decode cX7_rank 47 = .ok (.ireturn, 1) := by decide +kernel
set_option maxRecDepth 20000 in
theorem ggX8_init_X4_init : GoodIn wsX8_init wsX4_init := goodIn_r _ [33, 34, 2, 3, 35, 36, 80, 81] (by decide +kernel) (by decide +kernel)
set_option maxRecDepth 20000 in
theorem gX8_init_X4_init_n11 : GoodIn wsX8_init (wsX4_init) := ggX8_init_X4_init
set_option maxRecDepth 20000 in
theorem ggX8_init_X3_init : GoodIn wsX8_init wsX3_init := goodIn_r _ [38, 39, 2, 3, 40, 91, 92] (by decide +kernel) (by decide +kernel)
set_option maxRecDepth 20000 in
theorem gX8_init_X3_init_n18 : GoodIn wsX8_init (wsX3_init) := ggX8_init_X3_init
set_option maxRecDepth 20000 in
theorem ggX8_init_X6_init : GoodIn wsX8_init wsX6_init := goodIn_r _ [42, 43, 2, 3, 44, 45, 46, 47, 93, 94, 95, 96, 97, 98] (by decide +kernel) (by decide +kernel)
set_option maxRecDepth 20000 in
theorem gX8_init_X6_init_n25 : GoodIn wsX8_init (wsX6_init) := ggX8_init_X6_init
set_option maxRecDepth 20000 in
theorem ggX8_init_X2_init : GoodIn wsX8_init wsX2_init := goodIn_r _ [50, 51, 2, 3, 44, 52, 53, 54, 55, 99, 100, 101, 102] (by decide +kernel) (by decide +kernel)
set_option maxRecDepth 20000 in
theorem gX8_init_X2_init : GoodIn wsX8_init (wsX2_init) := ggX8_init_X2_init
set_option maxRecDepth 20000 in
theorem ggX8_init_X7_init : GoodIn wsX8_init wsX7_init := goodIn_r _ [58, 59, 60, 61, 62, 63, 2, 3, 44, 64, 65, 66, 67, 68, 108, 109, 110, 111, 112, 113, 103, 104, 105, 106, 107] (by decide +kernel) (by decide +kernel)
set_option maxRecDepth 20000 in
theorem gX8_init_X7_init : GoodIn wsX8_init (wsX7_init) := ggX8_init_X7_init
set_option maxRecDepth 20000 in
theorem ggX8_init_X5_init : GoodIn wsX8_init wsX5_init := goodIn_r _ [71, 72, 73, 60, 61, 62, 63, 2, 3, 44, 64, 65, 66, 67, 68, 108, 109, 110, 111, 112, 113, 103, 104, 105, 106, 107] (by decide +kernel) (by decide +kernel)
set_option maxRecDepth 20000 in
theorem gX8_init_X5_init : GoodIn wsX8_init (wsX5_init) := ggX8_init_X5_init
set_option maxRecDepth 20000 in
theorem ggX8_init_X0_init : GoodIn wsX8_init wsX0_init := goodIn_r _ [76, 77, 2, 3, 78, 79, 114, 115, 116, 117, 118, 119] (by decide +kernel) (by decide +kernel)
set_option maxRecDepth 20000 in
theorem gX8_init_X0_init : GoodIn wsX8_init (wsX0_init) := ggX8_init_X0_init
theorem dX8_init_0 : decode cX8_init 0 = .ok (.aload_n 0, 1) := by decide +kernel
theorem dX8_init_1 : decode cX8_init 1 = .ok (.invokespecial 3, 3) := by decide +kernel
theorem dX8_init_4 : decode cX8_init 4 = .ok (.aload_n 0, 1) := by decide +kernel
theorem dX8_init_5 : decode cX8_init 5 = .ok (.new 9, 3) := by decide +kernel
theorem dX8_init_8 : decode cX8_init 8 = .ok (.dup, 1) := by decide +kernel
theorem dX8_init_9 : decode cX8_init 9 = .ok (.invokespecial 11, 3) := by decide +kernel
theorem dX8_init_12 : decode cX8_init 12 = .ok (.putfield 12, 3) := by decide +kernel
theorem dX8_init_15 : decode cX8_init 15 = .ok (.aload_n 0, 1) := by decide +kernel
theorem dX8_init_16 : decode cX8_init 16 = .ok (.new 16, 3) := by decide +kernel
theorem dX8_init_19 : decode cX8_init 19 = .ok (.dup, 1) := by decide +kernel
theorem dX8_init_20 : decode cX8_init 20 = .ok (.invokespecial 18, 3) := by decide +kernel
theorem dX8_init_23 : decode cX8_init 23 = .ok (.putfield 19, 3) := by decide +kernel
theorem dX8_init_26 : decode cX8_init 26 = .ok (.aload_n 0, 1) := by decide +kernel
theorem dX8_init_27 : decode cX8_init 27 = .ok (.new 23, 3) := by decide +kernel
theorem dX8_init_30 : decode cX8_init 30 = .ok (.dup, 1) := by decide +kernel
theorem dX8_init_31 : decode cX8_init 31 = .ok (.invokespecial 25, 3) := by decide +kernel
theorem dX8_init_34 : decode cX8_init 34 = .ok (.putfield 26, 3) := by decide +kernel
theorem dX8_init_37 : decode cX8_init 37 = .ok (.aload_n 0, 1) := by decide +kernel
theorem dX8_init_38 : decode cX8_init 38 = .ok (.new 30, 3) := by decide +kernel
theorem dX8_init_41 : decode cX8_init 41 = .ok (.dup, 1) := by decide +kernel
theorem dX8_init_42 : decode cX8_init 42 = .ok (.aload_n 0, 1) := by decide +kernel
theorem dX8_init_43 : decode cX8_init 43 = .ok (.getfield 26, 3) := by decide +kernel
theorem dX8_init_46 : decode cX8_init 46 = .ok (.aload_n 0, 1) := by decide +kernel
theorem dX8_init_47 : decode cX8_init 47 = .ok (.getfield 19, 3) := by decide +kernel
theorem dX8_init_50 : decode cX8_init 50 = .ok (.invokespecial 32, 3) := by decide +kernel
theorem dX8_init_53 : decode cX8_init 53 = .ok (.putfield 35, 3) := by decide +kernel
theorem dX8_init_56 : decode cX8_init 56 = .ok (.aload_n 0, 1) := by decide +kernel
theorem dX8_init_57 : decode cX8_init 57 = .ok (.new 39, 3) := by decide +kernel
theorem dX8_init_60 : decode cX8_init 60 = .ok (.dup, 1) := by decide +kernel
theorem dX8_init_61 : decode cX8_init 61 = .ok (.aload_n 0, 1) := by decide +kernel
theorem dX8_init_62 : decode cX8_init 62 = .ok (.getfield 26, 3) := by decide +kernel
theorem dX8_init_65 : decode cX8_init 65 = .ok (.aload_n 0, 1) := by decide +kernel
theorem dX8_init_66 : decode cX8_init 66 = .ok (.getfield 19, 3) := by decide +kernel
theorem dX8_init_69 : decode cX8_init 69 = .ok (.invokespecial 41, 3) := by decide +kernel
theorem dX8_init_72 : decode cX8_init 72 = .ok (.putfield 42, 3) := by decide +kernel
theorem dX8_init_75 : decode cX8_init 75 = .ok (.aload_n 0, 1) := by decide +kernel
theorem dX8_init_76 : decode cX8_init 76 = .ok (.new 46, 3) := by decide +kernel
theorem dX8_init_79 : decode cX8_init 79 = .ok (.dup, 1) := by decide +kernel
theorem dX8_init_80 : decode cX8_init 80 = .ok (.aload_n 0, 1) := by decide +kernel
theorem dX8_init_81 : decode cX8_init 81 = .ok (.getfield 26, 3) := by decide +kernel
theorem dX8_init_84 : decode cX8_init 84 = .ok (.aload_n 0, 1) := by decide +kernel
theorem dX8_init_85 : decode cX8_init 85 = .ok (.getfield 19, 3) := by decide +kernel
theorem dX8_init_88 : decode cX8_init 88 = .ok (.aload_n 0, 1) := by decide +kernel
theorem dX8_init_89 : decode cX8_init 89 = .ok (.getfield 35, 3) := by decide +kernel
theorem dX8_init_92 : decode cX8_init 92 = .ok (.invokespecial 48, 3) := by decide +kernel
theorem dX8_init_95 : decode cX8_init 95 = .ok (.putfield 51, 3) := by decide +kernel
theorem dX8_init_98 : decode cX8_init 98 = .ok (.aload_n 0, 1) := by decide +kernel
theorem dX8_init_99 : decode cX8_init 99 = .ok (.new 54, 3) := by decide +kernel
theorem dX8_init_102 : decode cX8_init 102 = .ok (.dup, 1) := by decide +kernel
theorem dX8_init_103 : decode cX8_init 103 = .ok (.aload_n 0, 1) := by decide +kernel
theorem dX8_init_104 : decode cX8_init 104 = .ok (.getfield 26, 3) := by decide +kernel
theorem dX8_init_107 : decode cX8_init 107 = .ok (.aload_n 0, 1) := by decide +kernel
theorem dX8_init_108 : decode cX8_init 108 = .ok (.getfield 35, 3) := by decide +kernel
theorem dX8_init_111 : decode cX8_init 111 = .ok (.invokespecial 56, 3) := by decide +kernel
theorem dX8_init_114 : decode cX8_init 114 = .ok (.putfield 59, 3) := by decide +kernel
theorem dX8_init_117 : decode cX8_init 117 = .ok (.return_, 1) := by decide +kernel
set_option maxRecDepth 20000 in
theorem ggX8_letter_X4_isFull : GoodIn wsX8_letter wsX4_isFull := goodIn_r _ [6, 7, 27, 28] (by decide +kernel) (by decide +kernel)
set_option maxRecDepth 20000 in
theorem gX8_letter_X4_isFull : GoodIn wsX8_letter (wsV RX8 63 RX4 yX4_isFull wsX4_isFull) := goodIn_app (goodIn_of _ (by decide +kernel)) ggX8_letter_X4_isFull
set_option maxRecDepth 20000 in
theorem ggX8_letter_X4_write : GoodIn wsX8_letter wsX4_write := goodIn_r _ [11, 12, 7, 13, 3, 4, 5, 6, 27, 28] (by decide +kernel) (by decide +kernel)
set_option maxRecDepth 20000 in
theorem gX8_letter_X4_write : GoodIn wsX8_letter (wsV RX8 67 RX4 yX4_write wsX4_write) := goodIn_app (goodIn_of _ (by decide +kernel)) ggX8_letter_X4_write
set_option maxRecDepth 20000 in
theorem ggX8_letter_X4_length : GoodIn wsX8_letter wsX4_length := goodIn_r _ [17, 7, 27, 28] (by decide +kernel) (by decide +kernel)
end
section
set_option maxRecDepth 20000 in
theorem gX8_letter_X4_length : GoodIn wsX8_letter (wsV RX8 71 RX4 yX4_length wsX4_length) := goodIn_app (goodIn_of _ (by decide +kernel)) ggX8_letter_X4_length
theorem dX8_letter_0 : decode cX8_letter 0 = .ok (.iload_n 1, 1) := by decide +kernel
theorem dX8_letter_1 : decode cX8_letter 1 = .ok (.bipush 32, 2) := by decide +kernel
theorem dX8_letter_3 : decode cX8_letter 3 = .ok (.if_icmp .lt 9, 3) := by decide +kernel
theorem dX8_letter_6 : decode cX8_letter 6 = .ok (.iload_n 1, 1) := by decide +kernel
theorem dX8_letter_7 : decode cX8_letter 7 = .ok (.bipush 126, 2) := by decide +kernel
theorem dX8_letter_9 : decode cX8_letter 9 = .ok (.if_icmp .le 7, 3) := by decide +kernel
theorem dX8_letter_12 : decode cX8_letter 12 = .ok (.sipush (-1002), 3) := by decide +kernel
theorem dX8_letter_15 : decode cX8_letter 15 = .ok (.ireturn, 1) := by decide +kernel
theorem dX8_letter_16 : decode cX8_letter 16 = .ok (.aload_n 0, 1) := by decide +kernel
theorem dX8_letter_17 : decode cX8_letter 17 = .ok (.getfield 12, 3) := by decide +kernel
theorem dX8_letter_20 : decode cX8_letter 20 = .ok (.invokevirtual 63, 3) := by decide +kernel
theorem dX8_letter_23 : decode cX8_letter 23 = .ok (.ifCond .eq 7, 3) := by decide +kernel
theorem dX8_letter_26 : decode cX8_letter 26 = .ok (.sipush (-1004), 3) := by decide +kernel
theorem dX8_letter_29 : decode cX8_letter 29 = .ok (.ireturn, 1) := by decide +kernel
theorem dX8_letter_30 : decode cX8_letter 30 = .ok (.aload_n 0, 1) := by decide +kernel
theorem dX8_letter_31 : decode cX8_letter 31 = .ok (.getfield 12, 3) := by decide +kernel
theorem dX8_letter_34 : decode cX8_letter 34 = .ok (.iload_n 1, 1) := by decide +kernel
theorem dX8_letter_35 : decode cX8_letter 35 = .ok (.invokevirtual 67, 3) := by decide +kernel
theorem dX8_letter_38 : decode cX8_letter 38 = .ok (.aload_n 0, 1) := by decide +kernel
theorem dX8_letter_39 : decode cX8_letter 39 = .ok (.getfield 12, 3) := by decide +kernel
theorem dX8_letter_42 : decode cX8_letter 42 = .ok (.invokevirtual 71, 3) := by decide +kernel
theorem dX8_letter_45 : decode cX8_letter 45 = .ok (.ireturn, 1) := by decide +kernel
set_option maxRecDepth 20000 in
theorem ggX8_blank_X4_length : GoodIn wsX8_blank wsX4_length := goodIn_r _ [6, 7, 21, 22] (by decide +kernel) (by decide +kernel)
set_option maxRecDepth 20000 in
theorem gX8_blank_X4_length : GoodIn wsX8_blank (wsV RX8 71 RX4 yX4_length wsX4_length) := goodIn_app (goodIn_of _ (by decide +kernel)) ggX8_blank_X4_length
set_option maxRecDepth 20000 in
theorem ggX8_blank_X4_wipe : GoodIn wsX8_blank wsX4_wipe := goodIn_r _ [11, 7, 21, 22] (by decide +kernel) (by decide +kernel)
set_option maxRecDepth 20000 in
theorem gX8_blank_X4_wipe : GoodIn wsX8_blank (wsV RX8 75 RX4 yX4_wipe wsX4_wipe) := goodIn_app (goodIn_of _ (by decide +kernel)) ggX8_blank_X4_wipe
theorem dX8_blank_0 : decode cX8_blank 0 = .ok (.aload_n 0, 1) := by decide +kernel
theorem dX8_blank_1 : decode cX8_blank 1 = .ok (.getfield 12, 3) := by decide +kernel
theorem dX8_blank_4 : decode cX8_blank 4 = .ok (.invokevirtual 71, 3) := by decide +kernel
theorem dX8_blank_7 : decode cX8_blank 7 = .ok (.istore_n 1, 1) := by decide +kernel
theorem dX8_blank_8 : decode cX8_blank 8 = .ok (.aload_n 0, 1) := by decide +kernel
theorem dX8_blank_9 : decode cX8_blank 9 = .ok (.getfield 12, 3) := by decide +kernel
theorem dX8_blank_12 : decode cX8_blank 12 = .ok (.invokevirtual 75, 3) := by decide +kernel
theorem dX8_blank_15 : decode cX8_blank 15 = .ok (.iload_n 1, 1) := by decide +kernel
theorem dX8_blank_16 : decode cX8_blank 16 = .ok (.ireturn, 1) := by decide +kernel
set_option maxRecDepth 20000 in
theorem ggX8_fault_X4_firstFault : GoodIn wsX8_fault wsX4_firstFault := goodIn_r _ [6, 7, 8, 18, 19] (by decide +kernel) (by decide +kernel)
set_option maxRecDepth 20000 in
theorem gX8_fault_X4_firstFault : GoodIn wsX8_fault (wsV RX8 78 RX4 yX4_firstFault wsX4_firstFault) := goodIn_app (goodIn_of _ (by decide +kernel)) ggX8_fault_X4_firstFault
theorem dX8_fault_0 : decode cX8_fault 0 = .ok (.aload_n 0, 1) := by decide +kernel
theorem dX8_fault_1 : decode cX8_fault 1 = .ok (.getfield 12, 3) := by decide +kernel
theorem dX8_fault_4 : decode cX8_fault 4 = .ok (.invokevirtual 78, 3) := by decide +kernel
theorem dX8_fault_7 : decode cX8_fault 7 = .ok (.ireturn, 1) := by decide +kernel
set_option maxRecDepth 20000 in
theorem ggX8_jobs_X6_read : GoodIn wsX8_jobs wsX6_read := goodIn_r _ [7, 8, 9, 10, 11, 12, 13, 14, 15, 16, 17, 18, 19, 20, 21, 22, 23, 24, 6, 25, 26, 27, 28, 29, 30, 31, 32, 33, 34, 35, 36, 61, 62, 63, 64, 65, 66, 67, 68] (by decide +kernel) (by decide +kernel)
set_option maxRecDepth 20000 in
theorem gX8_jobs_X6_read : GoodIn wsX8_jobs (wsV RX8 81 RX6 yX6_read wsX6_read) := goodIn_app (goodIn_of _ (by decide +kernel)) ggX8_jobs_X6_read
set_option maxRecDepth 20000 in
theorem ggX8_jobs_X4_wipe : GoodIn wsX8_jobs wsX4_wipe := goodIn_r _ [40, 16, 67, 68] (by decide +kernel) (by decide +kernel)
set_option maxRecDepth 20000 in
theorem gX8_jobs_X4_wipe : GoodIn wsX8_jobs (wsV RX8 75 RX4 yX4_wipe wsX4_wipe) := goodIn_app (goodIn_of _ (by decide +kernel)) ggX8_jobs_X4_wipe
set_option maxRecDepth 20000 in
theorem ggX8_jobs_X8_forgetKeepings : GoodIn wsX8_jobs wsX8_forgetKeepings := goodIn_r _ [45, 46, 47, 52, 53, 54, 55, 56, 57, 58, 59, 60] (by decide +kernel) (by decide +kernel)
set_option maxRecDepth 20000 in
theorem gX8_jobs_X8_forgetKeepings : GoodIn wsX8_jobs (wsV RX8 85 RX8 yX8_forgetKeepings wsX8_forgetKeepings) := goodIn_app (goodIn_of _ (by decide +kernel)) ggX8_jobs_X8_forgetKeepings
set_option maxRecDepth 20000 in
theorem ggX8_jobs_X6_size : GoodIn wsX8_jobs wsX6_size := goodIn_r _ [51, 9, 61, 62, 63, 64, 65, 66] (by decide +kernel) (by decide +kernel)
set_option maxRecDepth 20000 in
theorem gX8_jobs_X6_size : GoodIn wsX8_jobs (wsV RX8 88 RX6 yX6_size wsX6_size) := goodIn_app (goodIn_of _ (by decide +kernel)) ggX8_jobs_X6_size
theorem dX8_jobs_0 : decode cX8_jobs 0 = .ok (.aload_n 0, 1) := by decide +kernel
theorem dX8_jobs_1 : decode cX8_jobs 1 = .ok (.getfield 26, 3) := by decide +kernel
theorem dX8_jobs_4 : decode cX8_jobs 4 = .ok (.aload_n 0, 1) := by decide +kernel
theorem dX8_jobs_5 : decode cX8_jobs 5 = .ok (.getfield 12, 3) := by decide +kernel
theorem dX8_jobs_8 : decode cX8_jobs 8 = .ok (.invokevirtual 81, 3) := by decide +kernel
theorem dX8_jobs_11 : decode cX8_jobs 11 = .ok (.ifCond .ne 7, 3) := by decide +kernel
theorem dX8_jobs_14 : decode cX8_jobs 14 = .ok (.sipush (-1003), 3) := by decide +kernel
theorem dX8_jobs_17 : decode cX8_jobs 17 = .ok (.ireturn, 1) := by decide +kernel
theorem dX8_jobs_18 : decode cX8_jobs 18 = .ok (.aload_n 0, 1) := by decide +kernel
theorem dX8_jobs_19 : decode cX8_jobs 19 = .ok (.getfield 12, 3) := by decide +kernel
theorem dX8_jobs_22 : decode cX8_jobs 22 = .ok (.invokevirtual 75, 3) := by decide +kernel
theorem dX8_jobs_25 : decode cX8_jobs 25 = .ok (.aload_n 0, 1) := by decide +kernel
theorem dX8_jobs_26 : decode cX8_jobs 26 = .ok (.invokevirtual 85, 3) := by decide +kernel
theorem dX8_jobs_29 : decode cX8_jobs 29 = .ok (.aload_n 0, 1) := by decide +kernel
theorem dX8_jobs_30 : decode cX8_jobs 30 = .ok (.getfield 26, 3) := by decide +kernel
theorem dX8_jobs_33 : decode cX8_jobs 33 = .ok (.invokevirtual 88, 3) := by decide +kernel
theorem dX8_jobs_36 : decode cX8_jobs 36 = .ok (.ireturn, 1) := by decide +kernel
set_option maxRecDepth 20000 in
theorem ggX8_big_X8_isTool : GoodIn wsX8_big wsX8_isTool := goodIn_r _ [5] (by decide +kernel) (by decide +kernel)
set_option maxRecDepth 20000 in
theorem gX8_big_X8_isTool : GoodIn wsX8_big (va_wsS RX8 91 yX8_isTool wsX8_isTool) := goodIn_app (goodIn_of _ (by decide +kernel)) ggX8_big_X8_isTool
set_option maxRecDepth 20000 in
theorem ggX8_big_X3_bigTools : GoodIn wsX8_big wsX3_bigTools := goodIn_r _ [10, 11, 36, 37] (by decide +kernel) (by decide +kernel)
set_option maxRecDepth 20000 in
theorem gX8_big_X3_bigTools : GoodIn wsX8_big (wsV RX8 95 RX3 yX3_bigTools wsX3_bigTools) := goodIn_app (goodIn_of _ (by decide +kernel)) ggX8_big_X3_bigTools
set_option maxRecDepth 20000 in
theorem ggX8_big_X8_hasTool : GoodIn wsX8_big wsX8_hasTool := goodIn_r _ [14] (by decide +kernel) (by decide +kernel)
set_option maxRecDepth 20000 in
theorem gX8_big_X8_hasTool : GoodIn wsX8_big (va_wsS RX8 98 yX8_hasTool wsX8_hasTool) := goodIn_app (goodIn_of _ (by decide +kernel)) ggX8_big_X8_hasTool
set_option maxRecDepth 20000 in
theorem ggX8_big_X3_setBig : GoodIn wsX8_big wsX3_setBig := goodIn_r _ [18, 11, 19, 4, 20, 36, 37] (by decide +kernel) (by decide +kernel)
set_option maxRecDepth 20000 in
theorem gX8_big_X3_setBig : GoodIn wsX8_big (wsV RX8 102 RX3 yX3_setBig wsX3_setBig) := goodIn_app (goodIn_of _ (by decide +kernel)) ggX8_big_X3_setBig
set_option maxRecDepth 20000 in
theorem ggX8_big_X8_forgetKeepings : GoodIn wsX8_big wsX8_forgetKeepings := goodIn_r _ [24, 25, 26, 27, 28, 29, 30, 31, 32, 33, 34, 35] (by decide +kernel) (by decide +kernel)
set_option maxRecDepth 20000 in
theorem gX8_big_X8_forgetKeepings : GoodIn wsX8_big (wsV RX8 85 RX8 yX8_forgetKeepings wsX8_forgetKeepings) := goodIn_app (goodIn_of _ (by decide +kernel)) ggX8_big_X8_forgetKeepings
theorem dX8_big_0 : decode cX8_big 0 = .ok (.iload_n 1, 1) := by decide +kernel
theorem dX8_big_1 : decode cX8_big 1 = .ok (.invokestatic 91, 3) := by decide +kernel
theorem dX8_big_4 : decode cX8_big 4 = .ok (.ifCond .ne 7, 3) := by decide +kernel
theorem dX8_big_7 : decode cX8_big 7 = .ok (.sipush (-1001), 3) := by decide +kernel
theorem dX8_big_10 : decode cX8_big 10 = .ok (.ireturn, 1) := by decide +kernel
theorem dX8_big_11 : decode cX8_big 11 = .ok (.aload_n 0, 1) := by decide +kernel
theorem dX8_big_12 : decode cX8_big 12 = .ok (.getfield 19, 3) := by decide +kernel
theorem dX8_big_15 : decode cX8_big 15 = .ok (.invokevirtual 95, 3) := by decide +kernel
theorem dX8_big_18 : decode cX8_big 18 = .ok (.iload_n 1, 1) := by decide +kernel
theorem dX8_big_19 : decode cX8_big 19 = .ok (.invokestatic 98, 3) := by decide +kernel
theorem dX8_big_22 : decode cX8_big 22 = .ok (.ifCond .eq 7, 3) := by decide +kernel
theorem dX8_big_25 : decode cX8_big 25 = .ok (.iconst 1, 1) := by decide +kernel
theorem dX8_big_26 : decode cX8_big 26 = .ok (.goto 4, 3) := by decide +kernel
theorem dX8_big_29 : decode cX8_big 29 = .ok (.iconst 0, 1) := by decide +kernel
theorem dX8_big_30 : decode cX8_big 30 = .ok (.istore_n 3, 1) := by decide +kernel
theorem dX8_big_31 : decode cX8_big 31 = .ok (.aload_n 0, 1) := by decide +kernel
theorem dX8_big_32 : decode cX8_big 32 = .ok (.getfield 19, 3) := by decide +kernel
theorem dX8_big_35 : decode cX8_big 35 = .ok (.iload_n 1, 1) := by decide +kernel
theorem dX8_big_36 : decode cX8_big 36 = .ok (.iload_n 2, 1) := by decide +kernel
theorem dX8_big_37 : decode cX8_big 37 = .ok (.invokevirtual 102, 3) := by decide +kernel
theorem dX8_big_40 : decode cX8_big 40 = .ok (.aload_n 0, 1) := by decide +kernel
theorem dX8_big_41 : decode cX8_big 41 = .ok (.invokevirtual 85, 3) := by decide +kernel
theorem dX8_big_44 : decode cX8_big 44 = .ok (.iload_n 3, 1) := by decide +kernel
theorem dX8_big_45 : decode cX8_big 45 = .ok (.ireturn, 1) := by decide +kernel
set_option maxRecDepth 20000 in
theorem ggX8_pockets_X3_room : GoodIn wsX8_pockets wsX3_room := goodIn_r _ [6, 7, 28, 29] (by decide +kernel) (by decide +kernel)
set_option maxRecDepth 20000 in
theorem gX8_pockets_X3_room : GoodIn wsX8_pockets (wsV RX8 106 RX3 yX3_room wsX3_room) := goodIn_app (goodIn_of _ (by decide +kernel)) ggX8_pockets_X3_room
set_option maxRecDepth 20000 in
theorem ggX8_pockets_X3_setRoom : GoodIn wsX8_pockets wsX3_setRoom := goodIn_r _ [11, 7, 28, 29] (by decide +kernel) (by decide +kernel)
set_option maxRecDepth 20000 in
theorem gX8_pockets_X3_setRoom : GoodIn wsX8_pockets (wsV RX8 109 RX3 yX3_setRoom wsX3_setRoom) := goodIn_app (goodIn_of _ (by decide +kernel)) ggX8_pockets_X3_setRoom
set_option maxRecDepth 20000 in
theorem ggX8_pockets_X8_forgetKeepings : GoodIn wsX8_pockets wsX8_forgetKeepings := goodIn_r _ [16, 17, 18, 19, 20, 21, 22, 23, 24, 25, 26, 27] (by decide +kernel) (by decide +kernel)
set_option maxRecDepth 20000 in
theorem gX8_pockets_X8_forgetKeepings : GoodIn wsX8_pockets (wsV RX8 85 RX8 yX8_forgetKeepings wsX8_forgetKeepings) := goodIn_app (goodIn_of _ (by decide +kernel)) ggX8_pockets_X8_forgetKeepings
theorem dX8_pockets_0 : decode cX8_pockets 0 = .ok (.iload_n 1, 1) := by decide +kernel
theorem dX8_pockets_1 : decode cX8_pockets 1 = .ok (.iconst 2, 1) := by decide +kernel
theorem dX8_pockets_2 : decode cX8_pockets 2 = .ok (.if_icmp .lt 9, 3) := by decide +kernel
theorem dX8_pockets_5 : decode cX8_pockets 5 = .ok (.iload_n 1, 1) := by decide +kernel
theorem dX8_pockets_6 : decode cX8_pockets 6 = .ok (.bipush 12, 2) := by decide +kernel
theorem dX8_pockets_8 : decode cX8_pockets 8 = .ok (.if_icmp .le 7, 3) := by decide +kernel
theorem dX8_pockets_11 : decode cX8_pockets 11 = .ok (.sipush (-1002), 3) := by decide +kernel
theorem dX8_pockets_14 : decode cX8_pockets 14 = .ok (.ireturn, 1) := by decide +kernel
theorem dX8_pockets_15 : decode cX8_pockets 15 = .ok (.aload_n 0, 1) := by decide +kernel
theorem dX8_pockets_16 : decode cX8_pockets 16 = .ok (.getfield 19, 3) := by decide +kernel
theorem dX8_pockets_19 : decode cX8_pockets 19 = .ok (.invokevirtual 106, 3) := by decide +kernel
theorem dX8_pockets_22 : decode cX8_pockets 22 = .ok (.istore_n 2, 1) := by decide +kernel
theorem dX8_pockets_23 : decode cX8_pockets 23 = .ok (.aload_n 0, 1) := by decide +kernel
theorem dX8_pockets_24 : decode cX8_pockets 24 = .ok (.getfield 19, 3) := by decide +kernel
theorem dX8_pockets_27 : decode cX8_pockets 27 = .ok (.iload_n 1, 1) := by decide +kernel
theorem dX8_pockets_28 : decode cX8_pockets 28 = .ok (.invokevirtual 109, 3) := by decide +kernel
theorem dX8_pockets_31 : decode cX8_pockets 31 = .ok (.aload_n 0, 1) := by decide +kernel
theorem dX8_pockets_32 : decode cX8_pockets 32 = .ok (.invokevirtual 85, 3) := by decide +kernel
theorem dX8_pockets_35 : decode cX8_pockets 35 = .ok (.iload_n 2, 1) := by decide +kernel
theorem dX8_pockets_36 : decode cX8_pockets 36 = .ok (.ireturn, 1) := by decide +kernel
set_option maxRecDepth 20000 in
theorem ggX8_breaks_X6_isPlace : GoodIn wsX8_breaks wsX6_isPlace := goodIn_r _ [6, 7, 41, 42, 43, 44, 45, 46] (by decide +kernel) (by decide +kernel)
set_option maxRecDepth 20000 in
theorem gX8_breaks_X6_isPlace : GoodIn wsX8_breaks (wsV RX8 112 RX6 yX6_isPlace wsX6_isPlace) := goodIn_app (goodIn_of _ (by decide +kernel)) ggX8_breaks_X6_isPlace
set_option maxRecDepth 20000 in
theorem ggX8_breaks_X8_isTool : GoodIn wsX8_breaks wsX8_isTool := goodIn_r _ [11] (by decide +kernel) (by decide +kernel)
set_option maxRecDepth 20000 in
theorem gX8_breaks_X8_isTool : GoodIn wsX8_breaks (va_wsS RX8 91 yX8_isTool wsX8_isTool) := goodIn_app (goodIn_of _ (by decide +kernel)) ggX8_breaks_X8_isTool
set_option maxRecDepth 20000 in
theorem ggX8_breaks_X6_broken : GoodIn wsX8_breaks wsX6_broken := goodIn_r _ [15, 16, 41, 42, 43, 44, 45, 46] (by decide +kernel) (by decide +kernel)
set_option maxRecDepth 20000 in
theorem gX8_breaks_X6_broken : GoodIn wsX8_breaks (wsV RX8 115 RX6 yX6_broken wsX6_broken) := goodIn_app (goodIn_of _ (by decide +kernel)) ggX8_breaks_X6_broken
set_option maxRecDepth 20000 in
theorem ggX8_breaks_X8_hasTool : GoodIn wsX8_breaks wsX8_hasTool := goodIn_r _ [19] (by decide +kernel) (by decide +kernel)
set_option maxRecDepth 20000 in
theorem gX8_breaks_X8_hasTool : GoodIn wsX8_breaks (va_wsS RX8 98 yX8_hasTool wsX8_hasTool) := goodIn_app (goodIn_of _ (by decide +kernel)) ggX8_breaks_X8_hasTool
set_option maxRecDepth 20000 in
theorem ggX8_breaks_X6_setBreak : GoodIn wsX8_breaks wsX6_setBreak := goodIn_r _ [23, 16, 24, 10, 25, 41, 42, 43, 44, 45, 46] (by decide +kernel) (by decide +kernel)
set_option maxRecDepth 20000 in
theorem gX8_breaks_X6_setBreak : GoodIn wsX8_breaks (wsV RX8 119 RX6 yX6_setBreak wsX6_setBreak) := goodIn_app (goodIn_of _ (by decide +kernel)) ggX8_breaks_X6_setBreak
set_option maxRecDepth 20000 in
theorem ggX8_breaks_X8_forgetKeepings : GoodIn wsX8_breaks wsX8_forgetKeepings := goodIn_r _ [29, 30, 31, 32, 33, 34, 35, 36, 37, 38, 39, 40] (by decide +kernel) (by decide +kernel)
set_option maxRecDepth 20000 in
theorem gX8_breaks_X8_forgetKeepings : GoodIn wsX8_breaks (wsV RX8 85 RX8 yX8_forgetKeepings wsX8_forgetKeepings) := goodIn_app (goodIn_of _ (by decide +kernel)) ggX8_breaks_X8_forgetKeepings
theorem dX8_breaks_0 : decode cX8_breaks 0 = .ok (.aload_n 0, 1) := by decide +kernel
theorem dX8_breaks_1 : decode cX8_breaks 1 = .ok (.getfield 26, 3) := by decide +kernel
theorem dX8_breaks_4 : decode cX8_breaks 4 = .ok (.iload_n 1, 1) := by decide +kernel
theorem dX8_breaks_5 : decode cX8_breaks 5 = .ok (.invokevirtual 112, 3) := by decide +kernel
theorem dX8_breaks_8 : decode cX8_breaks 8 = .ok (.ifCond .eq 10, 3) := by decide +kernel
theorem dX8_breaks_11 : decode cX8_breaks 11 = .ok (.iload_n 2, 1) := by decide +kernel
theorem dX8_breaks_12 : decode cX8_breaks 12 = .ok (.invokestatic 91, 3) := by decide +kernel
theorem dX8_breaks_15 : decode cX8_breaks 15 = .ok (.ifCond .ne 7, 3) := by decide +kernel
theorem dX8_breaks_18 : decode cX8_breaks 18 = .ok (.sipush (-1001), 3) := by decide +kernel
theorem dX8_breaks_21 : decode cX8_breaks 21 = .ok (.ireturn, 1) := by decide +kernel
theorem dX8_breaks_22 : decode cX8_breaks 22 = .ok (.aload_n 0, 1) := by decide +kernel
theorem dX8_breaks_23 : decode cX8_breaks 23 = .ok (.getfield 26, 3) := by decide +kernel
theorem dX8_breaks_26 : decode cX8_breaks 26 = .ok (.iload_n 1, 1) := by decide +kernel
theorem dX8_breaks_27 : decode cX8_breaks 27 = .ok (.invokevirtual 115, 3) := by decide +kernel
theorem dX8_breaks_30 : decode cX8_breaks 30 = .ok (.iload_n 2, 1) := by decide +kernel
theorem dX8_breaks_31 : decode cX8_breaks 31 = .ok (.invokestatic 98, 3) := by decide +kernel
theorem dX8_breaks_34 : decode cX8_breaks 34 = .ok (.ifCond .eq 7, 3) := by decide +kernel
theorem dX8_breaks_37 : decode cX8_breaks 37 = .ok (.iconst 1, 1) := by decide +kernel
theorem dX8_breaks_38 : decode cX8_breaks 38 = .ok (.goto 4, 3) := by decide +kernel
theorem dX8_breaks_41 : decode cX8_breaks 41 = .ok (.iconst 0, 1) := by decide +kernel
theorem dX8_breaks_42 : decode cX8_breaks 42 = .ok (.istore 4, 2) := by decide +kernel
theorem dX8_breaks_44 : decode cX8_breaks 44 = .ok (.aload_n 0, 1) := by decide +kernel
theorem dX8_breaks_45 : decode cX8_breaks 45 = .ok (.getfield 26, 3) := by decide +kernel
theorem dX8_breaks_48 : decode cX8_breaks 48 = .ok (.iload_n 1, 1) := by decide +kernel
theorem dX8_breaks_49 : decode cX8_breaks 49 = .ok (.iload_n 2, 1) := by decide +kernel
theorem dX8_breaks_50 : decode cX8_breaks 50 = .ok (.iload_n 3, 1) := by decide +kernel
theorem dX8_breaks_51 : decode cX8_breaks 51 = .ok (.invokevirtual 119, 3) := by decide +kernel
theorem dX8_breaks_54 : decode cX8_breaks 54 = .ok (.aload_n 0, 1) := by decide +kernel
theorem dX8_breaks_55 : decode cX8_breaks 55 = .ok (.invokevirtual 85, 3) := by decide +kernel
theorem dX8_breaks_58 : decode cX8_breaks 58 = .ok (.iload 4, 2) := by decide +kernel
theorem dX8_breaks_60 : decode cX8_breaks 60 = .ok (.ireturn, 1) := by decide +kernel
set_option maxRecDepth 20000 in
theorem ggX8_swap_X6_isPlace : GoodIn wsX8_swap wsX6_isPlace := goodIn_r _ [6, 7, 42, 43, 44, 45, 46, 47] (by decide +kernel) (by decide +kernel)
set_option maxRecDepth 20000 in
theorem gX8_swap_X6_isPlace : GoodIn wsX8_swap (wsV RX8 112 RX6 yX6_isPlace wsX6_isPlace) := goodIn_app (goodIn_of _ (by decide +kernel)) ggX8_swap_X6_isPlace
set_option maxRecDepth 20000 in
theorem ggX8_swap_X8_changeOrder : GoodIn wsX8_swap wsX8_changeOrder := goodIn_r _ [12, 1, 13, 14, 15, 5, 16, 17, 18, 19, 20, 21, 22, 23, 24, 25, 11, 26, 27, 28, 33, 34, 35, 36, 37, 38, 39, 40, 41, 42, 43, 44, 45, 46, 47] (by decide +kernel) (by decide +kernel)
set_option maxRecDepth 20000 in
theorem gX8_swap_X8_changeOrder : GoodIn wsX8_swap (wsV RX8 123 RX8 yX8_changeOrder wsX8_changeOrder) := goodIn_app (goodIn_of _ (by decide +kernel)) ggX8_swap_X8_changeOrder
set_option maxRecDepth 20000 in
theorem ggX8_swap_X6_changes : GoodIn wsX8_swap wsX6_changes := goodIn_r _ [32, 22, 42, 43, 44, 45, 46, 47] (by decide +kernel) (by decide +kernel)
set_option maxRecDepth 20000 in
theorem gX8_swap_X6_changes : GoodIn wsX8_swap (wsV RX8 127 RX6 yX6_changes wsX6_changes) := goodIn_app (goodIn_of _ (by decide +kernel)) ggX8_swap_X6_changes
theorem dX8_swap_0 : decode cX8_swap 0 = .ok (.aload_n 0, 1) := by decide +kernel
theorem dX8_swap_1 : decode cX8_swap 1 = .ok (.getfield 26, 3) := by decide +kernel
theorem dX8_swap_4 : decode cX8_swap 4 = .ok (.iload_n 1, 1) := by decide +kernel
theorem dX8_swap_5 : decode cX8_swap 5 = .ok (.invokevirtual 112, 3) := by decide +kernel
theorem dX8_swap_8 : decode cX8_swap 8 = .ok (.ifCond .eq 14, 3) := by decide +kernel
theorem dX8_swap_11 : decode cX8_swap 11 = .ok (.aload_n 0, 1) := by decide +kernel
theorem dX8_swap_12 : decode cX8_swap 12 = .ok (.getfield 26, 3) := by decide +kernel
theorem dX8_swap_15 : decode cX8_swap 15 = .ok (.iload_n 2, 1) := by decide +kernel
theorem dX8_swap_16 : decode cX8_swap 16 = .ok (.invokevirtual 112, 3) := by decide +kernel
theorem dX8_swap_19 : decode cX8_swap 19 = .ok (.ifCond .ne 7, 3) := by decide +kernel
theorem dX8_swap_22 : decode cX8_swap 22 = .ok (.sipush (-1001), 3) := by decide +kernel
theorem dX8_swap_25 : decode cX8_swap 25 = .ok (.ireturn, 1) := by decide +kernel
theorem dX8_swap_26 : decode cX8_swap 26 = .ok (.aload_n 0, 1) := by decide +kernel
theorem dX8_swap_27 : decode cX8_swap 27 = .ok (.iload_n 1, 1) := by decide +kernel
theorem dX8_swap_28 : decode cX8_swap 28 = .ok (.iload_n 2, 1) := by decide +kernel
theorem dX8_swap_29 : decode cX8_swap 29 = .ok (.invokevirtual 123, 3) := by decide +kernel
theorem dX8_swap_32 : decode cX8_swap 32 = .ok (.aload_n 0, 1) := by decide +kernel
theorem dX8_swap_33 : decode cX8_swap 33 = .ok (.getfield 26, 3) := by decide +kernel
theorem dX8_swap_36 : decode cX8_swap 36 = .ok (.invokevirtual 127, 3) := by decide +kernel
theorem dX8_swap_39 : decode cX8_swap 39 = .ok (.ireturn, 1) := by decide +kernel
set_option maxRecDepth 20000 in
theorem ggX8_as_X8_isTool : GoodIn wsX8_as wsX8_isTool := goodIn_r _ [5] (by decide +kernel) (by decide +kernel)
set_option maxRecDepth 20000 in
theorem gX8_as_X8_isTool : GoodIn wsX8_as (va_wsS RX8 91 yX8_isTool wsX8_isTool) := goodIn_app (goodIn_of _ (by decide +kernel)) ggX8_as_X8_isTool
set_option maxRecDepth 20000 in
theorem ggX8_as_X3_bigTools : GoodIn wsX8_as wsX3_bigTools := goodIn_r _ [10, 11, 24, 25] (by decide +kernel) (by decide +kernel)
set_option maxRecDepth 20000 in
theorem gX8_as_X3_bigTools : GoodIn wsX8_as (wsV RX8 95 RX3 yX3_bigTools wsX3_bigTools) := goodIn_app (goodIn_of _ (by decide +kernel)) ggX8_as_X3_bigTools
set_option maxRecDepth 20000 in
theorem ggX8_as_X8_hasTool : GoodIn wsX8_as wsX8_hasTool := goodIn_r _ [14] (by decide +kernel) (by decide +kernel)
set_option maxRecDepth 20000 in
theorem gX8_as_X8_hasTool : GoodIn wsX8_as (va_wsS RX8 98 yX8_hasTool wsX8_hasTool) := goodIn_app (goodIn_of _ (by decide +kernel)) ggX8_as_X8_hasTool
theorem dX8_as_0 : decode cX8_as 0 = .ok (.iload_n 1, 1) := by decide +kernel
theorem dX8_as_1 : decode cX8_as 1 = .ok (.invokestatic 91, 3) := by decide +kernel
theorem dX8_as_4 : decode cX8_as 4 = .ok (.ifCond .ne 7, 3) := by decide +kernel
theorem dX8_as_7 : decode cX8_as 7 = .ok (.sipush (-1001), 3) := by decide +kernel
theorem dX8_as_10 : decode cX8_as 10 = .ok (.ireturn, 1) := by decide +kernel
theorem dX8_as_11 : decode cX8_as 11 = .ok (.iload_n 2, 1) := by decide +kernel
theorem dX8_as_12 : decode cX8_as 12 = .ok (.ifCond .lt 8, 3) := by decide +kernel
theorem dX8_as_15 : decode cX8_as 15 = .ok (.iload_n 2, 1) := by decide +kernel
theorem dX8_as_16 : decode cX8_as 16 = .ok (.iconst 2, 1) := by decide +kernel
theorem dX8_as_17 : decode cX8_as 17 = .ok (.if_icmp .le 7, 3) := by decide +kernel
theorem dX8_as_20 : decode cX8_as 20 = .ok (.sipush (-1002), 3) := by decide +kernel
theorem dX8_as_23 : decode cX8_as 23 = .ok (.ireturn, 1) := by decide +kernel
theorem dX8_as_24 : decode cX8_as 24 = .ok (.iload_n 2, 1) := by decide +kernel
theorem dX8_as_25 : decode cX8_as 25 = .ok (.ifCond .eq 27, 3) := by decide +kernel
theorem dX8_as_28 : decode cX8_as 28 = .ok (.aload_n 0, 1) := by decide +kernel
theorem dX8_as_29 : decode cX8_as 29 = .ok (.getfield 19, 3) := by decide +kernel
theorem dX8_as_32 : decode cX8_as 32 = .ok (.invokevirtual 95, 3) := by decide +kernel
theorem dX8_as_35 : decode cX8_as 35 = .ok (.iload_n 1, 1) := by decide +kernel
theorem dX8_as_36 : decode cX8_as 36 = .ok (.invokestatic 98, 3) := by decide +kernel
theorem dX8_as_39 : decode cX8_as 39 = .ok (.iload_n 2, 1) := by decide +kernel
theorem dX8_as_40 : decode cX8_as 40 = .ok (.iconst 2, 1) := by decide +kernel
theorem dX8_as_41 : decode cX8_as 41 = .ok (.if_icmp .ne 7, 3) := by decide +kernel
theorem dX8_as_44 : decode cX8_as 44 = .ok (.iconst 1, 1) := by decide +kernel
theorem dX8_as_45 : decode cX8_as 45 = .ok (.goto 4, 3) := by decide +kernel
theorem dX8_as_48 : decode cX8_as 48 = .ok (.iconst 0, 1) := by decide +kernel
theorem dX8_as_49 : decode cX8_as 49 = .ok (.if_icmp .ne 7, 3) := by decide +kernel
theorem dX8_as_52 : decode cX8_as 52 = .ok (.iconst 1, 1) := by decide +kernel
theorem dX8_as_53 : decode cX8_as 53 = .ok (.goto 4, 3) := by decide +kernel
theorem dX8_as_56 : decode cX8_as 56 = .ok (.iconst 0, 1) := by decide +kernel
theorem dX8_as_57 : decode cX8_as 57 = .ok (.istore_n 3, 1) := by decide +kernel
theorem dX8_as_58 : decode cX8_as 58 = .ok (.iload_n 3, 1) := by decide +kernel
theorem dX8_as_59 : decode cX8_as 59 = .ok (.ifCond .eq 7, 3) := by decide +kernel
theorem dX8_as_62 : decode cX8_as 62 = .ok (.iload_n 1, 1) := by decide +kernel
theorem dX8_as_63 : decode cX8_as 63 = .ok (.goto 4, 3) := by decide +kernel
theorem dX8_as_66 : decode cX8_as 66 = .ok (.iconst (-1), 1) := by decide +kernel
theorem dX8_as_67 : decode cX8_as 67 = .ok (.ireturn, 1) := by decide +kernel
set_option maxRecDepth 20000 in
theorem ggX8_job_X6_isPlace : GoodIn wsX8_job wsX6_isPlace := goodIn_r _ [6, 7, 32, 33, 34, 35, 36, 37] (by decide +kernel) (by decide +kernel)
set_option maxRecDepth 20000 in
theorem gX8_job_X6_isPlace : GoodIn wsX8_job (wsV RX8 112 RX6 yX6_isPlace wsX6_isPlace) := goodIn_app (goodIn_of _ (by decide +kernel)) ggX8_job_X6_isPlace
set_option maxRecDepth 20000 in
theorem ggX8_job_X6_needs : GoodIn wsX8_job wsX6_needs := goodIn_r _ [11, 12, 13, 32, 33, 34, 35, 36, 37] (by decide +kernel) (by decide +kernel)
set_option maxRecDepth 20000 in
theorem gX8_job_X6_needs : GoodIn wsX8_job (wsV RX8 130 RX6 yX6_needs wsX6_needs) := goodIn_app (goodIn_of _ (by decide +kernel)) ggX8_job_X6_needs
set_option maxRecDepth 20000 in
theorem ggX8_job_X6_number : GoodIn wsX8_job wsX6_number := goodIn_r _ [17, 13, 32, 33, 34, 35, 36, 37] (by decide +kernel) (by decide +kernel)
set_option maxRecDepth 20000 in
theorem gX8_job_X6_number : GoodIn wsX8_job (wsV RX8 133 RX6 yX6_number wsX6_number) := goodIn_app (goodIn_of _ (by decide +kernel)) ggX8_job_X6_number
set_option maxRecDepth 20000 in
theorem ggX8_job_X6_broken : GoodIn wsX8_job wsX6_broken := goodIn_r _ [21, 22, 32, 33, 34, 35, 36, 37] (by decide +kernel) (by decide +kernel)
set_option maxRecDepth 20000 in
theorem gX8_job_X6_broken : GoodIn wsX8_job (wsV RX8 115 RX6 yX6_broken wsX6_broken) := goodIn_app (goodIn_of _ (by decide +kernel)) ggX8_job_X6_broken
theorem dX8_job_0 : decode cX8_job 0 = .ok (.aload_n 0, 1) := by decide +kernel
theorem dX8_job_1 : decode cX8_job 1 = .ok (.getfield 26, 3) := by decide +kernel
theorem dX8_job_4 : decode cX8_job 4 = .ok (.iload_n 1, 1) := by decide +kernel
theorem dX8_job_5 : decode cX8_job 5 = .ok (.invokevirtual 112, 3) := by decide +kernel
theorem dX8_job_8 : decode cX8_job 8 = .ok (.ifCond .ne 7, 3) := by decide +kernel
theorem dX8_job_11 : decode cX8_job 11 = .ok (.sipush (-1001), 3) := by decide +kernel
theorem dX8_job_14 : decode cX8_job 14 = .ok (.ireturn, 1) := by decide +kernel
theorem dX8_job_15 : decode cX8_job 15 = .ok (.iload_n 2, 1) := by decide +kernel
theorem dX8_job_16 : decode cX8_job 16 = .ok (.tableswitch 55 0 2 #[28, 37, 46], 28) := by decide +kernel
theorem dX8_job_44 : decode cX8_job 44 = .ok (.aload_n 0, 1) := by decide +kernel
theorem dX8_job_45 : decode cX8_job 45 = .ok (.getfield 26, 3) := by decide +kernel
theorem dX8_job_48 : decode cX8_job 48 = .ok (.iload_n 1, 1) := by decide +kernel
theorem dX8_job_49 : decode cX8_job 49 = .ok (.invokevirtual 130, 3) := by decide +kernel
theorem dX8_job_52 : decode cX8_job 52 = .ok (.ireturn, 1) := by decide +kernel
theorem dX8_job_53 : decode cX8_job 53 = .ok (.aload_n 0, 1) := by decide +kernel
theorem dX8_job_54 : decode cX8_job 54 = .ok (.getfield 26, 3) := by decide +kernel
theorem dX8_job_57 : decode cX8_job 57 = .ok (.iload_n 1, 1) := by decide +kernel
theorem dX8_job_58 : decode cX8_job 58 = .ok (.invokevirtual 133, 3) := by decide +kernel
theorem dX8_job_61 : decode cX8_job 61 = .ok (.ireturn, 1) := by decide +kernel
theorem dX8_job_62 : decode cX8_job 62 = .ok (.aload_n 0, 1) := by decide +kernel
theorem dX8_job_63 : decode cX8_job 63 = .ok (.getfield 26, 3) := by decide +kernel
theorem dX8_job_66 : decode cX8_job 66 = .ok (.iload_n 1, 1) := by decide +kernel
theorem dX8_job_67 : decode cX8_job 67 = .ok (.invokevirtual 115, 3) := by decide +kernel
theorem dX8_job_70 : decode cX8_job 70 = .ok (.ireturn, 1) := by decide +kernel
theorem dX8_job_71 : decode cX8_job 71 = .ok (.sipush (-1002), 3) := by decide +kernel
theorem dX8_job_74 : decode cX8_job 74 = .ok (.ireturn, 1) := by decide +kernel
set_option maxRecDepth 20000 in
theorem ggX8_next_X6_isPlace : GoodIn wsX8_next wsX6_isPlace := goodIn_r _ [6, 7, 34, 35, 36, 37, 38, 39] (by decide +kernel) (by decide +kernel)
set_option maxRecDepth 20000 in
theorem gX8_next_X6_isPlace : GoodIn wsX8_next (wsV RX8 112 RX6 yX6_isPlace wsX6_isPlace) := goodIn_app (goodIn_of _ (by decide +kernel)) ggX8_next_X6_isPlace
set_option maxRecDepth 20000 in
theorem ggX8_next_X8_isTool : GoodIn wsX8_next wsX8_isTool := goodIn_r _ [11] (by decide +kernel) (by decide +kernel)
set_option maxRecDepth 20000 in
theorem gX8_next_X8_isTool : GoodIn wsX8_next (va_wsS RX8 91 yX8_isTool wsX8_isTool) := goodIn_app (goodIn_of _ (by decide +kernel)) ggX8_next_X8_isTool
set_option maxRecDepth 20000 in
theorem ggX8_next_X6_nextPlace : GoodIn wsX8_next wsX6_nextPlace := goodIn_r _ [15, 7, 16, 17, 10, 18, 19, 20, 21, 5, 22, 23, 24, 34, 35, 36, 37, 38, 39] (by decide +kernel) (by decide +kernel)
set_option maxRecDepth 20000 in
theorem gX8_next_X6_nextPlace : GoodIn wsX8_next (wsV RX8 136 RX6 yX6_nextPlace wsX6_nextPlace) := goodIn_app (goodIn_of _ (by decide +kernel)) ggX8_next_X6_nextPlace
theorem dX8_next_0 : decode cX8_next 0 = .ok (.aload_n 0, 1) := by decide +kernel
theorem dX8_next_1 : decode cX8_next 1 = .ok (.getfield 26, 3) := by decide +kernel
theorem dX8_next_4 : decode cX8_next 4 = .ok (.iload_n 1, 1) := by decide +kernel
theorem dX8_next_5 : decode cX8_next 5 = .ok (.invokevirtual 112, 3) := by decide +kernel
theorem dX8_next_8 : decode cX8_next 8 = .ok (.ifCond .eq 10, 3) := by decide +kernel
theorem dX8_next_11 : decode cX8_next 11 = .ok (.iload_n 2, 1) := by decide +kernel
theorem dX8_next_12 : decode cX8_next 12 = .ok (.invokestatic 91, 3) := by decide +kernel
theorem dX8_next_15 : decode cX8_next 15 = .ok (.ifCond .ne 7, 3) := by decide +kernel
theorem dX8_next_18 : decode cX8_next 18 = .ok (.sipush (-1001), 3) := by decide +kernel
theorem dX8_next_21 : decode cX8_next 21 = .ok (.ireturn, 1) := by decide +kernel
theorem dX8_next_22 : decode cX8_next 22 = .ok (.aload_n 0, 1) := by decide +kernel
theorem dX8_next_23 : decode cX8_next 23 = .ok (.getfield 26, 3) := by decide +kernel
theorem dX8_next_26 : decode cX8_next 26 = .ok (.iload_n 1, 1) := by decide +kernel
theorem dX8_next_27 : decode cX8_next 27 = .ok (.iload_n 2, 1) := by decide +kernel
theorem dX8_next_28 : decode cX8_next 28 = .ok (.invokevirtual 136, 3) := by decide +kernel
theorem dX8_next_31 : decode cX8_next 31 = .ok (.ireturn, 1) := by decide +kernel
set_option maxRecDepth 20000 in
theorem ggX8_soonest_X8_refusalOfKeeping : GoodIn wsX8_soonest wsX8_refusalOfKeeping := goodIn_r _ [6, 7, 8, 9, 10, 11, 12, 13, 14, 15, 16, 5, 17, 18, 19, 20, 21, 22, 23, 24, 25, 26, 27, 28, 29, 30, 31, 32, 33, 34, 35, 36, 37, 38, 39, 40, 41, 42, 43, 44, 45, 46, 180, 181, 182, 183, 184, 185, 186, 187, 188, 189, 190, 191, 192, 193, 194, 195, 196] (by decide +kernel) (by decide +kernel)
set_option maxRecDepth 20000 in
theorem gX8_soonest_X8_refusalOfKeeping : GoodIn wsX8_soonest (wsV RX8 140 RX8 yX8_refusalOfKeeping wsX8_refusalOfKeeping) := goodIn_app (goodIn_of _ (by decide +kernel)) ggX8_soonest_X8_refusalOfKeeping
set_option maxRecDepth 20000 in
theorem ggX8_soonest_X8_standKeepings : GoodIn wsX8_soonest wsX8_standKeepings := goodIn_r _ [50, 51, 1, 52, 53, 54, 55, 56, 57, 58, 59, 60, 61, 62, 63, 64, 20, 21, 11, 22, 13, 65, 24, 25, 26, 27, 28, 66, 67, 68, 69, 70, 71, 72, 73, 74, 75, 76, 77, 78, 79, 80, 81, 82, 83, 84, 85, 86, 41, 42, 43, 44, 45, 46, 87, 88, 89, 90, 91, 92, 93, 94, 95, 96, 97, 98, 99, 30, 31, 32, 33, 34, 35, 36, 37, 38, 39, 40, 100, 101, 102, 103, 104, 5, 105, 106, 107, 108, 109, 110, 111, 112, 113, 114, 115, 116, 117, 118, 119, 120, 121, 122, 123, 124, 125, 126, 127, 128, 129, 130, 131, 132, 133, 134, 135, 136, 137, 138, 139, 140, 141, 142, 143, 144, 145, 146, 147, 148, 149, 150, 151, 152, 153, 154, 155, 156, 180, 181, 182, 183, 184, 185, 186, 187, 188, 197, 198, 199, 200, 201, 202, 203, 204, 205, 206, 207, 189, 190, 191, 192, 193, 194, 208, 209, 210, 211, 195, 196] (by decide +kernel) (by decide +kernel)
set_option maxRecDepth 20000 in
theorem gX8_soonest_X8_standKeepings : GoodIn wsX8_soonest (wsV RX8 143 RX8 yX8_standKeepings wsX8_standKeepings) := goodIn_app (goodIn_of _ (by decide +kernel)) ggX8_soonest_X8_standKeepings
set_option maxRecDepth 20000 in
theorem ggX8_soonest_X8_numberOfKeeping : GoodIn wsX8_soonest wsX8_numberOfKeeping := goodIn_r _ [160, 18, 161, 162, 163, 164, 58, 165, 61, 166, 167, 168, 169, 170, 171, 62, 172, 173, 174, 175, 176, 177, 63, 178, 179, 36, 37, 32, 38, 39, 40, 41, 42, 43, 44, 45, 46, 180, 181, 182, 183, 184, 185, 186, 187, 188, 197, 198, 199, 200, 201, 202, 203, 204, 205, 206, 207, 195, 196] (by decide +kernel) (by decide +kernel)
set_option maxRecDepth 20000 in
theorem gX8_soonest_X8_numberOfKeeping : GoodIn wsX8_soonest (wsV RX8 146 RX8 yX8_numberOfKeeping wsX8_numberOfKeeping) := goodIn_app (goodIn_of _ (by decide +kernel)) ggX8_soonest_X8_numberOfKeeping
theorem dX8_soonest_0 : decode cX8_soonest 0 = .ok (.aload_n 0, 1) := by decide +kernel
theorem dX8_soonest_1 : decode cX8_soonest 1 = .ok (.iload_n 1, 1) := by decide +kernel
theorem dX8_soonest_2 : decode cX8_soonest 2 = .ok (.iload_n 2, 1) := by decide +kernel
theorem dX8_soonest_3 : decode cX8_soonest 3 = .ok (.invokevirtual 140, 3) := by decide +kernel
theorem dX8_soonest_6 : decode cX8_soonest 6 = .ok (.istore_n 3, 1) := by decide +kernel
theorem dX8_soonest_7 : decode cX8_soonest 7 = .ok (.iload_n 3, 1) := by decide +kernel
theorem dX8_soonest_8 : decode cX8_soonest 8 = .ok (.ifCond .eq 5, 3) := by decide +kernel
theorem dX8_soonest_11 : decode cX8_soonest 11 = .ok (.iload_n 3, 1) := by decide +kernel
theorem dX8_soonest_12 : decode cX8_soonest 12 = .ok (.ireturn, 1) := by decide +kernel
theorem dX8_soonest_13 : decode cX8_soonest 13 = .ok (.aload_n 0, 1) := by decide +kernel
theorem dX8_soonest_14 : decode cX8_soonest 14 = .ok (.invokevirtual 143, 3) := by decide +kernel
theorem dX8_soonest_17 : decode cX8_soonest 17 = .ok (.aload_n 0, 1) := by decide +kernel
theorem dX8_soonest_18 : decode cX8_soonest 18 = .ok (.aload_n 0, 1) := by decide +kernel
theorem dX8_soonest_19 : decode cX8_soonest 19 = .ok (.getfield 42, 3) := by decide +kernel
theorem dX8_soonest_22 : decode cX8_soonest 22 = .ok (.iload_n 1, 1) := by decide +kernel
theorem dX8_soonest_23 : decode cX8_soonest 23 = .ok (.iload_n 2, 1) := by decide +kernel
theorem dX8_soonest_24 : decode cX8_soonest 24 = .ok (.invokevirtual 146, 3) := by decide +kernel
theorem dX8_soonest_27 : decode cX8_soonest 27 = .ok (.ireturn, 1) := by decide +kernel
set_option maxRecDepth 20000 in
theorem ggX8_plan_X8_refusalOfKeeping : GoodIn wsX8_plan wsX8_refusalOfKeeping := goodIn_r _ [6, 7, 8, 9, 10, 11, 12, 13, 14, 15, 16, 5, 17, 18, 19, 20, 21, 22, 23, 24, 25, 26, 27, 28, 29, 30, 31, 32, 33, 34, 35, 36, 37, 38, 39, 40, 41, 42, 43, 44, 45, 46, 180, 181, 182, 183, 184, 185, 186, 187, 188, 189, 190, 191, 192, 193, 194, 195, 196] (by decide +kernel) (by decide +kernel)
set_option maxRecDepth 20000 in
theorem gX8_plan_X8_refusalOfKeeping : GoodIn wsX8_plan (wsV RX8 140 RX8 yX8_refusalOfKeeping wsX8_refusalOfKeeping) := goodIn_app (goodIn_of _ (by decide +kernel)) ggX8_plan_X8_refusalOfKeeping
set_option maxRecDepth 20000 in
theorem ggX8_plan_X8_standKeepings : GoodIn wsX8_plan wsX8_standKeepings := goodIn_r _ [50, 51, 52, 53, 1, 54, 55, 56, 57, 58, 59, 60, 61, 62, 63, 64, 20, 21, 11, 22, 13, 65, 24, 25, 26, 27, 28, 66, 67, 68, 69, 70, 71, 72, 73, 74, 75, 76, 77, 78, 79, 80, 81, 82, 83, 84, 85, 86, 41, 42, 43, 44, 45, 46, 87, 88, 89, 90, 91, 92, 93, 94, 95, 96, 97, 98, 99, 30, 31, 32, 33, 34, 35, 36, 37, 38, 39, 40, 100, 101, 102, 103, 104, 5, 105, 106, 107, 108, 109, 110, 111, 112, 113, 114, 115, 116, 117, 118, 119, 120, 121, 122, 123, 124, 125, 126, 127, 128, 129, 130, 131, 132, 133, 134, 135, 136, 137, 138, 139, 140, 141, 142, 143, 144, 145, 146, 147, 148, 149, 150, 151, 152, 153, 154, 155, 156, 180, 181, 182, 183, 184, 185, 186, 187, 188, 197, 198, 199, 200, 201, 202, 203, 204, 205, 206, 207, 189, 190, 191, 192, 193, 194, 208, 209, 210, 211, 195, 196] (by decide +kernel) (by decide +kernel)
set_option maxRecDepth 20000 in
theorem gX8_plan_X8_standKeepings : GoodIn wsX8_plan (wsV RX8 143 RX8 yX8_standKeepings wsX8_standKeepings) := goodIn_app (goodIn_of _ (by decide +kernel)) ggX8_plan_X8_standKeepings
set_option maxRecDepth 20000 in
theorem ggX8_plan_X8_numberOfKeeping : GoodIn wsX8_plan wsX8_numberOfKeeping := goodIn_r _ [160, 18, 161, 162, 163, 164, 58, 165, 61, 166, 167, 168, 169, 170, 171, 62, 172, 173, 174, 175, 176, 177, 63, 178, 179, 36, 37, 32, 38, 39, 40, 41, 42, 43, 44, 45, 46, 180, 181, 182, 183, 184, 185, 186, 187, 188, 197, 198, 199, 200, 201, 202, 203, 204, 205, 206, 207, 195, 196] (by decide +kernel) (by decide +kernel)
set_option maxRecDepth 20000 in
theorem gX8_plan_X8_numberOfKeeping : GoodIn wsX8_plan (wsV RX8 146 RX8 yX8_numberOfKeeping wsX8_numberOfKeeping) := goodIn_app (goodIn_of _ (by decide +kernel)) ggX8_plan_X8_numberOfKeeping
theorem dX8_plan_0 : decode cX8_plan 0 = .ok (.aload_n 0, 1) := by decide +kernel
theorem dX8_plan_1 : decode cX8_plan 1 = .ok (.iload_n 1, 1) := by decide +kernel
theorem dX8_plan_2 : decode cX8_plan 2 = .ok (.iload_n 2, 1) := by decide +kernel
theorem dX8_plan_3 : decode cX8_plan 3 = .ok (.invokevirtual 140, 3) := by decide +kernel
theorem dX8_plan_6 : decode cX8_plan 6 = .ok (.istore_n 3, 1) := by decide +kernel
theorem dX8_plan_7 : decode cX8_plan 7 = .ok (.iload_n 3, 1) := by decide +kernel
theorem dX8_plan_8 : decode cX8_plan 8 = .ok (.ifCond .eq 5, 3) := by decide +kernel
theorem dX8_plan_11 : decode cX8_plan 11 = .ok (.iload_n 3, 1) := by decide +kernel
theorem dX8_plan_12 : decode cX8_plan 12 = .ok (.ireturn, 1) := by decide +kernel
theorem dX8_plan_13 : decode cX8_plan 13 = .ok (.aload_n 0, 1) := by decide +kernel
theorem dX8_plan_14 : decode cX8_plan 14 = .ok (.invokevirtual 143, 3) := by decide +kernel
theorem dX8_plan_17 : decode cX8_plan 17 = .ok (.aload_n 0, 1) := by decide +kernel
theorem dX8_plan_18 : decode cX8_plan 18 = .ok (.aload_n 0, 1) := by decide +kernel
theorem dX8_plan_19 : decode cX8_plan 19 = .ok (.getfield 51, 3) := by decide +kernel
theorem dX8_plan_22 : decode cX8_plan 22 = .ok (.iload_n 1, 1) := by decide +kernel
theorem dX8_plan_23 : decode cX8_plan 23 = .ok (.iload_n 2, 1) := by decide +kernel
theorem dX8_plan_24 : decode cX8_plan 24 = .ok (.invokevirtual 146, 3) := by decide +kernel
theorem dX8_plan_27 : decode cX8_plan 27 = .ok (.ireturn, 1) := by decide +kernel
set_option maxRecDepth 20000 in
theorem ggX8_cost_X8_canKeep : GoodIn wsX8_cost wsX8_canKeep := goodIn_r _ [5, 6, 7, 8, 9, 10, 11, 12, 13, 14, 15, 4, 16, 17, 18, 19, 20, 21, 22, 23, 24, 25, 26, 27, 28, 29, 30, 31, 32, 33, 34, 35, 36, 37, 38, 39, 40, 41, 177, 178, 179, 180, 181, 182, 183, 184, 185, 186, 187, 188, 189, 190, 191, 192, 193] (by decide +kernel) (by decide +kernel)
set_option maxRecDepth 20000 in
theorem gX8_cost_X8_canKeep : GoodIn wsX8_cost (wsV RX8 150 RX8 yX8_canKeep wsX8_canKeep) := goodIn_app (goodIn_of _ (by decide +kernel)) ggX8_cost_X8_canKeep
set_option maxRecDepth 20000 in
theorem ggX8_cost_X8_standKeepings : GoodIn wsX8_cost wsX8_standKeepings := goodIn_r _ [45, 46, 47, 48, 49, 50, 51, 52, 53, 54, 55, 56, 57, 58, 59, 60, 8, 9, 10, 11, 12, 61, 19, 20, 21, 22, 23, 62, 63, 64, 65, 66, 67, 68, 69, 70, 71, 72, 73, 74, 75, 76, 77, 78, 79, 80, 81, 82, 36, 37, 38, 39, 40, 41, 83, 84, 85, 86, 87, 88, 89, 90, 91, 92, 93, 94, 95, 25, 26, 27, 28, 29, 30, 31, 32, 33, 34, 35, 96, 97, 98, 99, 100, 4, 101, 102, 103, 104, 105, 106, 107, 108, 109, 110, 111, 112, 113, 114, 115, 116, 117, 118, 119, 120, 121, 122, 123, 124, 125, 126, 127, 128, 129, 130, 131, 132, 133, 134, 135, 136, 137, 138, 139, 140, 141, 142, 143, 144, 145, 146, 147, 148, 149, 150, 151, 152, 177, 178, 179, 180, 181, 182, 183, 184, 185, 194, 195, 196, 197, 198, 199, 200, 201, 202, 203, 204, 186, 187, 188, 189, 190, 191, 205, 206, 207, 208, 192, 193] (by decide +kernel) (by decide +kernel)
set_option maxRecDepth 20000 in
theorem gX8_cost_X8_standKeepings : GoodIn wsX8_cost (wsV RX8 143 RX8 yX8_standKeepings wsX8_standKeepings) := goodIn_app (goodIn_of _ (by decide +kernel)) ggX8_cost_X8_standKeepings
set_option maxRecDepth 20000 in
theorem ggX8_cost_X8_numberOfCost : GoodIn wsX8_cost wsX8_numberOfCost := goodIn_r _ [156, 47, 49, 17, 6, 157, 158, 159, 160, 54, 161, 56, 162, 58, 60, 8, 9, 10, 11, 12, 163, 31, 32, 27, 33, 34, 35, 36, 37, 38, 39, 40, 41, 164, 165, 166, 167, 168, 111, 19, 20, 21, 22, 23, 169, 170, 171, 172, 173, 174, 175, 176, 177, 178, 179, 180, 181, 182, 183, 184, 185, 194, 195, 196, 197, 198, 199, 200, 201, 202, 203, 204, 186, 187, 188, 189, 190, 191, 192, 193] (by decide +kernel) (by decide +kernel)
set_option maxRecDepth 20000 in
theorem gX8_cost_X8_numberOfCost : GoodIn wsX8_cost (wsV RX8 153 RX8 yX8_numberOfCost wsX8_numberOfCost) := goodIn_app (goodIn_of _ (by decide +kernel)) ggX8_cost_X8_numberOfCost
theorem dX8_cost_0 : decode cX8_cost 0 = .ok (.iload_n 1, 1) := by decide +kernel
theorem dX8_cost_1 : decode cX8_cost 1 = .ok (.ifCond .lt 8, 3) := by decide +kernel
theorem dX8_cost_4 : decode cX8_cost 4 = .ok (.iload_n 1, 1) := by decide +kernel
theorem dX8_cost_5 : decode cX8_cost 5 = .ok (.iconst 5, 1) := by decide +kernel
theorem dX8_cost_6 : decode cX8_cost 6 = .ok (.if_icmp .lt 7, 3) := by decide +kernel
theorem dX8_cost_9 : decode cX8_cost 9 = .ok (.sipush (-1002), 3) := by decide +kernel
theorem dX8_cost_12 : decode cX8_cost 12 = .ok (.ireturn, 1) := by decide +kernel
theorem dX8_cost_13 : decode cX8_cost 13 = .ok (.aload_n 0, 1) := by decide +kernel
theorem dX8_cost_14 : decode cX8_cost 14 = .ok (.invokevirtual 150, 3) := by decide +kernel
theorem dX8_cost_17 : decode cX8_cost 17 = .ok (.ifCond .ne 7, 3) := by decide +kernel
theorem dX8_cost_20 : decode cX8_cost 20 = .ok (.sipush (-1003), 3) := by decide +kernel
theorem dX8_cost_23 : decode cX8_cost 23 = .ok (.ireturn, 1) := by decide +kernel
theorem dX8_cost_24 : decode cX8_cost 24 = .ok (.aload_n 0, 1) := by decide +kernel
theorem dX8_cost_25 : decode cX8_cost 25 = .ok (.invokevirtual 143, 3) := by decide +kernel
theorem dX8_cost_28 : decode cX8_cost 28 = .ok (.aload_n 0, 1) := by decide +kernel
theorem dX8_cost_29 : decode cX8_cost 29 = .ok (.iload_n 1, 1) := by decide +kernel
theorem dX8_cost_30 : decode cX8_cost 30 = .ok (.invokevirtual 153, 3) := by decide +kernel
theorem dX8_cost_33 : decode cX8_cost 33 = .ok (.ireturn, 1) := by decide +kernel
set_option maxRecDepth 20000 in
theorem ggX8_mean_X8_canKeep : GoodIn wsX8_mean wsX8_canKeep := goodIn_r _ [6, 7, 8, 9, 10, 11, 12, 13, 14, 15, 16, 5, 17, 18, 19, 20, 21, 22, 23, 24, 25, 26, 27, 28, 29, 30, 31, 32, 33, 34, 35, 36, 37, 38, 39, 40, 41, 42, 172, 173, 174, 175, 176, 177, 178, 179, 180, 181, 182, 183, 184, 185, 186, 187, 188] (by decide +kernel) (by decide +kernel)
set_option maxRecDepth 20000 in
theorem gX8_mean_X8_canKeep : GoodIn wsX8_mean (wsV RX8 150 RX8 yX8_canKeep wsX8_canKeep) := goodIn_app (goodIn_of _ (by decide +kernel)) ggX8_mean_X8_canKeep
set_option maxRecDepth 20000 in
theorem ggX8_mean_X8_standKeepings : GoodIn wsX8_mean wsX8_standKeepings := goodIn_r _ [46, 47, 48, 49, 50, 51, 52, 53, 54, 55, 56, 57, 58, 59, 60, 61, 9, 10, 11, 12, 13, 62, 20, 21, 22, 23, 24, 63, 64, 65, 66, 67, 68, 69, 70, 71, 72, 73, 74, 75, 76, 77, 78, 79, 80, 81, 82, 83, 37, 38, 39, 40, 41, 42, 84, 85, 86, 87, 88, 89, 90, 91, 92, 93, 94, 95, 96, 26, 27, 28, 29, 30, 31, 32, 33, 34, 35, 36, 97, 98, 99, 100, 101, 5, 102, 103, 104, 105, 106, 107, 108, 109, 110, 111, 112, 113, 114, 115, 116, 117, 118, 119, 120, 121, 122, 123, 124, 125, 126, 127, 128, 129, 130, 131, 132, 133, 134, 135, 136, 137, 138, 139, 140, 141, 142, 143, 144, 145, 146, 147, 148, 149, 150, 151, 152, 153, 172, 173, 174, 175, 176, 177, 178, 179, 180, 189, 190, 191, 192, 193, 194, 195, 196, 197, 198, 199, 181, 182, 183, 184, 185, 186, 200, 201, 202, 203, 187, 188] (by decide +kernel) (by decide +kernel)
set_option maxRecDepth 20000 in
theorem gX8_mean_X8_standKeepings : GoodIn wsX8_mean (wsV RX8 143 RX8 yX8_standKeepings wsX8_standKeepings) := goodIn_app (goodIn_of _ (by decide +kernel)) ggX8_mean_X8_standKeepings
set_option maxRecDepth 20000 in
theorem ggX8_mean_X8_bitsOfMean : GoodIn wsX8_mean wsX8_bitsOfMean := goodIn_r _ [157, 48, 7, 158, 159, 160, 161, 55, 162, 57, 163, 59, 61, 9, 10, 11, 12, 13, 164, 32, 33, 28, 34, 35, 36, 37, 38, 39, 40, 41, 42, 165, 8, 166, 167, 5, 168, 169, 170, 171, 172, 173, 174, 175, 176, 177, 178, 179, 180, 189, 190, 191, 192, 193, 194, 195, 196, 197, 198, 199, 181, 182, 183, 184, 185, 186, 187, 188] (by decide +kernel) (by decide +kernel)
set_option maxRecDepth 20000 in
theorem gX8_mean_X8_bitsOfMean : GoodIn wsX8_mean (wsV RX8 158 RX8 yX8_bitsOfMean wsX8_bitsOfMean) := goodIn_app (goodIn_of _ (by decide +kernel)) ggX8_mean_X8_bitsOfMean
theorem dX8_mean_0 : decode cX8_mean 0 = .ok (.aload_n 0, 1) := by decide +kernel
theorem dX8_mean_1 : decode cX8_mean 1 = .ok (.invokevirtual 150, 3) := by decide +kernel
theorem dX8_mean_4 : decode cX8_mean 4 = .ok (.ifCond .ne 7, 3) := by decide +kernel
theorem dX8_mean_7 : decode cX8_mean 7 = .ok (.ldc2_w 156, 3) := by decide +kernel
theorem dX8_mean_10 : decode cX8_mean 10 = .ok (.lreturn, 1) := by decide +kernel
theorem dX8_mean_11 : decode cX8_mean 11 = .ok (.aload_n 0, 1) := by decide +kernel
theorem dX8_mean_12 : decode cX8_mean 12 = .ok (.invokevirtual 143, 3) := by decide +kernel
theorem dX8_mean_15 : decode cX8_mean 15 = .ok (.aload_n 0, 1) := by decide +kernel
theorem dX8_mean_16 : decode cX8_mean 16 = .ok (.invokevirtual 158, 3) := by decide +kernel
theorem dX8_mean_19 : decode cX8_mean 19 = .ok (.lreturn, 1) := by decide +kernel
set_option maxRecDepth 20000 in
theorem ggX8_ratio_X8_canKeep : GoodIn wsX8_ratio wsX8_canKeep := goodIn_r _ [5, 6, 7, 8, 9, 10, 11, 12, 13, 14, 15, 4, 16, 17, 18, 19, 20, 21, 22, 23, 24, 25, 26, 27, 28, 29, 30, 31, 32, 33, 34, 35, 36, 37, 38, 39, 40, 41, 169, 170, 171, 172, 173, 174, 175, 176, 177, 178, 179, 180, 181, 182, 183, 184, 185] (by decide +kernel) (by decide +kernel)
set_option maxRecDepth 20000 in
theorem gX8_ratio_X8_canKeep : GoodIn wsX8_ratio (wsV RX8 150 RX8 yX8_canKeep wsX8_canKeep) := goodIn_app (goodIn_of _ (by decide +kernel)) ggX8_ratio_X8_canKeep
set_option maxRecDepth 20000 in
theorem ggX8_ratio_X8_standKeepings : GoodIn wsX8_ratio wsX8_standKeepings := goodIn_r _ [45, 46, 47, 48, 49, 50, 51, 52, 53, 54, 55, 56, 57, 58, 59, 60, 8, 9, 10, 11, 12, 61, 19, 20, 21, 22, 23, 62, 63, 64, 65, 66, 67, 68, 69, 70, 71, 72, 73, 74, 75, 76, 77, 78, 79, 80, 81, 82, 36, 37, 38, 39, 40, 41, 83, 84, 85, 86, 87, 88, 89, 90, 91, 92, 93, 94, 95, 25, 26, 27, 28, 29, 30, 31, 32, 33, 34, 35, 96, 97, 98, 99, 100, 4, 101, 102, 103, 104, 105, 106, 107, 108, 109, 110, 111, 112, 113, 114, 115, 116, 117, 118, 119, 120, 121, 122, 123, 124, 125, 126, 127, 128, 129, 130, 131, 132, 133, 134, 135, 136, 137, 138, 139, 140, 141, 142, 143, 144, 145, 146, 147, 148, 149, 150, 151, 152, 169, 170, 171, 172, 173, 174, 175, 176, 177, 186, 187, 188, 189, 190, 191, 192, 193, 194, 195, 196, 178, 179, 180, 181, 182, 183, 197, 198, 199, 200, 184, 185] (by decide +kernel) (by decide +kernel)
set_option maxRecDepth 20000 in
theorem gX8_ratio_X8_standKeepings : GoodIn wsX8_ratio (wsV RX8 143 RX8 yX8_standKeepings wsX8_standKeepings) := goodIn_app (goodIn_of _ (by decide +kernel)) ggX8_ratio_X8_standKeepings
set_option maxRecDepth 20000 in
theorem ggX8_ratio_X8_bitsOfRatio : GoodIn wsX8_ratio wsX8_bitsOfRatio := goodIn_r _ [156, 47, 49, 157, 158, 159, 160, 54, 161, 56, 162, 58, 60, 8, 9, 10, 11, 12, 163, 31, 32, 27, 33, 34, 35, 36, 37, 38, 39, 40, 41, 164, 165, 166, 4, 167, 168, 169, 170, 171, 172, 173, 174, 175, 176, 177, 186, 187, 188, 189, 190, 191, 192, 193, 194, 195, 196, 178, 179, 180, 181, 182, 183, 184, 185] (by decide +kernel) (by decide +kernel)
set_option maxRecDepth 20000 in
theorem gX8_ratio_X8_bitsOfRatio : GoodIn wsX8_ratio (wsV RX8 162 RX8 yX8_bitsOfRatio wsX8_bitsOfRatio) := goodIn_app (goodIn_of _ (by decide +kernel)) ggX8_ratio_X8_bitsOfRatio
theorem dX8_ratio_0 : decode cX8_ratio 0 = .ok (.aload_n 0, 1) := by decide +kernel
theorem dX8_ratio_1 : decode cX8_ratio 1 = .ok (.invokevirtual 150, 3) := by decide +kernel
theorem dX8_ratio_4 : decode cX8_ratio 4 = .ok (.ifCond .ne 7, 3) := by decide +kernel
theorem dX8_ratio_7 : decode cX8_ratio 7 = .ok (.sipush (-1003), 3) := by decide +kernel
theorem dX8_ratio_10 : decode cX8_ratio 10 = .ok (.ireturn, 1) := by decide +kernel
theorem dX8_ratio_11 : decode cX8_ratio 11 = .ok (.aload_n 0, 1) := by decide +kernel
theorem dX8_ratio_12 : decode cX8_ratio 12 = .ok (.invokevirtual 143, 3) := by decide +kernel
theorem dX8_ratio_15 : decode cX8_ratio 15 = .ok (.aload_n 0, 1) := by decide +kernel
theorem dX8_ratio_16 : decode cX8_ratio 16 = .ok (.invokevirtual 162, 3) := by decide +kernel
theorem dX8_ratio_19 : decode cX8_ratio 19 = .ok (.ireturn, 1) := by decide +kernel
set_option maxRecDepth 20000 in
theorem ggX8_pair_X8_canKeep : GoodIn wsX8_pair wsX8_canKeep := goodIn_r _ [5, 6, 7, 8, 9, 10, 11, 12, 13, 14, 15, 4, 16, 17, 18, 19, 20, 21, 22, 23, 24, 25, 26, 27, 28, 29, 30, 31, 32, 33, 34, 35, 36, 37, 38, 39, 40, 41, 139, 140, 141, 142, 143, 144, 145, 146, 147, 148, 149, 150, 151, 152, 153, 154, 155] (by decide +kernel) (by decide +kernel)
set_option maxRecDepth 20000 in
theorem gX8_pair_X8_canKeep : GoodIn wsX8_pair (wsV RX8 150 RX8 yX8_canKeep wsX8_canKeep) := goodIn_app (goodIn_of _ (by decide +kernel)) ggX8_pair_X8_canKeep
set_option maxRecDepth 20000 in
theorem ggX8_pair_X8_standExchange : GoodIn wsX8_pair wsX8_standExchange := goodIn_r _ [45, 46, 47, 48, 49, 50, 51, 52, 53, 54, 55, 56, 57, 58, 59, 60, 61, 62, 63, 64, 65, 66, 67, 68, 69, 70, 8, 9, 10, 11, 12, 71, 19, 20, 21, 22, 23, 72, 73, 74, 75, 76, 77, 78, 79, 80, 81, 82, 83, 84, 36, 37, 38, 39, 40, 41, 85, 86, 87, 88, 25, 26, 27, 28, 29, 30, 31, 32, 33, 34, 35, 89, 90, 91, 92, 93, 94, 95, 96, 97, 98, 99, 100, 101, 102, 103, 4, 104, 105, 106, 107, 108, 109, 110, 111, 112, 113, 114, 115, 116, 117, 118, 139, 140, 141, 142, 143, 144, 145, 146, 147, 156, 157, 158, 159, 160, 161, 162, 163, 164, 165, 148, 149, 150, 151, 152, 153, 154, 155] (by decide +kernel) (by decide +kernel)
set_option maxRecDepth 20000 in
theorem gX8_pair_X8_standExchange : GoodIn wsX8_pair (wsV RX8 165 RX8 yX8_standExchange wsX8_standExchange) := goodIn_app (goodIn_of _ (by decide +kernel)) ggX8_pair_X8_standExchange
set_option maxRecDepth 20000 in
theorem ggX8_pair_X8_numberOfExchange : GoodIn wsX8_pair wsX8_numberOfExchange := goodIn_r _ [122, 47, 123, 124, 125, 51, 126, 53, 127, 128, 129, 130, 117, 131, 132, 133, 134, 118, 135, 136, 137, 138, 55, 139, 140, 141, 142, 143, 144, 145, 146, 147, 156, 157, 158, 159, 160, 161] (by decide +kernel) (by decide +kernel)
set_option maxRecDepth 20000 in
theorem gX8_pair_X8_numberOfExchange : GoodIn wsX8_pair (wsV RX8 168 RX8 yX8_numberOfExchange wsX8_numberOfExchange) := goodIn_app (goodIn_of _ (by decide +kernel)) ggX8_pair_X8_numberOfExchange
theorem dX8_pair_0 : decode cX8_pair 0 = .ok (.iload_n 1, 1) := by decide +kernel
theorem dX8_pair_1 : decode cX8_pair 1 = .ok (.ifCond .lt 8, 3) := by decide +kernel
theorem dX8_pair_4 : decode cX8_pair 4 = .ok (.iload_n 1, 1) := by decide +kernel
theorem dX8_pair_5 : decode cX8_pair 5 = .ok (.iconst 3, 1) := by decide +kernel
theorem dX8_pair_6 : decode cX8_pair 6 = .ok (.if_icmp .lt 7, 3) := by decide +kernel
theorem dX8_pair_9 : decode cX8_pair 9 = .ok (.sipush (-1002), 3) := by decide +kernel
theorem dX8_pair_12 : decode cX8_pair 12 = .ok (.ireturn, 1) := by decide +kernel
theorem dX8_pair_13 : decode cX8_pair 13 = .ok (.aload_n 0, 1) := by decide +kernel
theorem dX8_pair_14 : decode cX8_pair 14 = .ok (.invokevirtual 150, 3) := by decide +kernel
theorem dX8_pair_17 : decode cX8_pair 17 = .ok (.ifCond .ne 7, 3) := by decide +kernel
theorem dX8_pair_20 : decode cX8_pair 20 = .ok (.sipush (-1003), 3) := by decide +kernel
theorem dX8_pair_23 : decode cX8_pair 23 = .ok (.ireturn, 1) := by decide +kernel
theorem dX8_pair_24 : decode cX8_pair 24 = .ok (.aload_n 0, 1) := by decide +kernel
theorem dX8_pair_25 : decode cX8_pair 25 = .ok (.invokevirtual 165, 3) := by decide +kernel
theorem dX8_pair_28 : decode cX8_pair 28 = .ok (.aload_n 0, 1) := by decide +kernel
theorem dX8_pair_29 : decode cX8_pair 29 = .ok (.iload_n 1, 1) := by decide +kernel
theorem dX8_pair_30 : decode cX8_pair 30 = .ok (.invokevirtual 168, 3) := by decide +kernel
theorem dX8_pair_33 : decode cX8_pair 33 = .ok (.ireturn, 1) := by decide +kernel
set_option maxRecDepth 20000 in
theorem ggX8_better_X8_canKeep : GoodIn wsX8_better wsX8_canKeep := goodIn_r _ [6, 7, 8, 9, 10, 11, 12, 13, 14, 15, 16, 5, 17, 18, 19, 20, 21, 22, 23, 24, 25, 26, 27, 28, 29, 30, 31, 32, 33, 34, 35, 36, 37, 38, 39, 40, 41, 42, 150, 151, 152, 153, 154, 155, 156, 157, 158, 159, 160, 161, 162, 163, 164, 165, 166] (by decide +kernel) (by decide +kernel)
set_option maxRecDepth 20000 in
theorem gX8_better_X8_canKeep : GoodIn wsX8_better (wsV RX8 150 RX8 yX8_canKeep wsX8_canKeep) := goodIn_app (goodIn_of _ (by decide +kernel)) ggX8_better_X8_canKeep
set_option maxRecDepth 20000 in
theorem ggX8_better_X8_standExchange : GoodIn wsX8_better wsX8_standExchange := goodIn_r _ [46, 47, 1, 48, 49, 50, 51, 52, 53, 54, 55, 56, 57, 58, 59, 60, 61, 62, 63, 64, 65, 66, 67, 68, 69, 70, 9, 10, 11, 12, 13, 71, 20, 21, 22, 23, 24, 72, 73, 74, 75, 76, 77, 78, 79, 80, 81, 82, 83, 84, 37, 38, 39, 40, 41, 42, 85, 86, 87, 88, 26, 27, 28, 29, 30, 31, 32, 33, 34, 35, 36, 89, 90, 91, 92, 93, 94, 95, 96, 97, 98, 99, 100, 101, 102, 103, 5, 104, 105, 106, 107, 108, 109, 110, 111, 112, 113, 114, 115, 116, 117, 118, 150, 151, 152, 153, 154, 155, 156, 157, 158, 167, 168, 169, 170, 171, 172, 173, 174, 175, 176, 159, 160, 161, 162, 163, 164, 165, 166] (by decide +kernel) (by decide +kernel)
set_option maxRecDepth 20000 in
theorem gX8_better_X8_standExchange : GoodIn wsX8_better (wsV RX8 165 RX8 yX8_standExchange wsX8_standExchange) := goodIn_app (goodIn_of _ (by decide +kernel)) ggX8_better_X8_standExchange
set_option maxRecDepth 20000 in
theorem ggX8_better_X0_isFound : GoodIn wsX8_better wsX0_isFound := goodIn_r _ [122, 53, 167, 168, 169, 170, 171, 172] (by decide +kernel) (by decide +kernel)
set_option maxRecDepth 20000 in
theorem gX8_better_X0_isFound : GoodIn wsX8_better (wsV RX8 171 RX0 yX0_isFound wsX0_isFound) := goodIn_app (goodIn_of _ (by decide +kernel)) ggX8_better_X0_isFound
set_option maxRecDepth 20000 in
theorem ggX8_better_X0_first : GoodIn wsX8_better wsX0_first := goodIn_r _ [126, 117, 167, 168, 169, 170, 171, 172] (by decide +kernel) (by decide +kernel)
set_option maxRecDepth 20000 in
theorem gX8_better_X0_first : GoodIn wsX8_better (wsV RX8 174 RX0 yX0_first wsX0_first) := goodIn_app (goodIn_of _ (by decide +kernel)) ggX8_better_X0_first
set_option maxRecDepth 20000 in
theorem ggX8_better_X0_second : GoodIn wsX8_better wsX0_second := goodIn_r _ [130, 118, 167, 168, 169, 170, 171, 172] (by decide +kernel) (by decide +kernel)
set_option maxRecDepth 20000 in
theorem gX8_better_X0_second : GoodIn wsX8_better (wsV RX8 177 RX0 yX0_second wsX0_second) := goodIn_app (goodIn_of _ (by decide +kernel)) ggX8_better_X0_second
set_option maxRecDepth 20000 in
theorem ggX8_better_X8_changeOrder : GoodIn wsX8_better wsX8_changeOrder := goodIn_r _ [134, 7, 135, 110, 111, 11, 112, 24, 136, 137, 138, 139, 140, 141, 142, 143, 5, 144, 145, 47, 150, 151, 152, 153, 154, 155, 156, 157, 158, 159, 160, 161, 162, 163, 164] (by decide +kernel) (by decide +kernel)
set_option maxRecDepth 20000 in
theorem gX8_better_X8_changeOrder : GoodIn wsX8_better (wsV RX8 123 RX8 yX8_changeOrder wsX8_changeOrder) := goodIn_app (goodIn_of _ (by decide +kernel)) ggX8_better_X8_changeOrder
set_option maxRecDepth 20000 in
theorem ggX8_better_X0_leastThen : GoodIn wsX8_better wsX0_leastThen := goodIn_r _ [149, 55, 167, 168, 169, 170, 171, 172] (by decide +kernel) (by decide +kernel)
set_option maxRecDepth 20000 in
theorem gX8_better_X0_leastThen : GoodIn wsX8_better (wsV RX8 180 RX0 yX0_leastThen wsX0_leastThen) := goodIn_app (goodIn_of _ (by decide +kernel)) ggX8_better_X0_leastThen
theorem dX8_better_0 : decode cX8_better 0 = .ok (.aload_n 0, 1) := by decide +kernel
theorem dX8_better_1 : decode cX8_better 1 = .ok (.invokevirtual 150, 3) := by decide +kernel
theorem dX8_better_4 : decode cX8_better 4 = .ok (.ifCond .ne 7, 3) := by decide +kernel
theorem dX8_better_7 : decode cX8_better 7 = .ok (.sipush (-1003), 3) := by decide +kernel
theorem dX8_better_10 : decode cX8_better 10 = .ok (.ireturn, 1) := by decide +kernel
theorem dX8_better_11 : decode cX8_better 11 = .ok (.aload_n 0, 1) := by decide +kernel
theorem dX8_better_12 : decode cX8_better 12 = .ok (.invokevirtual 165, 3) := by decide +kernel
theorem dX8_better_15 : decode cX8_better 15 = .ok (.aload_n 0, 1) := by decide +kernel
theorem dX8_better_16 : decode cX8_better 16 = .ok (.getfield 59, 3) := by decide +kernel
theorem dX8_better_19 : decode cX8_better 19 = .ok (.invokevirtual 171, 3) := by decide +kernel
theorem dX8_better_22 : decode cX8_better 22 = .ok (.ifCond .ne 5, 3) := by decide +kernel
theorem dX8_better_25 : decode cX8_better 25 = .ok (.iconst (-1), 1) := by decide +kernel
theorem dX8_better_26 : decode cX8_better 26 = .ok (.ireturn, 1) := by decide +kernel
theorem dX8_better_27 : decode cX8_better 27 = .ok (.aload_n 0, 1) := by decide +kernel
theorem dX8_better_28 : decode cX8_better 28 = .ok (.aload_n 0, 1) := by decide +kernel
theorem dX8_better_29 : decode cX8_better 29 = .ok (.getfield 59, 3) := by decide +kernel
theorem dX8_better_32 : decode cX8_better 32 = .ok (.invokevirtual 174, 3) := by decide +kernel
theorem dX8_better_35 : decode cX8_better 35 = .ok (.aload_n 0, 1) := by decide +kernel
theorem dX8_better_36 : decode cX8_better 36 = .ok (.getfield 59, 3) := by decide +kernel
theorem dX8_better_39 : decode cX8_better 39 = .ok (.invokevirtual 177, 3) := by decide +kernel
theorem dX8_better_42 : decode cX8_better 42 = .ok (.invokevirtual 123, 3) := by decide +kernel
theorem dX8_better_45 : decode cX8_better 45 = .ok (.aload_n 0, 1) := by decide +kernel
theorem dX8_better_46 : decode cX8_better 46 = .ok (.getfield 59, 3) := by decide +kernel
theorem dX8_better_49 : decode cX8_better 49 = .ok (.invokevirtual 180, 3) := by decide +kernel
theorem dX8_better_52 : decode cX8_better 52 = .ok (.ireturn, 1) := by decide +kernel
set_option maxRecDepth 20000 in
theorem ggX8_count_X6_size : GoodIn wsX8_count wsX6_size := goodIn_r _ [8, 9, 78, 79, 80, 81, 82, 83] (by decide +kernel) (by decide +kernel)
set_option maxRecDepth 20000 in
theorem gX8_count_X6_size : GoodIn wsX8_count (wsV RX8 88 RX6 yX6_size wsX6_size) := goodIn_app (goodIn_of _ (by decide +kernel)) ggX8_count_X6_size
set_option maxRecDepth 20000 in
theorem ggX8_count_X4_length : GoodIn wsX8_count wsX4_length := goodIn_r _ [14, 15, 84, 85] (by decide +kernel) (by decide +kernel)
set_option maxRecDepth 20000 in
theorem gX8_count_X4_length : GoodIn wsX8_count (wsV RX8 71 RX4 yX4_length wsX4_length) := goodIn_app (goodIn_of _ (by decide +kernel)) ggX8_count_X4_length
set_option maxRecDepth 20000 in
theorem ggX8_count_X3_room : GoodIn wsX8_count wsX3_room := goodIn_r _ [20, 21, 86, 87] (by decide +kernel) (by decide +kernel)
set_option maxRecDepth 20000 in
theorem gX8_count_X3_room : GoodIn wsX8_count (wsV RX8 106 RX3 yX3_room wsX3_room) := goodIn_app (goodIn_of _ (by decide +kernel)) ggX8_count_X3_room
set_option maxRecDepth 20000 in
theorem ggX8_count_X3_bigTools : GoodIn wsX8_count wsX3_bigTools := goodIn_r _ [25, 26, 86, 87] (by decide +kernel) (by decide +kernel)
set_option maxRecDepth 20000 in
theorem gX8_count_X3_bigTools : GoodIn wsX8_count (wsV RX8 95 RX3 yX3_bigTools wsX3_bigTools) := goodIn_app (goodIn_of _ (by decide +kernel)) ggX8_count_X3_bigTools
set_option maxRecDepth 20000 in
theorem ggX8_count_X6_allBreaks : GoodIn wsX8_count wsX6_allBreaks := goodIn_r _ [30, 9, 31, 32, 33, 34, 35, 36, 37, 38, 78, 79, 80, 81, 82, 83] (by decide +kernel) (by decide +kernel)
set_option maxRecDepth 20000 in
theorem gX8_count_X6_allBreaks : GoodIn wsX8_count (wsV RX8 183 RX6 yX6_allBreaks wsX6_allBreaks) := goodIn_app (goodIn_of _ (by decide +kernel)) ggX8_count_X6_allBreaks
set_option maxRecDepth 20000 in
theorem ggX8_count_X6_changes : GoodIn wsX8_count wsX6_changes := goodIn_r _ [42, 43, 78, 79, 80, 81, 82, 83] (by decide +kernel) (by decide +kernel)
set_option maxRecDepth 20000 in
theorem gX8_count_X6_changes : GoodIn wsX8_count (wsV RX8 127 RX6 yX6_changes wsX6_changes) := goodIn_app (goodIn_of _ (by decide +kernel)) ggX8_count_X6_changes
set_option maxRecDepth 20000 in
theorem ggX8_count_X6_reads : GoodIn wsX8_count wsX6_reads := goodIn_r _ [47, 48, 78, 79, 80, 81, 82, 83] (by decide +kernel) (by decide +kernel)
set_option maxRecDepth 20000 in
theorem gX8_count_X6_reads : GoodIn wsX8_count (wsV RX8 186 RX6 yX6_reads wsX6_reads) := goodIn_app (goodIn_of _ (by decide +kernel)) ggX8_count_X6_reads
set_option maxRecDepth 20000 in
theorem ggX8_count_X8_isTooBig : GoodIn wsX8_count wsX8_isTooBig := goodIn_r _ [53, 1, 3, 4, 5, 6, 7, 8, 9, 54, 55, 56, 57, 58, 59, 60, 61, 62, 19, 63, 21, 64, 65, 66, 67, 26, 68, 33, 34, 35, 36, 37, 38, 69, 70, 71, 72, 73, 74, 75, 76, 77, 78, 79, 80, 81, 82, 83, 86, 87] (by decide +kernel) (by decide +kernel)
set_option maxRecDepth 20000 in
theorem gX8_count_X8_isTooBig : GoodIn wsX8_count (wsV RX8 189 RX8 yX8_isTooBig wsX8_isTooBig) := goodIn_app (goodIn_of _ (by decide +kernel)) ggX8_count_X8_isTooBig
theorem dX8_count_0 : decode cX8_count 0 = .ok (.iload_n 1, 1) := by decide +kernel
theorem dX8_count_1 : decode cX8_count 1 = .ok (.tableswitch 116 0 7 #[47, 55, 63, 71, 79, 87, 95, 103], 47) := by decide +kernel
theorem dX8_count_48 : decode cX8_count 48 = .ok (.aload_n 0, 1) := by decide +kernel
theorem dX8_count_49 : decode cX8_count 49 = .ok (.getfield 26, 3) := by decide +kernel
theorem dX8_count_52 : decode cX8_count 52 = .ok (.invokevirtual 88, 3) := by decide +kernel
theorem dX8_count_55 : decode cX8_count 55 = .ok (.ireturn, 1) := by decide +kernel
theorem dX8_count_56 : decode cX8_count 56 = .ok (.aload_n 0, 1) := by decide +kernel
theorem dX8_count_57 : decode cX8_count 57 = .ok (.getfield 12, 3) := by decide +kernel
theorem dX8_count_60 : decode cX8_count 60 = .ok (.invokevirtual 71, 3) := by decide +kernel
theorem dX8_count_63 : decode cX8_count 63 = .ok (.ireturn, 1) := by decide +kernel
theorem dX8_count_64 : decode cX8_count 64 = .ok (.aload_n 0, 1) := by decide +kernel
theorem dX8_count_65 : decode cX8_count 65 = .ok (.getfield 19, 3) := by decide +kernel
theorem dX8_count_68 : decode cX8_count 68 = .ok (.invokevirtual 106, 3) := by decide +kernel
theorem dX8_count_71 : decode cX8_count 71 = .ok (.ireturn, 1) := by decide +kernel
theorem dX8_count_72 : decode cX8_count 72 = .ok (.aload_n 0, 1) := by decide +kernel
theorem dX8_count_73 : decode cX8_count 73 = .ok (.getfield 19, 3) := by decide +kernel
theorem dX8_count_76 : decode cX8_count 76 = .ok (.invokevirtual 95, 3) := by decide +kernel
theorem dX8_count_79 : decode cX8_count 79 = .ok (.ireturn, 1) := by decide +kernel
theorem dX8_count_80 : decode cX8_count 80 = .ok (.aload_n 0, 1) := by decide +kernel
theorem dX8_count_81 : decode cX8_count 81 = .ok (.getfield 26, 3) := by decide +kernel
theorem dX8_count_84 : decode cX8_count 84 = .ok (.invokevirtual 183, 3) := by decide +kernel
theorem dX8_count_87 : decode cX8_count 87 = .ok (.ireturn, 1) := by decide +kernel
theorem dX8_count_88 : decode cX8_count 88 = .ok (.aload_n 0, 1) := by decide +kernel
theorem dX8_count_89 : decode cX8_count 89 = .ok (.getfield 26, 3) := by decide +kernel
theorem dX8_count_92 : decode cX8_count 92 = .ok (.invokevirtual 127, 3) := by decide +kernel
theorem dX8_count_95 : decode cX8_count 95 = .ok (.ireturn, 1) := by decide +kernel
theorem dX8_count_96 : decode cX8_count 96 = .ok (.aload_n 0, 1) := by decide +kernel
theorem dX8_count_97 : decode cX8_count 97 = .ok (.getfield 26, 3) := by decide +kernel
theorem dX8_count_100 : decode cX8_count 100 = .ok (.invokevirtual 186, 3) := by decide +kernel
theorem dX8_count_103 : decode cX8_count 103 = .ok (.ireturn, 1) := by decide +kernel
theorem dX8_count_104 : decode cX8_count 104 = .ok (.aload_n 0, 1) := by decide +kernel
theorem dX8_count_105 : decode cX8_count 105 = .ok (.invokevirtual 189, 3) := by decide +kernel
theorem dX8_count_108 : decode cX8_count 108 = .ok (.ifCond .eq 7, 3) := by decide +kernel
theorem dX8_count_111 : decode cX8_count 111 = .ok (.iconst 1, 1) := by decide +kernel
theorem dX8_count_112 : decode cX8_count 112 = .ok (.goto 4, 3) := by decide +kernel
theorem dX8_count_115 : decode cX8_count 115 = .ok (.iconst 0, 1) := by decide +kernel
theorem dX8_count_116 : decode cX8_count 116 = .ok (.ireturn, 1) := by decide +kernel
theorem dX8_count_117 : decode cX8_count 117 = .ok (.sipush (-1002), 3) := by decide +kernel
theorem dX8_count_120 : decode cX8_count 120 = .ok (.ireturn, 1) := by decide +kernel
set_option maxRecDepth 20000 in
theorem ggX8_digest_X8_digestOfRow : GoodIn wsX8_digest wsX8_digestOfRow := goodIn_r _ [8, 9, 3, 10, 11, 12, 13, 14, 15, 16, 17, 18, 7, 19, 20, 21, 22, 23, 24, 25, 26, 27, 28, 29, 30, 31, 32, 33, 34, 35, 36, 37, 38, 39, 40, 41, 42, 43, 44, 45, 46, 47, 48, 49, 50, 51, 52, 331, 332, 333, 334, 335, 336, 337, 338, 339, 340, 341, 342, 343, 344, 345] (by decide +kernel) (by decide +kernel)
set_option maxRecDepth 20000 in
theorem gX8_digest_X8_digestOfRow : GoodIn wsX8_digest (wsV RX8 194 RX8 yX8_digestOfRow wsX8_digestOfRow) := goodIn_app (goodIn_of _ (by decide +kernel)) ggX8_digest_X8_digestOfRow
set_option maxRecDepth 20000 in
theorem ggX8_digest_X8_canKeep : GoodIn wsX8_digest wsX8_canKeep := goodIn_r _ [56, 9, 10, 11, 12, 13, 14, 15, 57, 58, 59, 7, 60, 61, 24, 25, 26, 27, 28, 29, 62, 63, 64, 65, 66, 67, 68, 69, 70, 71, 72, 73, 74, 75, 76, 77, 78, 79, 331, 332, 333, 334, 335, 336, 337, 338, 339, 340, 341, 342, 343, 344, 345, 346, 347] (by decide +kernel) (by decide +kernel)
set_option maxRecDepth 20000 in
theorem gX8_digest_X8_canKeep : GoodIn wsX8_digest (wsV RX8 150 RX8 yX8_canKeep wsX8_canKeep) := goodIn_app (goodIn_of _ (by decide +kernel)) ggX8_digest_X8_canKeep
set_option maxRecDepth 20000 in
theorem ggX8_digest_X8_standKeepings : GoodIn wsX8_digest wsX8_standKeepings := goodIn_r _ [83, 84, 85, 86, 87, 88, 89, 90, 91, 92, 93, 94, 95, 96, 97, 98, 11, 12, 13, 14, 15, 99, 25, 26, 27, 28, 29, 100, 101, 102, 103, 104, 105, 106, 107, 108, 109, 110, 111, 112, 113, 114, 115, 116, 117, 118, 119, 120, 74, 75, 76, 77, 78, 79, 121, 122, 123, 124, 125, 126, 127, 128, 129, 130, 131, 132, 133, 63, 64, 65, 66, 67, 68, 69, 70, 71, 72, 73, 134, 135, 136, 137, 50, 7, 51, 138, 139, 140, 141, 142, 47, 48, 49, 38, 52, 143, 144, 145, 146, 147, 35, 36, 37, 148, 149, 150, 151, 152, 153, 154, 155, 156, 157, 158, 159, 160, 161, 162, 163, 164, 165, 166, 167, 168, 169, 170, 171, 172, 173, 174, 175, 176, 177, 178, 179, 180, 331, 332, 333, 334, 335, 336, 337, 338, 339, 348, 349, 350, 351, 352, 353, 354, 355, 356, 357, 358, 340, 341, 342, 343, 344, 345, 359, 360, 361, 362, 346, 347] (by decide +kernel) (by decide +kernel)
set_option maxRecDepth 20000 in
theorem gX8_digest_X8_standKeepings : GoodIn wsX8_digest (wsV RX8 143 RX8 yX8_standKeepings wsX8_standKeepings) := goodIn_app (goodIn_of _ (by decide +kernel)) ggX8_digest_X8_standKeepings
set_option maxRecDepth 20000 in
theorem ggX8_digest_X8_standExchange : GoodIn wsX8_digest wsX8_standExchange := goodIn_r _ [184, 185, 186, 187, 188, 189, 190, 191, 192, 193, 194, 195, 196, 150, 151, 110, 152, 153, 154, 113, 155, 156, 157, 158, 112, 159, 11, 12, 13, 14, 15, 160, 25, 26, 27, 28, 29, 161, 35, 36, 37, 38, 162, 163, 164, 165, 117, 118, 119, 120, 74, 75, 76, 77, 78, 79, 114, 115, 116, 166, 63, 64, 65, 66, 67, 68, 69, 70, 71, 72, 73, 167, 168, 169, 170, 171, 172, 173, 174, 175, 176, 177, 178, 179, 180, 50, 7, 51, 121, 122, 123, 197, 198, 199, 200, 201, 202, 203, 204, 205, 206, 207, 331, 332, 333, 334, 335, 336, 337, 338, 339, 363, 364, 365, 366, 367, 368, 359, 360, 361, 362, 340, 341, 342, 343, 344, 345, 346, 347] (by decide +kernel) (by decide +kernel)
set_option maxRecDepth 20000 in
theorem gX8_digest_X8_standExchange : GoodIn wsX8_digest (wsV RX8 165 RX8 yX8_standExchange wsX8_standExchange) := goodIn_app (goodIn_of _ (by decide +kernel)) ggX8_digest_X8_standExchange
set_option maxRecDepth 20000 in
theorem ggX8_digest_X8_digestOfKeepings : GoodIn wsX8_digest wsX8_digestOfKeepings := goodIn_r _ [211, 9, 3, 85, 87, 10, 11, 12, 13, 14, 15, 212, 213, 214, 7, 215, 61, 216, 217, 218, 219, 92, 220, 95, 221, 222, 223, 224, 225, 226, 96, 227, 228, 229, 230, 231, 232, 97, 233, 234, 69, 70, 65, 71, 72, 73, 74, 75, 76, 77, 78, 79, 235, 236, 237, 238, 239, 240, 241, 242, 243, 94, 244, 98, 245, 246, 247, 248, 249, 250, 52, 25, 26, 27, 28, 29, 251, 252, 253, 254, 255, 256, 257, 258, 259, 260, 261, 262, 263, 264, 265, 266, 267, 268, 269, 270, 271, 272, 273, 274, 275, 276, 277, 278, 279, 186, 280, 281, 282, 190, 283, 192, 284, 285, 286, 287, 206, 288, 289, 290, 291, 207, 292, 293, 294, 295, 194, 331, 332, 333, 334, 335, 336, 337, 338, 339, 340, 341, 342, 343, 344, 345, 348, 349, 350, 351, 352, 353, 354, 355, 356, 357, 358, 346, 347, 363, 364, 365, 366, 367, 368] (by decide +kernel) (by decide +kernel)
set_option maxRecDepth 20000 in
theorem gX8_digest_X8_digestOfKeepings : GoodIn wsX8_digest (wsV RX8 198 RX8 yX8_digestOfKeepings wsX8_digestOfKeepings) := goodIn_app (goodIn_of _ (by decide +kernel)) ggX8_digest_X8_digestOfKeepings
set_option maxRecDepth 20000 in
theorem ggX8_digest_X4_length : GoodIn wsX8_digest wsX4_length := goodIn_r _ [300, 301, 369, 370] (by decide +kernel) (by decide +kernel)
set_option maxRecDepth 20000 in
theorem gX8_digest_X4_length : GoodIn wsX8_digest (wsV RX8 71 RX4 yX4_length wsX4_length) := goodIn_app (goodIn_of _ (by decide +kernel)) ggX8_digest_X4_length
set_option maxRecDepth 20000 in
theorem ggX8_digest_X4_codeAt : GoodIn wsX8_digest wsX4_codeAt := goodIn_r _ [305, 301, 306, 369, 370] (by decide +kernel) (by decide +kernel)
set_option maxRecDepth 20000 in
theorem gX8_digest_X4_codeAt : GoodIn wsX8_digest (wsV RX8 203 RX4 yX4_codeAt wsX4_codeAt) := goodIn_app (goodIn_of _ (by decide +kernel)) ggX8_digest_X4_codeAt
set_option maxRecDepth 20000 in
theorem ggX8_digest_X8_count : GoodIn wsX8_digest wsX8_count := goodIn_r _ [310, 9, 2, 61, 10, 11, 12, 13, 14, 15, 296, 297, 298, 299, 300, 301, 311, 312, 313, 65, 314, 67, 315, 144, 145, 146, 72, 316, 317, 318, 319, 38, 320, 74, 75, 76, 77, 78, 79, 321, 322, 323, 324, 325, 326, 327, 328, 329, 330, 57, 58, 59, 7, 60, 24, 25, 26, 27, 28, 29, 62, 63, 64, 66, 68, 69, 70, 71, 73, 331, 332, 333, 334, 335, 336, 337, 338, 339, 340, 341, 342, 343, 344, 345, 369, 370, 346, 347] (by decide +kernel) (by decide +kernel)
set_option maxRecDepth 20000 in
theorem gX8_digest_X8_count : GoodIn wsX8_digest (wsV RX8 206 RX8 yX8_count wsX8_count) := goodIn_app (goodIn_of _ (by decide +kernel)) ggX8_digest_X8_count
theorem dX8_digest_0 : decode cX8_digest 0 = .ok (.aload_n 0, 1) := by decide +kernel
theorem dX8_digest_1 : decode cX8_digest 1 = .ok (.ldc2_w 192, 3) := by decide +kernel
theorem dX8_digest_4 : decode cX8_digest 4 = .ok (.invokevirtual 194, 3) := by decide +kernel
theorem dX8_digest_7 : decode cX8_digest 7 = .ok (.lstore_n 1, 1) := by decide +kernel
theorem dX8_digest_8 : decode cX8_digest 8 = .ok (.aload_n 0, 1) := by decide +kernel
theorem dX8_digest_9 : decode cX8_digest 9 = .ok (.invokevirtual 150, 3) := by decide +kernel
theorem dX8_digest_12 : decode cX8_digest 12 = .ok (.ifCond .eq 17, 3) := by decide +kernel
theorem dX8_digest_15 : decode cX8_digest 15 = .ok (.aload_n 0, 1) := by decide +kernel
theorem dX8_digest_16 : decode cX8_digest 16 = .ok (.invokevirtual 143, 3) := by decide +kernel
theorem dX8_digest_19 : decode cX8_digest 19 = .ok (.aload_n 0, 1) := by decide +kernel
theorem dX8_digest_20 : decode cX8_digest 20 = .ok (.invokevirtual 165, 3) := by decide +kernel
theorem dX8_digest_23 : decode cX8_digest 23 = .ok (.aload_n 0, 1) := by decide +kernel
theorem dX8_digest_24 : decode cX8_digest 24 = .ok (.lload_n 1, 1) := by decide +kernel
theorem dX8_digest_25 : decode cX8_digest 25 = .ok (.invokevirtual 198, 3) := by decide +kernel
theorem dX8_digest_28 : decode cX8_digest 28 = .ok (.lstore_n 1, 1) := by decide +kernel
theorem dX8_digest_29 : decode cX8_digest 29 = .ok (.iconst 0, 1) := by decide +kernel
theorem dX8_digest_30 : decode cX8_digest 30 = .ok (.istore_n 3, 1) := by decide +kernel
theorem dX8_digest_31 : decode cX8_digest 31 = .ok (.iload_n 3, 1) := by decide +kernel
theorem dX8_digest_32 : decode cX8_digest 32 = .ok (.aload_n 0, 1) := by decide +kernel
theorem dX8_digest_33 : decode cX8_digest 33 = .ok (.getfield 12, 3) := by decide +kernel
theorem dX8_digest_36 : decode cX8_digest 36 = .ok (.invokevirtual 71, 3) := by decide +kernel
theorem dX8_digest_39 : decode cX8_digest 39 = .ok (.if_icmp .ge 25, 3) := by decide +kernel
theorem dX8_digest_42 : decode cX8_digest 42 = .ok (.ldc2_w 201, 3) := by decide +kernel
theorem dX8_digest_45 : decode cX8_digest 45 = .ok (.lload_n 1, 1) := by decide +kernel
theorem dX8_digest_46 : decode cX8_digest 46 = .ok (.lmul, 1) := by decide +kernel
theorem dX8_digest_47 : decode cX8_digest 47 = .ok (.aload_n 0, 1) := by decide +kernel
theorem dX8_digest_48 : decode cX8_digest 48 = .ok (.getfield 12, 3) := by decide +kernel
theorem dX8_digest_51 : decode cX8_digest 51 = .ok (.iload_n 3, 1) := by decide +kernel
theorem dX8_digest_52 : decode cX8_digest 52 = .ok (.invokevirtual 203, 3) := by decide +kernel
theorem dX8_digest_55 : decode cX8_digest 55 = .ok (.i2l, 1) := by decide +kernel
theorem dX8_digest_56 : decode cX8_digest 56 = .ok (.ladd, 1) := by decide +kernel
theorem dX8_digest_57 : decode cX8_digest 57 = .ok (.lstore_n 1, 1) := by decide +kernel
theorem dX8_digest_58 : decode cX8_digest 58 = .ok (.iinc 3 1, 3) := by decide +kernel
theorem dX8_digest_61 : decode cX8_digest 61 = .ok (.goto (-30), 3) := by decide +kernel
theorem dX8_digest_64 : decode cX8_digest 64 = .ok (.iconst 0, 1) := by decide +kernel
theorem dX8_digest_65 : decode cX8_digest 65 = .ok (.istore_n 3, 1) := by decide +kernel
theorem dX8_digest_66 : decode cX8_digest 66 = .ok (.iload_n 3, 1) := by decide +kernel
theorem dX8_digest_67 : decode cX8_digest 67 = .ok (.bipush 8, 2) := by decide +kernel
theorem dX8_digest_69 : decode cX8_digest 69 = .ok (.if_icmp .ge 22, 3) := by decide +kernel
theorem dX8_digest_72 : decode cX8_digest 72 = .ok (.ldc2_w 201, 3) := by decide +kernel
theorem dX8_digest_75 : decode cX8_digest 75 = .ok (.lload_n 1, 1) := by decide +kernel
theorem dX8_digest_76 : decode cX8_digest 76 = .ok (.lmul, 1) := by decide +kernel
theorem dX8_digest_77 : decode cX8_digest 77 = .ok (.aload_n 0, 1) := by decide +kernel
theorem dX8_digest_78 : decode cX8_digest 78 = .ok (.iload_n 3, 1) := by decide +kernel
theorem dX8_digest_79 : decode cX8_digest 79 = .ok (.invokevirtual 206, 3) := by decide +kernel
theorem dX8_digest_82 : decode cX8_digest 82 = .ok (.i2l, 1) := by decide +kernel
theorem dX8_digest_83 : decode cX8_digest 83 = .ok (.ladd, 1) := by decide +kernel
theorem dX8_digest_84 : decode cX8_digest 84 = .ok (.lstore_n 1, 1) := by decide +kernel
theorem dX8_digest_85 : decode cX8_digest 85 = .ok (.iinc 3 1, 3) := by decide +kernel
theorem dX8_digest_88 : decode cX8_digest 88 = .ok (.goto (-22), 3) := by decide +kernel
theorem dX8_digest_91 : decode cX8_digest 91 = .ok (.lload_n 1, 1) := by decide +kernel
theorem dX8_digest_92 : decode cX8_digest 92 = .ok (.lreturn, 1) := by decide +kernel
set_option maxRecDepth 20000 in
theorem ggX8_digestOfRow_X6_size : GoodIn wsX8_digestOfRow wsX6_size := goodIn_r _ [7, 8, 56, 57, 58, 59, 60, 61] (by decide +kernel) (by decide +kernel)
set_option maxRecDepth 20000 in
theorem gX8_digestOfRow_X6_size : GoodIn wsX8_digestOfRow (wsV RX8 88 RX6 yX6_size wsX6_size) := goodIn_app (goodIn_of _ (by decide +kernel)) ggX8_digestOfRow_X6_size
set_option maxRecDepth 20000 in
theorem ggX8_digestOfRow_X8_job : GoodIn wsX8_digestOfRow wsX8_job := goodIn_r _ [13, 1, 14, 15, 16, 6, 17, 8, 18, 19, 20, 21, 22, 23, 24, 25, 26, 27, 28, 29, 30, 31, 32, 47, 48, 49, 50, 51, 52, 53, 54, 55, 56, 57, 58, 59, 60, 61] (by decide +kernel) (by decide +kernel)
set_option maxRecDepth 20000 in
theorem gX8_digestOfRow_X8_job : GoodIn wsX8_digestOfRow (wsV RX8 209 RX8 yX8_job wsX8_job) := goodIn_app (goodIn_of _ (by decide +kernel)) ggX8_digestOfRow_X8_job
set_option maxRecDepth 20000 in
theorem ggX8_digestOfRow_X8_next : GoodIn wsX8_digestOfRow wsX8_next := goodIn_r _ [36, 1, 14, 15, 16, 6, 17, 8, 37, 38, 12, 39, 40, 41, 42, 43, 32, 44, 45, 46, 19, 20, 21, 22, 23, 47, 48, 49, 50, 51, 52, 53, 54, 55, 56, 57, 58, 59, 60, 61] (by decide +kernel) (by decide +kernel)
set_option maxRecDepth 20000 in
theorem gX8_digestOfRow_X8_next : GoodIn wsX8_digestOfRow (wsV RX8 212 RX8 yX8_next wsX8_next) := goodIn_app (goodIn_of _ (by decide +kernel)) ggX8_digestOfRow_X8_next
theorem dX8_digestOfRow_0 : decode cX8_digestOfRow 0 = .ok (.lload_n 1, 1) := by decide +kernel
theorem dX8_digestOfRow_1 : decode cX8_digestOfRow 1 = .ok (.lstore_n 3, 1) := by decide +kernel
theorem dX8_digestOfRow_2 : decode cX8_digestOfRow 2 = .ok (.iconst 0, 1) := by decide +kernel
theorem dX8_digestOfRow_3 : decode cX8_digestOfRow 3 = .ok (.istore 5, 2) := by decide +kernel
theorem dX8_digestOfRow_5 : decode cX8_digestOfRow 5 = .ok (.iload 5, 2) := by decide +kernel
theorem dX8_digestOfRow_7 : decode cX8_digestOfRow 7 = .ok (.aload_n 0, 1) := by decide +kernel
theorem dX8_digestOfRow_8 : decode cX8_digestOfRow 8 = .ok (.getfield 26, 3) := by decide +kernel
theorem dX8_digestOfRow_11 : decode cX8_digestOfRow 11 = .ok (.invokevirtual 88, 3) := by decide +kernel
theorem dX8_digestOfRow_14 : decode cX8_digestOfRow 14 = .ok (.if_icmp .ge 72, 3) := by decide +kernel
theorem dX8_digestOfRow_17 : decode cX8_digestOfRow 17 = .ok (.iconst 0, 1) := by decide +kernel
theorem dX8_digestOfRow_18 : decode cX8_digestOfRow 18 = .ok (.istore 6, 2) := by decide +kernel
theorem dX8_digestOfRow_20 : decode cX8_digestOfRow 20 = .ok (.iload 6, 2) := by decide +kernel
theorem dX8_digestOfRow_22 : decode cX8_digestOfRow 22 = .ok (.iconst 3, 1) := by decide +kernel
theorem dX8_digestOfRow_23 : decode cX8_digestOfRow 23 = .ok (.if_icmp .ge 25, 3) := by decide +kernel
theorem dX8_digestOfRow_26 : decode cX8_digestOfRow 26 = .ok (.ldc2_w 201, 3) := by decide +kernel
theorem dX8_digestOfRow_29 : decode cX8_digestOfRow 29 = .ok (.lload_n 3, 1) := by decide +kernel
theorem dX8_digestOfRow_30 : decode cX8_digestOfRow 30 = .ok (.lmul, 1) := by decide +kernel
theorem dX8_digestOfRow_31 : decode cX8_digestOfRow 31 = .ok (.aload_n 0, 1) := by decide +kernel
theorem dX8_digestOfRow_32 : decode cX8_digestOfRow 32 = .ok (.iload 5, 2) := by decide +kernel
theorem dX8_digestOfRow_34 : decode cX8_digestOfRow 34 = .ok (.iload 6, 2) := by decide +kernel
theorem dX8_digestOfRow_36 : decode cX8_digestOfRow 36 = .ok (.invokevirtual 209, 3) := by decide +kernel
theorem dX8_digestOfRow_39 : decode cX8_digestOfRow 39 = .ok (.i2l, 1) := by decide +kernel
theorem dX8_digestOfRow_40 : decode cX8_digestOfRow 40 = .ok (.ladd, 1) := by decide +kernel
theorem dX8_digestOfRow_41 : decode cX8_digestOfRow 41 = .ok (.lstore_n 3, 1) := by decide +kernel
theorem dX8_digestOfRow_42 : decode cX8_digestOfRow 42 = .ok (.iinc 6 1, 3) := by decide +kernel
theorem dX8_digestOfRow_45 : decode cX8_digestOfRow 45 = .ok (.goto (-25), 3) := by decide +kernel
theorem dX8_digestOfRow_48 : decode cX8_digestOfRow 48 = .ok (.iconst 0, 1) := by decide +kernel
theorem dX8_digestOfRow_49 : decode cX8_digestOfRow 49 = .ok (.istore 6, 2) := by decide +kernel
theorem dX8_digestOfRow_51 : decode cX8_digestOfRow 51 = .ok (.iload 6, 2) := by decide +kernel
theorem dX8_digestOfRow_53 : decode cX8_digestOfRow 53 = .ok (.bipush 8, 2) := by decide +kernel
theorem dX8_digestOfRow_55 : decode cX8_digestOfRow 55 = .ok (.if_icmp .ge 25, 3) := by decide +kernel
theorem dX8_digestOfRow_58 : decode cX8_digestOfRow 58 = .ok (.ldc2_w 201, 3) := by decide +kernel
theorem dX8_digestOfRow_61 : decode cX8_digestOfRow 61 = .ok (.lload_n 3, 1) := by decide +kernel
theorem dX8_digestOfRow_62 : decode cX8_digestOfRow 62 = .ok (.lmul, 1) := by decide +kernel
theorem dX8_digestOfRow_63 : decode cX8_digestOfRow 63 = .ok (.aload_n 0, 1) := by decide +kernel
theorem dX8_digestOfRow_64 : decode cX8_digestOfRow 64 = .ok (.iload 5, 2) := by decide +kernel
theorem dX8_digestOfRow_66 : decode cX8_digestOfRow 66 = .ok (.iload 6, 2) := by decide +kernel
theorem dX8_digestOfRow_68 : decode cX8_digestOfRow 68 = .ok (.invokevirtual 212, 3) := by decide +kernel
theorem dX8_digestOfRow_71 : decode cX8_digestOfRow 71 = .ok (.i2l, 1) := by decide +kernel
theorem dX8_digestOfRow_72 : decode cX8_digestOfRow 72 = .ok (.ladd, 1) := by decide +kernel
theorem dX8_digestOfRow_73 : decode cX8_digestOfRow 73 = .ok (.lstore_n 3, 1) := by decide +kernel
theorem dX8_digestOfRow_74 : decode cX8_digestOfRow 74 = .ok (.iinc 6 1, 3) := by decide +kernel
theorem dX8_digestOfRow_77 : decode cX8_digestOfRow 77 = .ok (.goto (-26), 3) := by decide +kernel
theorem dX8_digestOfRow_80 : decode cX8_digestOfRow 80 = .ok (.iinc 5 1, 3) := by decide +kernel
theorem dX8_digestOfRow_83 : decode cX8_digestOfRow 83 = .ok (.goto (-78), 3) := by decide +kernel
theorem dX8_digestOfRow_86 : decode cX8_digestOfRow 86 = .ok (.lload_n 3, 1) := by decide +kernel
theorem dX8_digestOfRow_87 : decode cX8_digestOfRow 87 = .ok (.lreturn, 1) := by decide +kernel
set_option maxRecDepth 20000 in
theorem ggX8_digestOfKeepings_X6_size : GoodIn wsX8_digestOfKeepings wsX6_size := goodIn_r _ [9, 10, 136, 137, 138, 139, 140, 141] (by decide +kernel) (by decide +kernel)
set_option maxRecDepth 20000 in
theorem gX8_digestOfKeepings_X6_size : GoodIn wsX8_digestOfKeepings (wsV RX8 88 RX6 yX6_size wsX6_size) := goodIn_app (goodIn_of _ (by decide +kernel)) ggX8_digestOfKeepings_X6_size
set_option maxRecDepth 20000 in
theorem ggX8_digestOfKeepings_X8_numberOfKeeping : GoodIn wsX8_digestOfKeepings wsX8_numberOfKeeping := goodIn_r _ [15, 16, 17, 18, 19, 20, 21, 22, 23, 24, 25, 26, 27, 28, 29, 30, 31, 32, 33, 34, 35, 36, 37, 38, 39, 40, 41, 42, 43, 44, 45, 46, 47, 48, 49, 50, 51, 127, 128, 129, 130, 131, 132, 133, 134, 135, 142, 143, 144, 145, 146, 147, 148, 149, 150, 151, 152, 153, 154] (by decide +kernel) (by decide +kernel)
set_option maxRecDepth 20000 in
theorem gX8_digestOfKeepings_X8_numberOfKeeping : GoodIn wsX8_digestOfKeepings (wsV RX8 146 RX8 yX8_numberOfKeeping wsX8_numberOfKeeping) := goodIn_app (goodIn_of _ (by decide +kernel)) ggX8_digestOfKeepings_X8_numberOfKeeping
set_option maxRecDepth 20000 in
theorem ggX8_digestOfKeepings_X8_numberOfCost : GoodIn wsX8_digestOfKeepings wsX8_numberOfCost := goodIn_r _ [55, 3, 4, 16, 1, 56, 57, 58, 59, 21, 60, 61, 62, 30, 63, 6, 7, 8, 9, 10, 64, 40, 41, 42, 43, 44, 45, 46, 47, 48, 49, 50, 51, 65, 66, 67, 68, 69, 70, 71, 72, 73, 74, 75, 39, 76, 77, 78, 79, 80, 81, 82, 127, 128, 129, 130, 131, 132, 133, 134, 135, 142, 143, 144, 145, 146, 147, 148, 149, 150, 151, 152, 136, 137, 138, 139, 140, 141, 153, 154] (by decide +kernel) (by decide +kernel)
set_option maxRecDepth 20000 in
theorem gX8_digestOfKeepings_X8_numberOfCost : GoodIn wsX8_digestOfKeepings (wsV RX8 153 RX8 yX8_numberOfCost wsX8_numberOfCost) := goodIn_app (goodIn_of _ (by decide +kernel)) ggX8_digestOfKeepings_X8_numberOfCost
set_option maxRecDepth 20000 in
theorem ggX8_digestOfKeepings_X8_bitsOfMean : GoodIn wsX8_digestOfKeepings wsX8_bitsOfMean := goodIn_r _ [86, 3, 1, 56, 57, 58, 59, 21, 60, 61, 62, 30, 63, 6, 7, 8, 9, 10, 64, 40, 41, 42, 43, 44, 45, 46, 47, 48, 49, 50, 51, 65, 5, 87, 88, 14, 89, 90, 91, 92, 127, 128, 129, 130, 131, 132, 133, 134, 135, 142, 143, 144, 145, 146, 147, 148, 149, 150, 151, 152, 136, 137, 138, 139, 140, 141, 153, 154] (by decide +kernel) (by decide +kernel)
set_option maxRecDepth 20000 in
theorem gX8_digestOfKeepings_X8_bitsOfMean : GoodIn wsX8_digestOfKeepings (wsV RX8 158 RX8 yX8_bitsOfMean wsX8_bitsOfMean) := goodIn_app (goodIn_of _ (by decide +kernel)) ggX8_digestOfKeepings_X8_bitsOfMean
set_option maxRecDepth 20000 in
theorem ggX8_digestOfKeepings_X8_bitsOfRatio : GoodIn wsX8_digestOfKeepings wsX8_bitsOfRatio := goodIn_r _ [96, 3, 4, 56, 57, 58, 59, 21, 60, 61, 62, 30, 63, 6, 7, 8, 9, 10, 64, 40, 41, 42, 43, 44, 45, 46, 47, 48, 49, 50, 51, 65, 97, 98, 14, 99, 100, 127, 128, 129, 130, 131, 132, 133, 134, 135, 142, 143, 144, 145, 146, 147, 148, 149, 150, 151, 152, 136, 137, 138, 139, 140, 141, 153, 154] (by decide +kernel) (by decide +kernel)
set_option maxRecDepth 20000 in
theorem gX8_digestOfKeepings_X8_bitsOfRatio : GoodIn wsX8_digestOfKeepings (wsV RX8 162 RX8 yX8_bitsOfRatio wsX8_bitsOfRatio) := goodIn_app (goodIn_of _ (by decide +kernel)) ggX8_digestOfKeepings_X8_bitsOfRatio
set_option maxRecDepth 20000 in
theorem ggX8_digestOfKeepings_X8_numberOfExchange : GoodIn wsX8_digestOfKeepings wsX8_numberOfExchange := goodIn_r _ [104, 105, 106, 107, 108, 109, 110, 111, 112, 113, 114, 115, 116, 117, 118, 119, 120, 121, 122, 123, 124, 125, 126, 127, 128, 129, 130, 131, 132, 133, 134, 135, 155, 156, 157, 158, 159, 160] (by decide +kernel) (by decide +kernel)
set_option maxRecDepth 20000 in
theorem gX8_digestOfKeepings_X8_numberOfExchange : GoodIn wsX8_digestOfKeepings (wsV RX8 168 RX8 yX8_numberOfExchange wsX8_numberOfExchange) := goodIn_app (goodIn_of _ (by decide +kernel)) ggX8_digestOfKeepings_X8_numberOfExchange
theorem dX8_digestOfKeepings_0 : decode cX8_digestOfKeepings 0 = .ok (.lload_n 1, 1) := by decide +kernel
theorem dX8_digestOfKeepings_1 : decode cX8_digestOfKeepings 1 = .ok (.lstore_n 3, 1) := by decide +kernel
theorem dX8_digestOfKeepings_2 : decode cX8_digestOfKeepings 2 = .ok (.iconst 0, 1) := by decide +kernel
theorem dX8_digestOfKeepings_3 : decode cX8_digestOfKeepings 3 = .ok (.istore 5, 2) := by decide +kernel
theorem dX8_digestOfKeepings_5 : decode cX8_digestOfKeepings 5 = .ok (.iload 5, 2) := by decide +kernel
theorem dX8_digestOfKeepings_7 : decode cX8_digestOfKeepings 7 = .ok (.aload_n 0, 1) := by decide +kernel
theorem dX8_digestOfKeepings_8 : decode cX8_digestOfKeepings 8 = .ok (.getfield 26, 3) := by decide +kernel
theorem dX8_digestOfKeepings_11 : decode cX8_digestOfKeepings 11 = .ok (.invokevirtual 88, 3) := by decide +kernel
theorem dX8_digestOfKeepings_14 : decode cX8_digestOfKeepings 14 = .ok (.if_icmp .ge 79, 3) := by decide +kernel
theorem dX8_digestOfKeepings_17 : decode cX8_digestOfKeepings 17 = .ok (.iconst 0, 1) := by decide +kernel
theorem dX8_digestOfKeepings_18 : decode cX8_digestOfKeepings 18 = .ok (.istore 6, 2) := by decide +kernel
theorem dX8_digestOfKeepings_20 : decode cX8_digestOfKeepings 20 = .ok (.iload 6, 2) := by decide +kernel
theorem dX8_digestOfKeepings_22 : decode cX8_digestOfKeepings 22 = .ok (.iconst 4, 1) := by decide +kernel
theorem dX8_digestOfKeepings_23 : decode cX8_digestOfKeepings 23 = .ok (.if_icmp .ge 29, 3) := by decide +kernel
theorem dX8_digestOfKeepings_26 : decode cX8_digestOfKeepings 26 = .ok (.ldc2_w 201, 3) := by decide +kernel
theorem dX8_digestOfKeepings_29 : decode cX8_digestOfKeepings 29 = .ok (.lload_n 3, 1) := by decide +kernel
theorem dX8_digestOfKeepings_30 : decode cX8_digestOfKeepings 30 = .ok (.lmul, 1) := by decide +kernel
theorem dX8_digestOfKeepings_31 : decode cX8_digestOfKeepings 31 = .ok (.aload_n 0, 1) := by decide +kernel
theorem dX8_digestOfKeepings_32 : decode cX8_digestOfKeepings 32 = .ok (.aload_n 0, 1) := by decide +kernel
theorem dX8_digestOfKeepings_33 : decode cX8_digestOfKeepings 33 = .ok (.getfield 42, 3) := by decide +kernel
theorem dX8_digestOfKeepings_36 : decode cX8_digestOfKeepings 36 = .ok (.iload 5, 2) := by decide +kernel
theorem dX8_digestOfKeepings_38 : decode cX8_digestOfKeepings 38 = .ok (.iload 6, 2) := by decide +kernel
theorem dX8_digestOfKeepings_40 : decode cX8_digestOfKeepings 40 = .ok (.invokevirtual 146, 3) := by decide +kernel
theorem dX8_digestOfKeepings_43 : decode cX8_digestOfKeepings 43 = .ok (.i2l, 1) := by decide +kernel
theorem dX8_digestOfKeepings_44 : decode cX8_digestOfKeepings 44 = .ok (.ladd, 1) := by decide +kernel
theorem dX8_digestOfKeepings_45 : decode cX8_digestOfKeepings 45 = .ok (.lstore_n 3, 1) := by decide +kernel
theorem dX8_digestOfKeepings_46 : decode cX8_digestOfKeepings 46 = .ok (.iinc 6 1, 3) := by decide +kernel
theorem dX8_digestOfKeepings_49 : decode cX8_digestOfKeepings 49 = .ok (.goto (-29), 3) := by decide +kernel
theorem dX8_digestOfKeepings_52 : decode cX8_digestOfKeepings 52 = .ok (.iconst 0, 1) := by decide +kernel
theorem dX8_digestOfKeepings_53 : decode cX8_digestOfKeepings 53 = .ok (.istore 6, 2) := by decide +kernel
theorem dX8_digestOfKeepings_55 : decode cX8_digestOfKeepings 55 = .ok (.iload 6, 2) := by decide +kernel
theorem dX8_digestOfKeepings_57 : decode cX8_digestOfKeepings 57 = .ok (.iconst 4, 1) := by decide +kernel
theorem dX8_digestOfKeepings_58 : decode cX8_digestOfKeepings 58 = .ok (.if_icmp .ge 29, 3) := by decide +kernel
theorem dX8_digestOfKeepings_61 : decode cX8_digestOfKeepings 61 = .ok (.ldc2_w 201, 3) := by decide +kernel
theorem dX8_digestOfKeepings_64 : decode cX8_digestOfKeepings 64 = .ok (.lload_n 3, 1) := by decide +kernel
theorem dX8_digestOfKeepings_65 : decode cX8_digestOfKeepings 65 = .ok (.lmul, 1) := by decide +kernel
theorem dX8_digestOfKeepings_66 : decode cX8_digestOfKeepings 66 = .ok (.aload_n 0, 1) := by decide +kernel
theorem dX8_digestOfKeepings_67 : decode cX8_digestOfKeepings 67 = .ok (.aload_n 0, 1) := by decide +kernel
theorem dX8_digestOfKeepings_68 : decode cX8_digestOfKeepings 68 = .ok (.getfield 51, 3) := by decide +kernel
theorem dX8_digestOfKeepings_71 : decode cX8_digestOfKeepings 71 = .ok (.iload 5, 2) := by decide +kernel
theorem dX8_digestOfKeepings_73 : decode cX8_digestOfKeepings 73 = .ok (.iload 6, 2) := by decide +kernel
theorem dX8_digestOfKeepings_75 : decode cX8_digestOfKeepings 75 = .ok (.invokevirtual 146, 3) := by decide +kernel
theorem dX8_digestOfKeepings_78 : decode cX8_digestOfKeepings 78 = .ok (.i2l, 1) := by decide +kernel
theorem dX8_digestOfKeepings_79 : decode cX8_digestOfKeepings 79 = .ok (.ladd, 1) := by decide +kernel
theorem dX8_digestOfKeepings_80 : decode cX8_digestOfKeepings 80 = .ok (.lstore_n 3, 1) := by decide +kernel
theorem dX8_digestOfKeepings_81 : decode cX8_digestOfKeepings 81 = .ok (.iinc 6 1, 3) := by decide +kernel
theorem dX8_digestOfKeepings_84 : decode cX8_digestOfKeepings 84 = .ok (.goto (-29), 3) := by decide +kernel
theorem dX8_digestOfKeepings_87 : decode cX8_digestOfKeepings 87 = .ok (.iinc 5 1, 3) := by decide +kernel
theorem dX8_digestOfKeepings_90 : decode cX8_digestOfKeepings 90 = .ok (.goto (-85), 3) := by decide +kernel
theorem dX8_digestOfKeepings_93 : decode cX8_digestOfKeepings 93 = .ok (.iconst 0, 1) := by decide +kernel
theorem dX8_digestOfKeepings_94 : decode cX8_digestOfKeepings 94 = .ok (.istore 5, 2) := by decide +kernel
theorem dX8_digestOfKeepings_96 : decode cX8_digestOfKeepings 96 = .ok (.iload 5, 2) := by decide +kernel
theorem dX8_digestOfKeepings_98 : decode cX8_digestOfKeepings 98 = .ok (.iconst 5, 1) := by decide +kernel
theorem dX8_digestOfKeepings_99 : decode cX8_digestOfKeepings 99 = .ok (.if_icmp .ge 23, 3) := by decide +kernel
theorem dX8_digestOfKeepings_102 : decode cX8_digestOfKeepings 102 = .ok (.ldc2_w 201, 3) := by decide +kernel
theorem dX8_digestOfKeepings_105 : decode cX8_digestOfKeepings 105 = .ok (.lload_n 3, 1) := by decide +kernel
theorem dX8_digestOfKeepings_106 : decode cX8_digestOfKeepings 106 = .ok (.lmul, 1) := by decide +kernel
theorem dX8_digestOfKeepings_107 : decode cX8_digestOfKeepings 107 = .ok (.aload_n 0, 1) := by decide +kernel
theorem dX8_digestOfKeepings_108 : decode cX8_digestOfKeepings 108 = .ok (.iload 5, 2) := by decide +kernel
theorem dX8_digestOfKeepings_110 : decode cX8_digestOfKeepings 110 = .ok (.invokevirtual 153, 3) := by decide +kernel
theorem dX8_digestOfKeepings_113 : decode cX8_digestOfKeepings 113 = .ok (.i2l, 1) := by decide +kernel
theorem dX8_digestOfKeepings_114 : decode cX8_digestOfKeepings 114 = .ok (.ladd, 1) := by decide +kernel
theorem dX8_digestOfKeepings_115 : decode cX8_digestOfKeepings 115 = .ok (.lstore_n 3, 1) := by decide +kernel
theorem dX8_digestOfKeepings_116 : decode cX8_digestOfKeepings 116 = .ok (.iinc 5 1, 3) := by decide +kernel
theorem dX8_digestOfKeepings_119 : decode cX8_digestOfKeepings 119 = .ok (.goto (-23), 3) := by decide +kernel
theorem dX8_digestOfKeepings_122 : decode cX8_digestOfKeepings 122 = .ok (.ldc2_w 201, 3) := by decide +kernel
theorem dX8_digestOfKeepings_125 : decode cX8_digestOfKeepings 125 = .ok (.lload_n 3, 1) := by decide +kernel
theorem dX8_digestOfKeepings_126 : decode cX8_digestOfKeepings 126 = .ok (.lmul, 1) := by decide +kernel
theorem dX8_digestOfKeepings_127 : decode cX8_digestOfKeepings 127 = .ok (.aload_n 0, 1) := by decide +kernel
theorem dX8_digestOfKeepings_128 : decode cX8_digestOfKeepings 128 = .ok (.invokevirtual 158, 3) := by decide +kernel
theorem dX8_digestOfKeepings_131 : decode cX8_digestOfKeepings 131 = .ok (.ladd, 1) := by decide +kernel
theorem dX8_digestOfKeepings_132 : decode cX8_digestOfKeepings 132 = .ok (.lstore_n 3, 1) := by decide +kernel
theorem dX8_digestOfKeepings_133 : decode cX8_digestOfKeepings 133 = .ok (.ldc2_w 201, 3) := by decide +kernel
theorem dX8_digestOfKeepings_136 : decode cX8_digestOfKeepings 136 = .ok (.lload_n 3, 1) := by decide +kernel
theorem dX8_digestOfKeepings_137 : decode cX8_digestOfKeepings 137 = .ok (.lmul, 1) := by decide +kernel
theorem dX8_digestOfKeepings_138 : decode cX8_digestOfKeepings 138 = .ok (.aload_n 0, 1) := by decide +kernel
theorem dX8_digestOfKeepings_139 : decode cX8_digestOfKeepings 139 = .ok (.invokevirtual 162, 3) := by decide +kernel
theorem dX8_digestOfKeepings_142 : decode cX8_digestOfKeepings 142 = .ok (.i2l, 1) := by decide +kernel
theorem dX8_digestOfKeepings_143 : decode cX8_digestOfKeepings 143 = .ok (.ladd, 1) := by decide +kernel
theorem dX8_digestOfKeepings_144 : decode cX8_digestOfKeepings 144 = .ok (.lstore_n 3, 1) := by decide +kernel
theorem dX8_digestOfKeepings_145 : decode cX8_digestOfKeepings 145 = .ok (.iconst 0, 1) := by decide +kernel
theorem dX8_digestOfKeepings_146 : decode cX8_digestOfKeepings 146 = .ok (.istore 5, 2) := by decide +kernel
theorem dX8_digestOfKeepings_148 : decode cX8_digestOfKeepings 148 = .ok (.iload 5, 2) := by decide +kernel
theorem dX8_digestOfKeepings_150 : decode cX8_digestOfKeepings 150 = .ok (.iconst 3, 1) := by decide +kernel
theorem dX8_digestOfKeepings_151 : decode cX8_digestOfKeepings 151 = .ok (.if_icmp .ge 23, 3) := by decide +kernel
theorem dX8_digestOfKeepings_154 : decode cX8_digestOfKeepings 154 = .ok (.ldc2_w 201, 3) := by decide +kernel
theorem dX8_digestOfKeepings_157 : decode cX8_digestOfKeepings 157 = .ok (.lload_n 3, 1) := by decide +kernel
theorem dX8_digestOfKeepings_158 : decode cX8_digestOfKeepings 158 = .ok (.lmul, 1) := by decide +kernel
theorem dX8_digestOfKeepings_159 : decode cX8_digestOfKeepings 159 = .ok (.aload_n 0, 1) := by decide +kernel
theorem dX8_digestOfKeepings_160 : decode cX8_digestOfKeepings 160 = .ok (.iload 5, 2) := by decide +kernel
theorem dX8_digestOfKeepings_162 : decode cX8_digestOfKeepings 162 = .ok (.invokevirtual 168, 3) := by decide +kernel
theorem dX8_digestOfKeepings_165 : decode cX8_digestOfKeepings 165 = .ok (.i2l, 1) := by decide +kernel
theorem dX8_digestOfKeepings_166 : decode cX8_digestOfKeepings 166 = .ok (.ladd, 1) := by decide +kernel
theorem dX8_digestOfKeepings_167 : decode cX8_digestOfKeepings 167 = .ok (.lstore_n 3, 1) := by decide +kernel
theorem dX8_digestOfKeepings_168 : decode cX8_digestOfKeepings 168 = .ok (.iinc 5 1, 3) := by decide +kernel
theorem dX8_digestOfKeepings_171 : decode cX8_digestOfKeepings 171 = .ok (.goto (-23), 3) := by decide +kernel
theorem dX8_digestOfKeepings_174 : decode cX8_digestOfKeepings 174 = .ok (.lload_n 3, 1) := by decide +kernel
theorem dX8_digestOfKeepings_175 : decode cX8_digestOfKeepings 175 = .ok (.lreturn, 1) := by decide +kernel
set_option maxRecDepth 20000 in
theorem ggX8_refusalOfKeeping_X6_isPlace : GoodIn wsX8_refusalOfKeeping wsX6_isPlace := goodIn_r _ [6, 7, 51, 52, 53, 54, 55, 56] (by decide +kernel) (by decide +kernel)
set_option maxRecDepth 20000 in
theorem gX8_refusalOfKeeping_X6_isPlace : GoodIn wsX8_refusalOfKeeping (wsV RX8 112 RX6 yX6_isPlace wsX6_isPlace) := goodIn_app (goodIn_of _ (by decide +kernel)) ggX8_refusalOfKeeping_X6_isPlace
set_option maxRecDepth 20000 in
theorem ggX8_refusalOfKeeping_X8_isTooBig : GoodIn wsX8_refusalOfKeeping wsX8_isTooBig := goodIn_r _ [12, 1, 13, 14, 15, 16, 5, 17, 7, 18, 19, 20, 21, 22, 23, 24, 25, 26, 27, 28, 29, 30, 31, 32, 33, 34, 35, 36, 37, 38, 39, 40, 41, 42, 43, 44, 45, 46, 47, 48, 49, 50, 51, 52, 53, 54, 55, 56, 57, 58] (by decide +kernel) (by decide +kernel)
set_option maxRecDepth 20000 in
theorem gX8_refusalOfKeeping_X8_isTooBig : GoodIn wsX8_refusalOfKeeping (wsV RX8 189 RX8 yX8_isTooBig wsX8_isTooBig) := goodIn_app (goodIn_of _ (by decide +kernel)) ggX8_refusalOfKeeping_X8_isTooBig
theorem dX8_refusalOfKeeping_0 : decode cX8_refusalOfKeeping 0 = .ok (.aload_n 0, 1) := by decide +kernel
theorem dX8_refusalOfKeeping_1 : decode cX8_refusalOfKeeping 1 = .ok (.getfield 26, 3) := by decide +kernel
theorem dX8_refusalOfKeeping_4 : decode cX8_refusalOfKeeping 4 = .ok (.iload_n 1, 1) := by decide +kernel
theorem dX8_refusalOfKeeping_5 : decode cX8_refusalOfKeeping 5 = .ok (.invokevirtual 112, 3) := by decide +kernel
theorem dX8_refusalOfKeeping_8 : decode cX8_refusalOfKeeping 8 = .ok (.ifCond .ne 7, 3) := by decide +kernel
theorem dX8_refusalOfKeeping_11 : decode cX8_refusalOfKeeping 11 = .ok (.sipush (-1001), 3) := by decide +kernel
theorem dX8_refusalOfKeeping_14 : decode cX8_refusalOfKeeping 14 = .ok (.ireturn, 1) := by decide +kernel
theorem dX8_refusalOfKeeping_15 : decode cX8_refusalOfKeeping 15 = .ok (.iload_n 2, 1) := by decide +kernel
theorem dX8_refusalOfKeeping_16 : decode cX8_refusalOfKeeping 16 = .ok (.ifCond .lt 8, 3) := by decide +kernel
theorem dX8_refusalOfKeeping_19 : decode cX8_refusalOfKeeping 19 = .ok (.iload_n 2, 1) := by decide +kernel
theorem dX8_refusalOfKeeping_20 : decode cX8_refusalOfKeeping 20 = .ok (.iconst 4, 1) := by decide +kernel
theorem dX8_refusalOfKeeping_21 : decode cX8_refusalOfKeeping 21 = .ok (.if_icmp .lt 7, 3) := by decide +kernel
theorem dX8_refusalOfKeeping_24 : decode cX8_refusalOfKeeping 24 = .ok (.sipush (-1002), 3) := by decide +kernel
theorem dX8_refusalOfKeeping_27 : decode cX8_refusalOfKeeping 27 = .ok (.ireturn, 1) := by decide +kernel
theorem dX8_refusalOfKeeping_28 : decode cX8_refusalOfKeeping 28 = .ok (.aload_n 0, 1) := by decide +kernel
theorem dX8_refusalOfKeeping_29 : decode cX8_refusalOfKeeping 29 = .ok (.invokevirtual 189, 3) := by decide +kernel
theorem dX8_refusalOfKeeping_32 : decode cX8_refusalOfKeeping 32 = .ok (.ifCond .eq 9, 3) := by decide +kernel
theorem dX8_refusalOfKeeping_35 : decode cX8_refusalOfKeeping 35 = .ok (.sipush (-1003), 3) := by decide +kernel
theorem dX8_refusalOfKeeping_38 : decode cX8_refusalOfKeeping 38 = .ok (.goto 4, 3) := by decide +kernel
theorem dX8_refusalOfKeeping_41 : decode cX8_refusalOfKeeping 41 = .ok (.iconst 0, 1) := by decide +kernel
theorem dX8_refusalOfKeeping_42 : decode cX8_refusalOfKeeping 42 = .ok (.ireturn, 1) := by decide +kernel
set_option maxRecDepth 20000 in
theorem ggX8_numberOfKeeping_X1_inside : GoodIn wsX8_numberOfKeeping wsX1_inside := goodIn_r _ [7, 8, 46, 47, 48, 49, 50, 51, 52, 53, 54, 55, 56] (by decide +kernel) (by decide +kernel)
set_option maxRecDepth 20000 in
theorem gX8_numberOfKeeping_X1_inside_u215X5 : GoodIn wsX8_numberOfKeeping (va_wsU RX8 215 RX5 "PocketKeeper$Keeping" ⟨"PocketKeeper$Keeping", "inside", "(I)I"⟩ yX1_inside wsX1_inside) := goodIn_app (goodIn_of _ (by decide +kernel)) ggX8_numberOfKeeping_X1_inside
set_option maxRecDepth 20000 in
theorem gX8_numberOfKeeping_X1_inside_u215X7 : GoodIn wsX8_numberOfKeeping (va_wsU RX8 215 RX7 "PocketKeeper$Keeping" ⟨"PocketKeeper$Keeping", "inside", "(I)I"⟩ yX1_inside wsX1_inside) := goodIn_app (goodIn_of _ (by decide +kernel)) ggX8_numberOfKeeping_X1_inside
set_option maxRecDepth 20000 in
theorem ggX8_numberOfKeeping_X1_coming : GoodIn wsX8_numberOfKeeping wsX1_coming := goodIn_r _ [14, 15, 46, 47, 48, 49, 50, 51, 52, 53, 54, 55, 56] (by decide +kernel) (by decide +kernel)
set_option maxRecDepth 20000 in
theorem gX8_numberOfKeeping_X1_coming_u220X5 : GoodIn wsX8_numberOfKeeping (va_wsU RX8 220 RX5 "PocketKeeper$Keeping" ⟨"PocketKeeper$Keeping", "coming", "(I)I"⟩ yX1_coming wsX1_coming) := goodIn_app (goodIn_of _ (by decide +kernel)) ggX8_numberOfKeeping_X1_coming
set_option maxRecDepth 20000 in
theorem gX8_numberOfKeeping_X1_coming_u220X7 : GoodIn wsX8_numberOfKeeping (va_wsU RX8 220 RX7 "PocketKeeper$Keeping" ⟨"PocketKeeper$Keeping", "coming", "(I)I"⟩ yX1_coming wsX1_coming) := goodIn_app (goodIn_of _ (by decide +kernel)) ggX8_numberOfKeeping_X1_coming
set_option maxRecDepth 20000 in
theorem ggX8_numberOfKeeping_X1_going : GoodIn wsX8_numberOfKeeping wsX1_going := goodIn_r _ [21, 22, 46, 47, 48, 49, 50, 51, 52, 53, 54, 55, 56] (by decide +kernel) (by decide +kernel)
set_option maxRecDepth 20000 in
theorem gX8_numberOfKeeping_X1_going_u223X5 : GoodIn wsX8_numberOfKeeping (va_wsU RX8 223 RX5 "PocketKeeper$Keeping" ⟨"PocketKeeper$Keeping", "going", "(I)I"⟩ yX1_going wsX1_going) := goodIn_app (goodIn_of _ (by decide +kernel)) ggX8_numberOfKeeping_X1_going
set_option maxRecDepth 20000 in
theorem gX8_numberOfKeeping_X1_going_u223X7 : GoodIn wsX8_numberOfKeeping (va_wsU RX8 223 RX7 "PocketKeeper$Keeping" ⟨"PocketKeeper$Keeping", "going", "(I)I"⟩ yX1_going wsX1_going) := goodIn_app (goodIn_of _ (by decide +kernel)) ggX8_numberOfKeeping_X1_going
set_option maxRecDepth 20000 in
theorem ggX8_numberOfKeeping_X3_sizeOf : GoodIn wsX8_numberOfKeeping wsX3_sizeOf := goodIn_r _ [28, 29, 30, 31, 32, 33, 34, 35, 36, 57, 58] (by decide +kernel) (by decide +kernel)
set_option maxRecDepth 20000 in
theorem gX8_numberOfKeeping_X3_sizeOf : GoodIn wsX8_numberOfKeeping (wsV RX8 226 RX3 yX3_sizeOf wsX3_sizeOf) := goodIn_app (goodIn_of _ (by decide +kernel)) ggX8_numberOfKeeping_X3_sizeOf
theorem dX8_numberOfKeeping_0 : decode cX8_numberOfKeeping 0 = .ok (.iload_n 3, 1) := by decide +kernel
theorem dX8_numberOfKeeping_1 : decode cX8_numberOfKeeping 1 = .ok (.tableswitch 45 0 2 #[27, 33, 39], 27) := by decide +kernel
theorem dX8_numberOfKeeping_28 : decode cX8_numberOfKeeping 28 = .ok (.aload_n 1, 1) := by decide +kernel
theorem dX8_numberOfKeeping_29 : decode cX8_numberOfKeeping 29 = .ok (.iload_n 2, 1) := by decide +kernel
theorem dX8_numberOfKeeping_30 : decode cX8_numberOfKeeping 30 = .ok (.invokevirtual 215, 3) := by decide +kernel
theorem dX8_numberOfKeeping_33 : decode cX8_numberOfKeeping 33 = .ok (.ireturn, 1) := by decide +kernel
theorem dX8_numberOfKeeping_34 : decode cX8_numberOfKeeping 34 = .ok (.aload_n 1, 1) := by decide +kernel
theorem dX8_numberOfKeeping_35 : decode cX8_numberOfKeeping 35 = .ok (.iload_n 2, 1) := by decide +kernel
theorem dX8_numberOfKeeping_36 : decode cX8_numberOfKeeping 36 = .ok (.invokevirtual 220, 3) := by decide +kernel
theorem dX8_numberOfKeeping_39 : decode cX8_numberOfKeeping 39 = .ok (.ireturn, 1) := by decide +kernel
theorem dX8_numberOfKeeping_40 : decode cX8_numberOfKeeping 40 = .ok (.aload_n 1, 1) := by decide +kernel
theorem dX8_numberOfKeeping_41 : decode cX8_numberOfKeeping 41 = .ok (.iload_n 2, 1) := by decide +kernel
theorem dX8_numberOfKeeping_42 : decode cX8_numberOfKeeping 42 = .ok (.invokevirtual 223, 3) := by decide +kernel
theorem dX8_numberOfKeeping_45 : decode cX8_numberOfKeeping 45 = .ok (.ireturn, 1) := by decide +kernel
theorem dX8_numberOfKeeping_46 : decode cX8_numberOfKeeping 46 = .ok (.aload_n 0, 1) := by decide +kernel
theorem dX8_numberOfKeeping_47 : decode cX8_numberOfKeeping 47 = .ok (.getfield 19, 3) := by decide +kernel
theorem dX8_numberOfKeeping_50 : decode cX8_numberOfKeeping 50 = .ok (.aload_n 1, 1) := by decide +kernel
theorem dX8_numberOfKeeping_51 : decode cX8_numberOfKeeping 51 = .ok (.iload_n 2, 1) := by decide +kernel
theorem dX8_numberOfKeeping_52 : decode cX8_numberOfKeeping 52 = .ok (.invokevirtual 220, 3) := by decide +kernel
theorem dX8_numberOfKeeping_55 : decode cX8_numberOfKeeping 55 = .ok (.invokevirtual 226, 3) := by decide +kernel
theorem dX8_numberOfKeeping_58 : decode cX8_numberOfKeeping 58 = .ok (.ireturn, 1) := by decide +kernel
set_option maxRecDepth 20000 in
theorem ggX8_numberOfCost_X1_totalCost : GoodIn wsX8_numberOfCost wsX1_totalCost := goodIn_r _ [10, 11, 12, 13, 14, 15, 16, 17, 18, 19, 20, 21, 22, 23, 24, 25, 26, 27, 28, 29, 30, 31, 32, 61, 62, 63, 64, 65, 66, 67, 68, 69, 70, 71, 72, 73, 74, 75, 76, 77, 78, 79] (by decide +kernel) (by decide +kernel)
set_option maxRecDepth 20000 in
theorem gX8_numberOfCost_X1_totalCost_u229X5 : GoodIn wsX8_numberOfCost (va_wsU RX8 229 RX5 "PocketKeeper$Keeping" ⟨"PocketKeeper$Keeping", "totalCost", "()I"⟩ yX1_totalCost wsX1_totalCost) := goodIn_app (goodIn_of _ (by decide +kernel)) ggX8_numberOfCost_X1_totalCost
set_option maxRecDepth 20000 in
theorem gX8_numberOfCost_X1_totalCost_u229X7 : GoodIn wsX8_numberOfCost (va_wsU RX8 229 RX7 "PocketKeeper$Keeping" ⟨"PocketKeeper$Keeping", "totalCost", "()I"⟩ yX1_totalCost wsX1_totalCost) := goodIn_app (goodIn_of _ (by decide +kernel)) ggX8_numberOfCost_X1_totalCost
set_option maxRecDepth 20000 in
theorem ggX8_numberOfCost_X6_allNeeds : GoodIn wsX8_numberOfCost wsX6_allNeeds := goodIn_r _ [37, 19, 38, 39, 40, 17, 41, 42, 43, 72, 73, 74, 75, 76, 77] (by decide +kernel) (by decide +kernel)
set_option maxRecDepth 20000 in
theorem gX8_numberOfCost_X6_allNeeds : GoodIn wsX8_numberOfCost (wsV RX8 232 RX6 yX6_allNeeds wsX6_allNeeds) := goodIn_app (goodIn_of _ (by decide +kernel)) ggX8_numberOfCost_X6_allNeeds
set_option maxRecDepth 20000 in
theorem ggX8_numberOfCost_X3_sizeOf : GoodIn wsX8_numberOfCost wsX3_sizeOf := goodIn_r _ [24, 25, 26, 27, 28, 29, 30, 31, 32, 78, 79] (by decide +kernel) (by decide +kernel)
set_option maxRecDepth 20000 in
theorem gX8_numberOfCost_X3_sizeOf : GoodIn wsX8_numberOfCost (wsV RX8 226 RX3 yX3_sizeOf wsX3_sizeOf) := goodIn_app (goodIn_of _ (by decide +kernel)) ggX8_numberOfCost_X3_sizeOf
set_option maxRecDepth 20000 in
theorem ggX8_numberOfCost_X1_totalComing : GoodIn wsX8_numberOfCost wsX1_totalComing := goodIn_r _ [49, 11, 13, 14, 15, 16, 17, 18, 19, 50, 27, 28, 29, 30, 31, 32, 61, 62, 63, 64, 65, 66, 67, 68, 69, 70, 71, 72, 73, 74, 75, 76, 77] (by decide +kernel) (by decide +kernel)
set_option maxRecDepth 20000 in
theorem gX8_numberOfCost_X1_totalComing_u235X5 : GoodIn wsX8_numberOfCost (va_wsU RX8 235 RX5 "PocketKeeper$Keeping" ⟨"PocketKeeper$Keeping", "totalComing", "()I"⟩ yX1_totalComing wsX1_totalComing) := goodIn_app (goodIn_of _ (by decide +kernel)) ggX8_numberOfCost_X1_totalComing
set_option maxRecDepth 20000 in
theorem gX8_numberOfCost_X1_totalComing_u235X7 : GoodIn wsX8_numberOfCost (va_wsU RX8 235 RX7 "PocketKeeper$Keeping" ⟨"PocketKeeper$Keeping", "totalComing", "()I"⟩ yX1_totalComing wsX1_totalComing) := goodIn_app (goodIn_of _ (by decide +kernel)) ggX8_numberOfCost_X1_totalComing
theorem dX8_numberOfCost_0 : decode cX8_numberOfCost 0 = .ok (.iload_n 1, 1) := by decide +kernel
theorem dX8_numberOfCost_1 : decode cX8_numberOfCost 1 = .ok (.tableswitch 70 0 3 #[31, 39, 47, 62], 31) := by decide +kernel
theorem dX8_numberOfCost_32 : decode cX8_numberOfCost 32 = .ok (.aload_n 0, 1) := by decide +kernel
theorem dX8_numberOfCost_33 : decode cX8_numberOfCost 33 = .ok (.getfield 42, 3) := by decide +kernel
theorem dX8_numberOfCost_36 : decode cX8_numberOfCost 36 = .ok (.invokevirtual 229, 3) := by decide +kernel
theorem dX8_numberOfCost_39 : decode cX8_numberOfCost 39 = .ok (.ireturn, 1) := by decide +kernel
theorem dX8_numberOfCost_40 : decode cX8_numberOfCost 40 = .ok (.aload_n 0, 1) := by decide +kernel
theorem dX8_numberOfCost_41 : decode cX8_numberOfCost 41 = .ok (.getfield 51, 3) := by decide +kernel
theorem dX8_numberOfCost_44 : decode cX8_numberOfCost 44 = .ok (.invokevirtual 229, 3) := by decide +kernel
theorem dX8_numberOfCost_47 : decode cX8_numberOfCost 47 = .ok (.ireturn, 1) := by decide +kernel
theorem dX8_numberOfCost_48 : decode cX8_numberOfCost 48 = .ok (.aload_n 0, 1) := by decide +kernel
theorem dX8_numberOfCost_49 : decode cX8_numberOfCost 49 = .ok (.getfield 19, 3) := by decide +kernel
theorem dX8_numberOfCost_52 : decode cX8_numberOfCost 52 = .ok (.aload_n 0, 1) := by decide +kernel
theorem dX8_numberOfCost_53 : decode cX8_numberOfCost 53 = .ok (.getfield 26, 3) := by decide +kernel
theorem dX8_numberOfCost_56 : decode cX8_numberOfCost 56 = .ok (.invokevirtual 232, 3) := by decide +kernel
theorem dX8_numberOfCost_59 : decode cX8_numberOfCost 59 = .ok (.invokevirtual 226, 3) := by decide +kernel
theorem dX8_numberOfCost_62 : decode cX8_numberOfCost 62 = .ok (.ireturn, 1) := by decide +kernel
theorem dX8_numberOfCost_63 : decode cX8_numberOfCost 63 = .ok (.aload_n 0, 1) := by decide +kernel
theorem dX8_numberOfCost_64 : decode cX8_numberOfCost 64 = .ok (.getfield 42, 3) := by decide +kernel
theorem dX8_numberOfCost_67 : decode cX8_numberOfCost 67 = .ok (.invokevirtual 235, 3) := by decide +kernel
theorem dX8_numberOfCost_70 : decode cX8_numberOfCost 70 = .ok (.ireturn, 1) := by decide +kernel
theorem dX8_numberOfCost_71 : decode cX8_numberOfCost 71 = .ok (.aload_n 0, 1) := by decide +kernel
theorem dX8_numberOfCost_72 : decode cX8_numberOfCost 72 = .ok (.getfield 51, 3) := by decide +kernel
theorem dX8_numberOfCost_75 : decode cX8_numberOfCost 75 = .ok (.invokevirtual 235, 3) := by decide +kernel
theorem dX8_numberOfCost_78 : decode cX8_numberOfCost 78 = .ok (.ireturn, 1) := by decide +kernel
set_option maxRecDepth 20000 in
theorem ggX8_bitsOfMean_X1_totalCost : GoodIn wsX8_bitsOfMean wsX1_totalCost := goodIn_r _ [8, 9, 10, 11, 12, 13, 14, 15, 16, 17, 18, 19, 20, 21, 22, 23, 24, 25, 26, 27, 28, 29, 30, 49, 50, 51, 52, 53, 54, 55, 56, 57, 58, 59, 60, 61, 62, 63, 64, 65, 66, 67] (by decide +kernel) (by decide +kernel)
set_option maxRecDepth 20000 in
theorem gX8_bitsOfMean_X1_totalCost_u229X5 : GoodIn wsX8_bitsOfMean (va_wsU RX8 229 RX5 "PocketKeeper$Keeping" ⟨"PocketKeeper$Keeping", "totalCost", "()I"⟩ yX1_totalCost wsX1_totalCost) := goodIn_app (goodIn_of _ (by decide +kernel)) ggX8_bitsOfMean_X1_totalCost
set_option maxRecDepth 20000 in
theorem gX8_bitsOfMean_X1_totalCost_u229X7 : GoodIn wsX8_bitsOfMean (va_wsU RX8 229 RX7 "PocketKeeper$Keeping" ⟨"PocketKeeper$Keeping", "totalCost", "()I"⟩ yX1_totalCost wsX1_totalCost) := goodIn_app (goodIn_of _ (by decide +kernel)) ggX8_bitsOfMean_X1_totalCost
set_option maxRecDepth 20000 in
theorem ggX8_bitsOfMean_X6_size : GoodIn wsX8_bitsOfMean wsX6_size := goodIn_r _ [16, 17, 60, 61, 62, 63, 64, 65] (by decide +kernel) (by decide +kernel)
set_option maxRecDepth 20000 in
theorem gX8_bitsOfMean_X6_size : GoodIn wsX8_bitsOfMean (wsV RX8 88 RX6 yX6_size wsX6_size) := goodIn_app (goodIn_of _ (by decide +kernel)) ggX8_bitsOfMean_X6_size
set_option maxRecDepth 20000 in
theorem ggX8_bitsOfMean_X8_bitsOfDouble : GoodIn wsX8_bitsOfMean wsX8_bitsOfDouble := goodIn_r _ [36, 37, 38, 39] (by decide +kernel) (by decide +kernel)
set_option maxRecDepth 20000 in
theorem gX8_bitsOfMean_X8_bitsOfDouble : GoodIn wsX8_bitsOfMean (va_wsS RX8 238 yX8_bitsOfDouble wsX8_bitsOfDouble) := goodIn_app (goodIn_of _ (by decide +kernel)) ggX8_bitsOfMean_X8_bitsOfDouble
theorem dX8_bitsOfMean_0 : decode cX8_bitsOfMean 0 = .ok (.aload_n 0, 1) := by decide +kernel
theorem dX8_bitsOfMean_1 : decode cX8_bitsOfMean 1 = .ok (.getfield 42, 3) := by decide +kernel
theorem dX8_bitsOfMean_4 : decode cX8_bitsOfMean 4 = .ok (.invokevirtual 229, 3) := by decide +kernel
theorem dX8_bitsOfMean_7 : decode cX8_bitsOfMean 7 = .ok (.i2d, 1) := by decide +kernel
theorem dX8_bitsOfMean_8 : decode cX8_bitsOfMean 8 = .ok (.aload_n 0, 1) := by decide +kernel
theorem dX8_bitsOfMean_9 : decode cX8_bitsOfMean 9 = .ok (.getfield 26, 3) := by decide +kernel
theorem dX8_bitsOfMean_12 : decode cX8_bitsOfMean 12 = .ok (.invokevirtual 88, 3) := by decide +kernel
theorem dX8_bitsOfMean_15 : decode cX8_bitsOfMean 15 = .ok (.i2d, 1) := by decide +kernel
theorem dX8_bitsOfMean_16 : decode cX8_bitsOfMean 16 = .ok (.ddiv, 1) := by decide +kernel
theorem dX8_bitsOfMean_17 : decode cX8_bitsOfMean 17 = .ok (.invokestatic 238, 3) := by decide +kernel
theorem dX8_bitsOfMean_20 : decode cX8_bitsOfMean 20 = .ok (.lreturn, 1) := by decide +kernel
set_option maxRecDepth 20000 in
theorem ggX8_bitsOfRatio_X1_totalCost : GoodIn wsX8_bitsOfRatio wsX1_totalCost := goodIn_r _ [8, 9, 10, 11, 12, 13, 14, 15, 16, 17, 18, 19, 20, 21, 22, 23, 24, 25, 26, 27, 28, 29, 30, 46, 47, 48, 49, 50, 51, 52, 53, 54, 55, 56, 57, 58, 59, 60, 61, 62, 63, 64] (by decide +kernel) (by decide +kernel)
set_option maxRecDepth 20000 in
theorem gX8_bitsOfRatio_X1_totalCost_u229X5 : GoodIn wsX8_bitsOfRatio (va_wsU RX8 229 RX5 "PocketKeeper$Keeping" ⟨"PocketKeeper$Keeping", "totalCost", "()I"⟩ yX1_totalCost wsX1_totalCost) := goodIn_app (goodIn_of _ (by decide +kernel)) ggX8_bitsOfRatio_X1_totalCost
set_option maxRecDepth 20000 in
theorem gX8_bitsOfRatio_X1_totalCost_u229X7 : GoodIn wsX8_bitsOfRatio (va_wsU RX8 229 RX7 "PocketKeeper$Keeping" ⟨"PocketKeeper$Keeping", "totalCost", "()I"⟩ yX1_totalCost wsX1_totalCost) := goodIn_app (goodIn_of _ (by decide +kernel)) ggX8_bitsOfRatio_X1_totalCost
set_option maxRecDepth 20000 in
theorem ggX8_bitsOfRatio_X8_bitsOfFloat : GoodIn wsX8_bitsOfRatio wsX8_bitsOfFloat := goodIn_r _ [35, 36] (by decide +kernel) (by decide +kernel)
set_option maxRecDepth 20000 in
theorem gX8_bitsOfRatio_X8_bitsOfFloat : GoodIn wsX8_bitsOfRatio (va_wsS RX8 242 yX8_bitsOfFloat wsX8_bitsOfFloat) := goodIn_app (goodIn_of _ (by decide +kernel)) ggX8_bitsOfRatio_X8_bitsOfFloat
theorem dX8_bitsOfRatio_0 : decode cX8_bitsOfRatio 0 = .ok (.aload_n 0, 1) := by decide +kernel
theorem dX8_bitsOfRatio_1 : decode cX8_bitsOfRatio 1 = .ok (.getfield 42, 3) := by decide +kernel
theorem dX8_bitsOfRatio_4 : decode cX8_bitsOfRatio 4 = .ok (.invokevirtual 229, 3) := by decide +kernel
theorem dX8_bitsOfRatio_7 : decode cX8_bitsOfRatio 7 = .ok (.i2f, 1) := by decide +kernel
theorem dX8_bitsOfRatio_8 : decode cX8_bitsOfRatio 8 = .ok (.aload_n 0, 1) := by decide +kernel
theorem dX8_bitsOfRatio_9 : decode cX8_bitsOfRatio 9 = .ok (.getfield 51, 3) := by decide +kernel
theorem dX8_bitsOfRatio_12 : decode cX8_bitsOfRatio 12 = .ok (.invokevirtual 229, 3) := by decide +kernel
theorem dX8_bitsOfRatio_15 : decode cX8_bitsOfRatio 15 = .ok (.i2f, 1) := by decide +kernel
theorem dX8_bitsOfRatio_16 : decode cX8_bitsOfRatio 16 = .ok (.fdiv, 1) := by decide +kernel
theorem dX8_bitsOfRatio_17 : decode cX8_bitsOfRatio 17 = .ok (.invokestatic 242, 3) := by decide +kernel
theorem dX8_bitsOfRatio_20 : decode cX8_bitsOfRatio 20 = .ok (.ireturn, 1) := by decide +kernel
set_option maxRecDepth 20000 in
theorem ggX8_numberOfExchange_X0_isFound : GoodIn wsX8_numberOfExchange wsX0_isFound := goodIn_r _ [6, 7, 32, 33, 34, 35, 36, 37] (by decide +kernel) (by decide +kernel)
set_option maxRecDepth 20000 in
theorem gX8_numberOfExchange_X0_isFound : GoodIn wsX8_numberOfExchange (wsV RX8 171 RX0 yX0_isFound wsX0_isFound) := goodIn_app (goodIn_of _ (by decide +kernel)) ggX8_numberOfExchange_X0_isFound
set_option maxRecDepth 20000 in
theorem ggX8_numberOfExchange_X0_first : GoodIn wsX8_numberOfExchange wsX0_first := goodIn_r _ [11, 12, 32, 33, 34, 35, 36, 37] (by decide +kernel) (by decide +kernel)
set_option maxRecDepth 20000 in
theorem gX8_numberOfExchange_X0_first : GoodIn wsX8_numberOfExchange (wsV RX8 174 RX0 yX0_first wsX0_first) := goodIn_app (goodIn_of _ (by decide +kernel)) ggX8_numberOfExchange_X0_first
set_option maxRecDepth 20000 in
theorem ggX8_numberOfExchange_X0_second : GoodIn wsX8_numberOfExchange wsX0_second := goodIn_r _ [16, 17, 32, 33, 34, 35, 36, 37] (by decide +kernel) (by decide +kernel)
set_option maxRecDepth 20000 in
theorem gX8_numberOfExchange_X0_second : GoodIn wsX8_numberOfExchange (wsV RX8 177 RX0 yX0_second wsX0_second) := goodIn_app (goodIn_of _ (by decide +kernel)) ggX8_numberOfExchange_X0_second
set_option maxRecDepth 20000 in
theorem ggX8_numberOfExchange_X0_leastThen : GoodIn wsX8_numberOfExchange wsX0_leastThen := goodIn_r _ [21, 22, 32, 33, 34, 35, 36, 37] (by decide +kernel) (by decide +kernel)
set_option maxRecDepth 20000 in
theorem gX8_numberOfExchange_X0_leastThen : GoodIn wsX8_numberOfExchange (wsV RX8 180 RX0 yX0_leastThen wsX0_leastThen) := goodIn_app (goodIn_of _ (by decide +kernel)) ggX8_numberOfExchange_X0_leastThen
theorem dX8_numberOfExchange_0 : decode cX8_numberOfExchange 0 = .ok (.aload_n 0, 1) := by decide +kernel
theorem dX8_numberOfExchange_1 : decode cX8_numberOfExchange 1 = .ok (.getfield 59, 3) := by decide +kernel
theorem dX8_numberOfExchange_4 : decode cX8_numberOfExchange 4 = .ok (.invokevirtual 171, 3) := by decide +kernel
theorem dX8_numberOfExchange_7 : decode cX8_numberOfExchange 7 = .ok (.ifCond .ne 5, 3) := by decide +kernel
theorem dX8_numberOfExchange_10 : decode cX8_numberOfExchange 10 = .ok (.iconst (-1), 1) := by decide +kernel
theorem dX8_numberOfExchange_11 : decode cX8_numberOfExchange 11 = .ok (.ireturn, 1) := by decide +kernel
theorem dX8_numberOfExchange_12 : decode cX8_numberOfExchange 12 = .ok (.iload_n 1, 1) := by decide +kernel
theorem dX8_numberOfExchange_13 : decode cX8_numberOfExchange 13 = .ok (.lookupswitch 43 #[(0, 27), (1, 35)], 27) := by decide +kernel
theorem dX8_numberOfExchange_40 : decode cX8_numberOfExchange 40 = .ok (.aload_n 0, 1) := by decide +kernel
theorem dX8_numberOfExchange_41 : decode cX8_numberOfExchange 41 = .ok (.getfield 59, 3) := by decide +kernel
theorem dX8_numberOfExchange_44 : decode cX8_numberOfExchange 44 = .ok (.invokevirtual 174, 3) := by decide +kernel
theorem dX8_numberOfExchange_47 : decode cX8_numberOfExchange 47 = .ok (.ireturn, 1) := by decide +kernel
theorem dX8_numberOfExchange_48 : decode cX8_numberOfExchange 48 = .ok (.aload_n 0, 1) := by decide +kernel
theorem dX8_numberOfExchange_49 : decode cX8_numberOfExchange 49 = .ok (.getfield 59, 3) := by decide +kernel
theorem dX8_numberOfExchange_52 : decode cX8_numberOfExchange 52 = .ok (.invokevirtual 177, 3) := by decide +kernel
theorem dX8_numberOfExchange_55 : decode cX8_numberOfExchange 55 = .ok (.ireturn, 1) := by decide +kernel
theorem dX8_numberOfExchange_56 : decode cX8_numberOfExchange 56 = .ok (.aload_n 0, 1) := by decide +kernel
theorem dX8_numberOfExchange_57 : decode cX8_numberOfExchange 57 = .ok (.getfield 59, 3) := by decide +kernel
theorem dX8_numberOfExchange_60 : decode cX8_numberOfExchange 60 = .ok (.invokevirtual 180, 3) := by decide +kernel
theorem dX8_numberOfExchange_63 : decode cX8_numberOfExchange 63 = .ok (.ireturn, 1) := by decide +kernel
set_option maxRecDepth 20000 in
theorem ggX8_changeOrder_X6_exchange : GoodIn wsX8_changeOrder wsX6_exchange := goodIn_r _ [6, 7, 29, 30, 31, 32, 33, 34] (by decide +kernel) (by decide +kernel)
set_option maxRecDepth 20000 in
theorem gX8_changeOrder_X6_exchange : GoodIn wsX8_changeOrder (wsV RX8 246 RX6 yX6_exchange wsX6_exchange) := goodIn_app (goodIn_of _ (by decide +kernel)) ggX8_changeOrder_X6_exchange
set_option maxRecDepth 20000 in
theorem ggX8_changeOrder_X6_countChange : GoodIn wsX8_changeOrder wsX6_countChange := goodIn_r _ [11, 12, 29, 30, 31, 32, 33, 34] (by decide +kernel) (by decide +kernel)
set_option maxRecDepth 20000 in
theorem gX8_changeOrder_X6_countChange : GoodIn wsX8_changeOrder (wsV RX8 248 RX6 yX6_countChange wsX6_countChange) := goodIn_app (goodIn_of _ (by decide +kernel)) ggX8_changeOrder_X6_countChange
set_option maxRecDepth 20000 in
theorem ggX8_changeOrder_X8_forgetKeepings : GoodIn wsX8_changeOrder wsX8_forgetKeepings := goodIn_r _ [17, 18, 19, 20, 21, 22, 23, 24, 25, 26, 27, 28] (by decide +kernel) (by decide +kernel)
set_option maxRecDepth 20000 in
theorem gX8_changeOrder_X8_forgetKeepings : GoodIn wsX8_changeOrder (wsV RX8 85 RX8 yX8_forgetKeepings wsX8_forgetKeepings) := goodIn_app (goodIn_of _ (by decide +kernel)) ggX8_changeOrder_X8_forgetKeepings
theorem dX8_changeOrder_0 : decode cX8_changeOrder 0 = .ok (.aload_n 0, 1) := by decide +kernel
theorem dX8_changeOrder_1 : decode cX8_changeOrder 1 = .ok (.getfield 26, 3) := by decide +kernel
theorem dX8_changeOrder_4 : decode cX8_changeOrder 4 = .ok (.iload_n 1, 1) := by decide +kernel
theorem dX8_changeOrder_5 : decode cX8_changeOrder 5 = .ok (.iload_n 2, 1) := by decide +kernel
theorem dX8_changeOrder_6 : decode cX8_changeOrder 6 = .ok (.invokevirtual 246, 3) := by decide +kernel
theorem dX8_changeOrder_9 : decode cX8_changeOrder 9 = .ok (.aload_n 0, 1) := by decide +kernel
theorem dX8_changeOrder_10 : decode cX8_changeOrder 10 = .ok (.getfield 26, 3) := by decide +kernel
theorem dX8_changeOrder_13 : decode cX8_changeOrder 13 = .ok (.invokevirtual 248, 3) := by decide +kernel
theorem dX8_changeOrder_16 : decode cX8_changeOrder 16 = .ok (.aload_n 0, 1) := by decide +kernel
theorem dX8_changeOrder_17 : decode cX8_changeOrder 17 = .ok (.invokevirtual 85, 3) := by decide +kernel
theorem dX8_changeOrder_20 : decode cX8_changeOrder 20 = .ok (.return_, 1) := by decide +kernel
set_option maxRecDepth 20000 in
theorem ggX8_canKeep_X6_size : GoodIn wsX8_canKeep wsX6_size := goodIn_r _ [6, 7, 47, 48, 49, 50, 51, 52] (by decide +kernel) (by decide +kernel)
set_option maxRecDepth 20000 in
theorem gX8_canKeep_X6_size : GoodIn wsX8_canKeep (wsV RX8 88 RX6 yX6_size wsX6_size) := goodIn_app (goodIn_of _ (by decide +kernel)) ggX8_canKeep_X6_size
set_option maxRecDepth 20000 in
theorem ggX8_canKeep_X8_isTooBig : GoodIn wsX8_canKeep wsX8_isTooBig := goodIn_r _ [12, 1, 13, 2, 3, 4, 5, 6, 7, 14, 15, 16, 17, 18, 19, 20, 21, 22, 23, 24, 25, 26, 27, 28, 29, 30, 31, 32, 33, 34, 35, 36, 37, 38, 39, 40, 41, 42, 43, 44, 45, 46, 47, 48, 49, 50, 51, 52, 53, 54] (by decide +kernel) (by decide +kernel)
set_option maxRecDepth 20000 in
theorem gX8_canKeep_X8_isTooBig : GoodIn wsX8_canKeep (wsV RX8 189 RX8 yX8_isTooBig wsX8_isTooBig) := goodIn_app (goodIn_of _ (by decide +kernel)) ggX8_canKeep_X8_isTooBig
theorem dX8_canKeep_0 : decode cX8_canKeep 0 = .ok (.aload_n 0, 1) := by decide +kernel
theorem dX8_canKeep_1 : decode cX8_canKeep 1 = .ok (.getfield 26, 3) := by decide +kernel
theorem dX8_canKeep_4 : decode cX8_canKeep 4 = .ok (.invokevirtual 88, 3) := by decide +kernel
theorem dX8_canKeep_7 : decode cX8_canKeep 7 = .ok (.ifCond .le 14, 3) := by decide +kernel
theorem dX8_canKeep_10 : decode cX8_canKeep 10 = .ok (.aload_n 0, 1) := by decide +kernel
theorem dX8_canKeep_11 : decode cX8_canKeep 11 = .ok (.invokevirtual 189, 3) := by decide +kernel
theorem dX8_canKeep_14 : decode cX8_canKeep 14 = .ok (.ifCond .ne 7, 3) := by decide +kernel
theorem dX8_canKeep_17 : decode cX8_canKeep 17 = .ok (.iconst 1, 1) := by decide +kernel
theorem dX8_canKeep_18 : decode cX8_canKeep 18 = .ok (.goto 4, 3) := by decide +kernel
theorem dX8_canKeep_21 : decode cX8_canKeep 21 = .ok (.iconst 0, 1) := by decide +kernel
theorem dX8_canKeep_22 : decode cX8_canKeep 22 = .ok (.ireturn, 1) := by decide +kernel
set_option maxRecDepth 20000 in
theorem ggX8_isTooBig_X6_size : GoodIn wsX8_isTooBig wsX6_size := goodIn_r _ [7, 8, 42, 43, 44, 45, 46, 47] (by decide +kernel) (by decide +kernel)
set_option maxRecDepth 20000 in
theorem gX8_isTooBig_X6_size : GoodIn wsX8_isTooBig (wsV RX8 88 RX6 yX6_size wsX6_size) := goodIn_app (goodIn_of _ (by decide +kernel)) ggX8_isTooBig_X6_size
set_option maxRecDepth 20000 in
theorem ggX8_isTooBig_X6_needs : GoodIn wsX8_isTooBig wsX6_needs := goodIn_r _ [12, 13, 14, 42, 43, 44, 45, 46, 47] (by decide +kernel) (by decide +kernel)
set_option maxRecDepth 20000 in
theorem gX8_isTooBig_X6_needs : GoodIn wsX8_isTooBig (wsV RX8 130 RX6 yX6_needs wsX6_needs) := goodIn_app (goodIn_of _ (by decide +kernel)) ggX8_isTooBig_X6_needs
set_option maxRecDepth 20000 in
theorem ggX8_isTooBig_X3_holds : GoodIn wsX8_isTooBig wsX3_holds := goodIn_r _ [19, 20, 21, 22, 23, 18, 24, 25, 26, 27, 28, 29, 30, 31, 32, 48, 49] (by decide +kernel) (by decide +kernel)
set_option maxRecDepth 20000 in
theorem gX8_isTooBig_X3_holds : GoodIn wsX8_isTooBig (wsV RX8 251 RX3 yX3_holds wsX3_holds) := goodIn_app (goodIn_of _ (by decide +kernel)) ggX8_isTooBig_X3_holds
theorem dX8_isTooBig_0 : decode cX8_isTooBig 0 = .ok (.iconst 0, 1) := by decide +kernel
theorem dX8_isTooBig_1 : decode cX8_isTooBig 1 = .ok (.istore_n 1, 1) := by decide +kernel
theorem dX8_isTooBig_2 : decode cX8_isTooBig 2 = .ok (.iload_n 1, 1) := by decide +kernel
theorem dX8_isTooBig_3 : decode cX8_isTooBig 3 = .ok (.aload_n 0, 1) := by decide +kernel
theorem dX8_isTooBig_4 : decode cX8_isTooBig 4 = .ok (.getfield 26, 3) := by decide +kernel
theorem dX8_isTooBig_7 : decode cX8_isTooBig 7 = .ok (.invokevirtual 88, 3) := by decide +kernel
theorem dX8_isTooBig_10 : decode cX8_isTooBig 10 = .ok (.if_icmp .ge 29, 3) := by decide +kernel
theorem dX8_isTooBig_13 : decode cX8_isTooBig 13 = .ok (.aload_n 0, 1) := by decide +kernel
theorem dX8_isTooBig_14 : decode cX8_isTooBig 14 = .ok (.getfield 19, 3) := by decide +kernel
theorem dX8_isTooBig_17 : decode cX8_isTooBig 17 = .ok (.aload_n 0, 1) := by decide +kernel
theorem dX8_isTooBig_18 : decode cX8_isTooBig 18 = .ok (.getfield 26, 3) := by decide +kernel
theorem dX8_isTooBig_21 : decode cX8_isTooBig 21 = .ok (.iload_n 1, 1) := by decide +kernel
theorem dX8_isTooBig_22 : decode cX8_isTooBig 22 = .ok (.invokevirtual 130, 3) := by decide +kernel
theorem dX8_isTooBig_25 : decode cX8_isTooBig 25 = .ok (.invokevirtual 251, 3) := by decide +kernel
theorem dX8_isTooBig_28 : decode cX8_isTooBig 28 = .ok (.ifCond .ne 5, 3) := by decide +kernel
theorem dX8_isTooBig_31 : decode cX8_isTooBig 31 = .ok (.iconst 1, 1) := by decide +kernel
theorem dX8_isTooBig_32 : decode cX8_isTooBig 32 = .ok (.ireturn, 1) := by decide +kernel
theorem dX8_isTooBig_33 : decode cX8_isTooBig 33 = .ok (.iinc 1 1, 3) := by decide +kernel
theorem dX8_isTooBig_36 : decode cX8_isTooBig 36 = .ok (.goto (-34), 3) := by decide +kernel
theorem dX8_isTooBig_39 : decode cX8_isTooBig 39 = .ok (.iconst 0, 1) := by decide +kernel
theorem dX8_isTooBig_40 : decode cX8_isTooBig 40 = .ok (.ireturn, 1) := by decide +kernel
theorem dX8_forgetKeepings_0 : decode cX8_forgetKeepings 0 = .ok (.aload_n 0, 1) := by decide +kernel
theorem dX8_forgetKeepings_1 : decode cX8_forgetKeepings 1 = .ok (.iconst 0, 1) := by decide +kernel
theorem dX8_forgetKeepings_2 : decode cX8_forgetKeepings 2 = .ok (.putfield 254, 3) := by decide +kernel
theorem dX8_forgetKeepings_5 : decode cX8_forgetKeepings 5 = .ok (.aload_n 0, 1) := by decide +kernel
theorem dX8_forgetKeepings_6 : decode cX8_forgetKeepings 6 = .ok (.iconst 0, 1) := by decide +kernel
theorem dX8_forgetKeepings_7 : decode cX8_forgetKeepings 7 = .ok (.putfield 258, 3) := by decide +kernel
theorem dX8_forgetKeepings_10 : decode cX8_forgetKeepings 10 = .ok (.return_, 1) := by decide +kernel
set_option maxRecDepth 20000 in
theorem ggX8_standKeepings_X1_keepAll : GoodIn wsX8_standKeepings wsX1_keepAll := goodIn_r _ [10, 11, 12, 13, 14, 15, 16, 17, 18, 19, 20, 21, 22, 23, 24, 25, 26, 27, 28, 29, 30, 31, 32, 33, 34, 35, 36, 37, 38, 39, 40, 41, 42, 43, 44, 45, 46, 47, 48, 49, 50, 51, 52, 53, 54, 55, 56, 57, 58, 59, 60, 61, 62, 63, 64, 65, 66, 67, 68, 69, 70, 71, 72, 73, 74, 75, 76, 77, 78, 79, 80, 81, 82, 83, 84, 85, 86, 87, 88, 89, 90, 91, 92, 93, 94, 95, 96, 97, 98, 99, 100, 101, 102, 145, 146, 147, 148, 149, 150, 151, 152, 153, 154, 155, 156, 157, 158, 159, 160, 161, 162, 163, 164, 165, 166, 167] (by decide +kernel) (by decide +kernel)
set_option maxRecDepth 20000 in
theorem gX8_standKeepings_X1_keepAll_u261X5 : GoodIn wsX8_standKeepings (va_wsU RX8 261 RX5 "PocketKeeper$Keeping" ⟨"PocketKeeper$Keeping", "keepAll", "()V"⟩ yX1_keepAll wsX1_keepAll) := goodIn_app (goodIn_of _ (by decide +kernel)) ggX8_standKeepings_X1_keepAll
set_option maxRecDepth 20000 in
theorem gX8_standKeepings_X1_keepAll_u261X7 : GoodIn wsX8_standKeepings (va_wsU RX8 261 RX7 "PocketKeeper$Keeping" ⟨"PocketKeeper$Keeping", "keepAll", "()V"⟩ yX1_keepAll wsX1_keepAll) := goodIn_app (goodIn_of _ (by decide +kernel)) ggX8_standKeepings_X1_keepAll
set_option maxRecDepth 20000 in
theorem ggX8_standKeepings_X2_least : GoodIn wsX8_standKeepings wsX2_least := goodIn_r _ [107, 108, 109, 40, 110, 111, 112, 37, 113, 39, 114, 16, 17, 18, 19, 20, 115, 22, 23, 24, 25, 26, 116, 100, 101, 102, 93, 117, 118, 119, 120, 44, 45, 46, 47, 48, 49, 50, 51, 52, 53, 41, 42, 43, 121, 67, 68, 69, 70, 71, 72, 73, 74, 75, 76, 77, 122, 123, 124, 125, 126, 127, 128, 129, 130, 131, 132, 133, 134, 135, 82, 83, 84, 54, 55, 56, 162, 163, 164, 165, 156, 157, 158, 159, 160, 161, 166, 167] (by decide +kernel) (by decide +kernel)
set_option maxRecDepth 20000 in
theorem gX8_standKeepings_X2_least : GoodIn wsX8_standKeepings (wsV RX8 264 RX2 yX2_least wsX2_least) := goodIn_app (goodIn_of _ (by decide +kernel)) ggX8_standKeepings_X2_least
theorem dX8_standKeepings_0 : decode cX8_standKeepings 0 = .ok (.aload_n 0, 1) := by decide +kernel
theorem dX8_standKeepings_1 : decode cX8_standKeepings 1 = .ok (.getfield 254, 3) := by decide +kernel
theorem dX8_standKeepings_4 : decode cX8_standKeepings 4 = .ok (.ifCond .ne 30, 3) := by decide +kernel
theorem dX8_standKeepings_7 : decode cX8_standKeepings 7 = .ok (.aload_n 0, 1) := by decide +kernel
theorem dX8_standKeepings_8 : decode cX8_standKeepings 8 = .ok (.getfield 42, 3) := by decide +kernel
theorem dX8_standKeepings_11 : decode cX8_standKeepings 11 = .ok (.invokevirtual 261, 3) := by decide +kernel
theorem dX8_standKeepings_14 : decode cX8_standKeepings 14 = .ok (.aload_n 0, 1) := by decide +kernel
theorem dX8_standKeepings_15 : decode cX8_standKeepings 15 = .ok (.getfield 35, 3) := by decide +kernel
theorem dX8_standKeepings_18 : decode cX8_standKeepings 18 = .ok (.invokevirtual 264, 3) := by decide +kernel
theorem dX8_standKeepings_21 : decode cX8_standKeepings 21 = .ok (.pop, 1) := by decide +kernel
theorem dX8_standKeepings_22 : decode cX8_standKeepings 22 = .ok (.aload_n 0, 1) := by decide +kernel
theorem dX8_standKeepings_23 : decode cX8_standKeepings 23 = .ok (.getfield 51, 3) := by decide +kernel
theorem dX8_standKeepings_26 : decode cX8_standKeepings 26 = .ok (.invokevirtual 261, 3) := by decide +kernel
theorem dX8_standKeepings_29 : decode cX8_standKeepings 29 = .ok (.aload_n 0, 1) := by decide +kernel
theorem dX8_standKeepings_30 : decode cX8_standKeepings 30 = .ok (.iconst 1, 1) := by decide +kernel
theorem dX8_standKeepings_31 : decode cX8_standKeepings 31 = .ok (.putfield 254, 3) := by decide +kernel
theorem dX8_standKeepings_34 : decode cX8_standKeepings 34 = .ok (.return_, 1) := by decide +kernel
set_option maxRecDepth 20000 in
theorem ggX8_standExchange_X0_find : GoodIn wsX8_standExchange wsX0_find := goodIn_r _ [7, 8, 9, 10, 11, 12, 13, 14, 15, 16, 17, 18, 19, 20, 21, 22, 23, 24, 25, 26, 27, 28, 29, 30, 31, 32, 33, 34, 35, 36, 37, 38, 39, 40, 41, 42, 43, 44, 45, 46, 47, 48, 49, 50, 51, 52, 53, 54, 55, 56, 57, 58, 59, 60, 61, 62, 63, 64, 65, 66, 67, 68, 69, 70, 71, 72, 73, 74, 75, 76, 77, 78, 79, 80, 81, 82, 83, 84, 85, 86, 87, 88, 89, 90, 91, 92, 93, 94, 95, 96, 97, 98, 6, 99, 100, 101, 111, 112, 113, 114, 115, 116, 117, 118, 119, 120, 121, 122, 123, 124, 125, 126, 127, 128] (by decide +kernel) (by decide +kernel)
set_option maxRecDepth 20000 in
theorem gX8_standExchange_X0_find : GoodIn wsX8_standExchange (wsV RX8 267 RX0 yX0_find wsX0_find) := goodIn_app (goodIn_of _ (by decide +kernel)) ggX8_standExchange_X0_find
theorem dX8_standExchange_0 : decode cX8_standExchange 0 = .ok (.aload_n 0, 1) := by decide +kernel
theorem dX8_standExchange_1 : decode cX8_standExchange 1 = .ok (.getfield 258, 3) := by decide +kernel
theorem dX8_standExchange_4 : decode cX8_standExchange 4 = .ok (.ifCond .ne 15, 3) := by decide +kernel
theorem dX8_standExchange_7 : decode cX8_standExchange 7 = .ok (.aload_n 0, 1) := by decide +kernel
theorem dX8_standExchange_8 : decode cX8_standExchange 8 = .ok (.getfield 59, 3) := by decide +kernel
theorem dX8_standExchange_11 : decode cX8_standExchange 11 = .ok (.invokevirtual 267, 3) := by decide +kernel
theorem dX8_standExchange_14 : decode cX8_standExchange 14 = .ok (.aload_n 0, 1) := by decide +kernel
theorem dX8_standExchange_15 : decode cX8_standExchange 15 = .ok (.iconst 1, 1) := by decide +kernel
theorem dX8_standExchange_16 : decode cX8_standExchange 16 = .ok (.putfield 258, 3) := by decide +kernel
theorem dX8_standExchange_19 : decode cX8_standExchange 19 = .ok (.return_, 1) := by decide +kernel
theorem dX8_isTool_0 : decode cX8_isTool 0 = .ok (.iload_n 0, 1) := by decide +kernel
theorem dX8_isTool_1 : decode cX8_isTool 1 = .ok (.ifCond .lt 13, 3) := by decide +kernel
theorem dX8_isTool_4 : decode cX8_isTool 4 = .ok (.iload_n 0, 1) := by decide +kernel
theorem dX8_isTool_5 : decode cX8_isTool 5 = .ok (.bipush 8, 2) := by decide +kernel
theorem dX8_isTool_7 : decode cX8_isTool 7 = .ok (.if_icmp .ge 7, 3) := by decide +kernel
theorem dX8_isTool_10 : decode cX8_isTool 10 = .ok (.iconst 1, 1) := by decide +kernel
theorem dX8_isTool_11 : decode cX8_isTool 11 = .ok (.goto 4, 3) := by decide +kernel
theorem dX8_isTool_14 : decode cX8_isTool 14 = .ok (.iconst 0, 1) := by decide +kernel
theorem dX8_isTool_15 : decode cX8_isTool 15 = .ok (.ireturn, 1) := by decide +kernel
theorem dX8_hasTool_0 : decode cX8_hasTool 0 = .ok (.iload_n 0, 1) := by decide +kernel
theorem dX8_hasTool_1 : decode cX8_hasTool 1 = .ok (.iload_n 1, 1) := by decide +kernel
theorem dX8_hasTool_2 : decode cX8_hasTool 2 = .ok (.ishr, 1) := by decide +kernel
theorem dX8_hasTool_3 : decode cX8_hasTool 3 = .ok (.iconst 1, 1) := by decide +kernel
theorem dX8_hasTool_4 : decode cX8_hasTool 4 = .ok (.iand, 1) := by decide +kernel
theorem dX8_hasTool_5 : decode cX8_hasTool 5 = .ok (.iconst 1, 1) := by decide +kernel
theorem dX8_hasTool_6 : decode cX8_hasTool 6 = .ok (.if_icmp .ne 7, 3) := by decide +kernel
theorem dX8_hasTool_9 : decode cX8_hasTool 9 = .ok (.iconst 1, 1) := by decide +kernel
theorem dX8_hasTool_10 : decode cX8_hasTool 10 = .ok (.goto 4, 3) := by decide +kernel
theorem dX8_hasTool_13 : decode cX8_hasTool 13 = .ok (.iconst 0, 1) := by decide +kernel
theorem dX8_hasTool_14 : decode cX8_hasTool 14 = .ok (.ireturn, 1) := by decide +kernel
theorem dX8_withTool_0 : decode cX8_withTool 0 = .ok (.iload_n 2, 1) := by decide +kernel
theorem dX8_withTool_1 : decode cX8_withTool 1 = .ok (.ifCond .eq 11, 3) := by decide +kernel
theorem dX8_withTool_4 : decode cX8_withTool 4 = .ok (.iload_n 0, 1) := by decide +kernel
theorem dX8_withTool_5 : decode cX8_withTool 5 = .ok (.iconst 1, 1) := by decide +kernel
theorem dX8_withTool_6 : decode cX8_withTool 6 = .ok (.iload_n 1, 1) := by decide +kernel
theorem dX8_withTool_7 : decode cX8_withTool 7 = .ok (.ishl, 1) := by decide +kernel
theorem dX8_withTool_8 : decode cX8_withTool 8 = .ok (.ior, 1) := by decide +kernel
theorem dX8_withTool_9 : decode cX8_withTool 9 = .ok (.goto 10, 3) := by decide +kernel
theorem dX8_withTool_12 : decode cX8_withTool 12 = .ok (.iload_n 0, 1) := by decide +kernel
theorem dX8_withTool_13 : decode cX8_withTool 13 = .ok (.iconst 1, 1) := by decide +kernel
theorem dX8_withTool_14 : decode cX8_withTool 14 = .ok (.iload_n 1, 1) := by decide +kernel
theorem dX8_withTool_15 : decode cX8_withTool 15 = .ok (.ishl, 1) := by decide +kernel
theorem dX8_withTool_16 : decode cX8_withTool 16 = .ok (.iconst (-1), 1) := by decide +kernel
theorem dX8_withTool_17 : decode cX8_withTool 17 = .ok (.ixor, 1) := by decide +kernel
theorem dX8_withTool_18 : decode cX8_withTool 18 = .ok (.iand, 1) := by decide +kernel
theorem dX8_withTool_19 : decode cX8_withTool 19 = .ok (.ireturn, 1) := by decide +kernel
theorem dX8_bitsOfDouble_0 : decode cX8_bitsOfDouble 0 = .ok (.dload_n 0, 1) := by decide +kernel
theorem dX8_bitsOfDouble_1 : decode cX8_bitsOfDouble 1 = .ok (.dstore_n 2, 1) := by decide +kernel
theorem dX8_bitsOfDouble_2 : decode cX8_bitsOfDouble 2 = .ok (.ldc2_w 270, 3) := by decide +kernel
theorem dX8_bitsOfDouble_5 : decode cX8_bitsOfDouble 5 = .ok (.lstore 4, 2) := by decide +kernel
theorem dX8_bitsOfDouble_7 : decode cX8_bitsOfDouble 7 = .ok (.iconst 0, 1) := by decide +kernel
theorem dX8_bitsOfDouble_8 : decode cX8_bitsOfDouble 8 = .ok (.istore 6, 2) := by decide +kernel
theorem dX8_bitsOfDouble_10 : decode cX8_bitsOfDouble 10 = .ok (.iload 6, 2) := by decide +kernel
theorem dX8_bitsOfDouble_12 : decode cX8_bitsOfDouble 12 = .ok (.bipush 16, 2) := by decide +kernel
theorem dX8_bitsOfDouble_14 : decode cX8_bitsOfDouble 14 = .ok (.if_icmp .ge 29, 3) := by decide +kernel
theorem dX8_bitsOfDouble_17 : decode cX8_bitsOfDouble 17 = .ok (.dload_n 2, 1) := by decide +kernel
theorem dX8_bitsOfDouble_18 : decode cX8_bitsOfDouble 18 = .ok (.ldc2_w 272, 3) := by decide +kernel
theorem dX8_bitsOfDouble_21 : decode cX8_bitsOfDouble 21 = .ok (.dcmp .l, 1) := by decide +kernel
theorem dX8_bitsOfDouble_22 : decode cX8_bitsOfDouble 22 = .ok (.ifCond .lt 21, 3) := by decide +kernel
theorem dX8_bitsOfDouble_25 : decode cX8_bitsOfDouble 25 = .ok (.dload_n 2, 1) := by decide +kernel
theorem dX8_bitsOfDouble_26 : decode cX8_bitsOfDouble 26 = .ok (.ldc2_w 272, 3) := by decide +kernel
theorem dX8_bitsOfDouble_29 : decode cX8_bitsOfDouble 29 = .ok (.ddiv, 1) := by decide +kernel
theorem dX8_bitsOfDouble_30 : decode cX8_bitsOfDouble 30 = .ok (.dstore_n 2, 1) := by decide +kernel
theorem dX8_bitsOfDouble_31 : decode cX8_bitsOfDouble 31 = .ok (.lload 4, 2) := by decide +kernel
theorem dX8_bitsOfDouble_33 : decode cX8_bitsOfDouble 33 = .ok (.lconst 1, 1) := by decide +kernel
theorem dX8_bitsOfDouble_34 : decode cX8_bitsOfDouble 34 = .ok (.ladd, 1) := by decide +kernel
theorem dX8_bitsOfDouble_35 : decode cX8_bitsOfDouble 35 = .ok (.lstore 4, 2) := by decide +kernel
theorem dX8_bitsOfDouble_37 : decode cX8_bitsOfDouble 37 = .ok (.iinc 6 1, 3) := by decide +kernel
theorem dX8_bitsOfDouble_40 : decode cX8_bitsOfDouble 40 = .ok (.goto (-30), 3) := by decide +kernel
theorem dX8_bitsOfDouble_43 : decode cX8_bitsOfDouble 43 = .ok (.iconst 0, 1) := by decide +kernel
theorem dX8_bitsOfDouble_44 : decode cX8_bitsOfDouble 44 = .ok (.istore 6, 2) := by decide +kernel
theorem dX8_bitsOfDouble_46 : decode cX8_bitsOfDouble 46 = .ok (.iload 6, 2) := by decide +kernel
theorem dX8_bitsOfDouble_48 : decode cX8_bitsOfDouble 48 = .ok (.bipush 16, 2) := by decide +kernel
theorem dX8_bitsOfDouble_50 : decode cX8_bitsOfDouble 50 = .ok (.if_icmp .ge 27, 3) := by decide +kernel
theorem dX8_bitsOfDouble_53 : decode cX8_bitsOfDouble 53 = .ok (.dload_n 2, 1) := by decide +kernel
theorem dX8_bitsOfDouble_54 : decode cX8_bitsOfDouble 54 = .ok (.dconst 1, 1) := by decide +kernel
theorem dX8_bitsOfDouble_55 : decode cX8_bitsOfDouble 55 = .ok (.dcmp .g, 1) := by decide +kernel
theorem dX8_bitsOfDouble_56 : decode cX8_bitsOfDouble 56 = .ok (.ifCond .ge 21, 3) := by decide +kernel
theorem dX8_bitsOfDouble_59 : decode cX8_bitsOfDouble 59 = .ok (.dload_n 2, 1) := by decide +kernel
theorem dX8_bitsOfDouble_60 : decode cX8_bitsOfDouble 60 = .ok (.ldc2_w 272, 3) := by decide +kernel
theorem dX8_bitsOfDouble_63 : decode cX8_bitsOfDouble 63 = .ok (.dmul, 1) := by decide +kernel
theorem dX8_bitsOfDouble_64 : decode cX8_bitsOfDouble 64 = .ok (.dstore_n 2, 1) := by decide +kernel
theorem dX8_bitsOfDouble_65 : decode cX8_bitsOfDouble 65 = .ok (.lload 4, 2) := by decide +kernel
theorem dX8_bitsOfDouble_67 : decode cX8_bitsOfDouble 67 = .ok (.lconst 1, 1) := by decide +kernel
theorem dX8_bitsOfDouble_68 : decode cX8_bitsOfDouble 68 = .ok (.lsub, 1) := by decide +kernel
theorem dX8_bitsOfDouble_69 : decode cX8_bitsOfDouble 69 = .ok (.lstore 4, 2) := by decide +kernel
theorem dX8_bitsOfDouble_71 : decode cX8_bitsOfDouble 71 = .ok (.iinc 6 1, 3) := by decide +kernel
theorem dX8_bitsOfDouble_74 : decode cX8_bitsOfDouble 74 = .ok (.goto (-28), 3) := by decide +kernel
theorem dX8_bitsOfDouble_77 : decode cX8_bitsOfDouble 77 = .ok (.lload 4, 2) := by decide +kernel
theorem dX8_bitsOfDouble_79 : decode cX8_bitsOfDouble 79 = .ok (.bipush 52, 2) := by decide +kernel
theorem dX8_bitsOfDouble_81 : decode cX8_bitsOfDouble 81 = .ok (.lshl, 1) := by decide +kernel
theorem dX8_bitsOfDouble_82 : decode cX8_bitsOfDouble 82 = .ok (.dload_n 2, 1) := by decide +kernel
theorem dX8_bitsOfDouble_83 : decode cX8_bitsOfDouble 83 = .ok (.dconst 1, 1) := by decide +kernel
theorem dX8_bitsOfDouble_84 : decode cX8_bitsOfDouble 84 = .ok (.dsub, 1) := by decide +kernel
theorem dX8_bitsOfDouble_85 : decode cX8_bitsOfDouble 85 = .ok (.ldc2_w 274, 3) := by decide +kernel
theorem dX8_bitsOfDouble_88 : decode cX8_bitsOfDouble 88 = .ok (.dmul, 1) := by decide +kernel
theorem dX8_bitsOfDouble_89 : decode cX8_bitsOfDouble 89 = .ok (.d2l, 1) := by decide +kernel
theorem dX8_bitsOfDouble_90 : decode cX8_bitsOfDouble 90 = .ok (.ladd, 1) := by decide +kernel
theorem dX8_bitsOfDouble_91 : decode cX8_bitsOfDouble 91 = .ok (.lreturn, 1) := by decide +kernel
theorem dX8_bitsOfFloat_0 : decode cX8_bitsOfFloat 0 = .ok (.fload_n 0, 1) := by decide +kernel
theorem dX8_bitsOfFloat_1 : decode cX8_bitsOfFloat 1 = .ok (.fstore_n 1, 1) := by decide +kernel
theorem dX8_bitsOfFloat_2 : decode cX8_bitsOfFloat 2 = .ok (.bipush 127, 2) := by decide +kernel
theorem dX8_bitsOfFloat_4 : decode cX8_bitsOfFloat 4 = .ok (.istore_n 2, 1) := by decide +kernel
theorem dX8_bitsOfFloat_5 : decode cX8_bitsOfFloat 5 = .ok (.iconst 0, 1) := by decide +kernel
theorem dX8_bitsOfFloat_6 : decode cX8_bitsOfFloat 6 = .ok (.istore_n 3, 1) := by decide +kernel
theorem dX8_bitsOfFloat_7 : decode cX8_bitsOfFloat 7 = .ok (.iload_n 3, 1) := by decide +kernel
theorem dX8_bitsOfFloat_8 : decode cX8_bitsOfFloat 8 = .ok (.bipush 16, 2) := by decide +kernel
theorem dX8_bitsOfFloat_10 : decode cX8_bitsOfFloat 10 = .ok (.if_icmp .ge 22, 3) := by decide +kernel
theorem dX8_bitsOfFloat_13 : decode cX8_bitsOfFloat 13 = .ok (.fload_n 1, 1) := by decide +kernel
theorem dX8_bitsOfFloat_14 : decode cX8_bitsOfFloat 14 = .ok (.fconst 2, 1) := by decide +kernel
theorem dX8_bitsOfFloat_15 : decode cX8_bitsOfFloat 15 = .ok (.fcmp .l, 1) := by decide +kernel
theorem dX8_bitsOfFloat_16 : decode cX8_bitsOfFloat 16 = .ok (.ifCond .lt 16, 3) := by decide +kernel
theorem dX8_bitsOfFloat_19 : decode cX8_bitsOfFloat 19 = .ok (.fload_n 1, 1) := by decide +kernel
theorem dX8_bitsOfFloat_20 : decode cX8_bitsOfFloat 20 = .ok (.fconst 2, 1) := by decide +kernel
theorem dX8_bitsOfFloat_21 : decode cX8_bitsOfFloat 21 = .ok (.fdiv, 1) := by decide +kernel
theorem dX8_bitsOfFloat_22 : decode cX8_bitsOfFloat 22 = .ok (.fstore_n 1, 1) := by decide +kernel
theorem dX8_bitsOfFloat_23 : decode cX8_bitsOfFloat 23 = .ok (.iinc 2 1, 3) := by decide +kernel
theorem dX8_bitsOfFloat_26 : decode cX8_bitsOfFloat 26 = .ok (.iinc 3 1, 3) := by decide +kernel
theorem dX8_bitsOfFloat_29 : decode cX8_bitsOfFloat 29 = .ok (.goto (-22), 3) := by decide +kernel
theorem dX8_bitsOfFloat_32 : decode cX8_bitsOfFloat 32 = .ok (.iload_n 2, 1) := by decide +kernel
theorem dX8_bitsOfFloat_33 : decode cX8_bitsOfFloat 33 = .ok (.bipush 23, 2) := by decide +kernel
theorem dX8_bitsOfFloat_35 : decode cX8_bitsOfFloat 35 = .ok (.ishl, 1) := by decide +kernel
theorem dX8_bitsOfFloat_36 : decode cX8_bitsOfFloat 36 = .ok (.fload_n 1, 1) := by decide +kernel
theorem dX8_bitsOfFloat_37 : decode cX8_bitsOfFloat 37 = .ok (.fconst 1, 1) := by decide +kernel
theorem dX8_bitsOfFloat_38 : decode cX8_bitsOfFloat 38 = .ok (.fsub, 1) := by decide +kernel
theorem dX8_bitsOfFloat_39 : decode cX8_bitsOfFloat 39 = .ok (.ldc_w 276, 3) := by decide +kernel
theorem dX8_bitsOfFloat_42 : decode cX8_bitsOfFloat 42 = .ok (.fmul, 1) := by decide +kernel
theorem dX8_bitsOfFloat_43 : decode cX8_bitsOfFloat 43 = .ok (.f2i, 1) := by decide +kernel
theorem dX8_bitsOfFloat_44 : decode cX8_bitsOfFloat 44 = .ok (.iadd, 1) := by decide +kernel
theorem dX8_bitsOfFloat_45 : decode cX8_bitsOfFloat 45 = .ok (.ireturn, 1) := by decide +kernel
theorem dX9_init_0 : decode cX9_init 0 = .ok (.aload_n 0, 1) := by decide +kernel
theorem dX9_init_1 : decode cX9_init 1 = .ok (.invokespecial 1, 3) := by decide +kernel
theorem dX9_init_4 : decode cX9_init 4 = .ok (.aload_n 0, 1) := by decide +kernel
theorem dX9_init_5 : decode cX9_init 5 = .ok (.bipush 71, 2) := by decide +kernel
theorem dX9_init_7 : decode cX9_init 7 = .ok (.newarray .int, 2) := by decide +kernel
theorem dX9_init_9 : decode cX9_init 9 = .ok (.putfield 7, 3) := by decide +kernel
theorem dX9_init_12 : decode cX9_init 12 = .ok (.aload_n 0, 1) := by decide +kernel
theorem dX9_init_13 : decode cX9_init 13 = .ok (.bipush 8, 2) := by decide +kernel
theorem dX9_init_15 : decode cX9_init 15 = .ok (.newarray .int, 2) := by decide +kernel
theorem dX9_init_17 : decode cX9_init 17 = .ok (.putfield 13, 3) := by decide +kernel
theorem dX9_init_20 : decode cX9_init 20 = .ok (.aload_n 0, 1) := by decide +kernel
theorem dX9_init_21 : decode cX9_init 21 = .ok (.bipush 8, 2) := by decide +kernel
theorem dX9_init_23 : decode cX9_init 23 = .ok (.newarray .int, 2) := by decide +kernel
theorem dX9_init_25 : decode cX9_init 25 = .ok (.putfield 16, 3) := by decide +kernel
theorem dX9_init_28 : decode cX9_init 28 = .ok (.aload_n 0, 1) := by decide +kernel
theorem dX9_init_29 : decode cX9_init 29 = .ok (.bipush 8, 2) := by decide +kernel
theorem dX9_init_31 : decode cX9_init 31 = .ok (.newarray .int, 2) := by decide +kernel
theorem dX9_init_33 : decode cX9_init 33 = .ok (.putfield 19, 3) := by decide +kernel
theorem dX9_init_36 : decode cX9_init 36 = .ok (.aload_n 0, 1) := by decide +kernel
theorem dX9_init_37 : decode cX9_init 37 = .ok (.iconst 4, 1) := by decide +kernel
theorem dX9_init_38 : decode cX9_init 38 = .ok (.putfield 22, 3) := by decide +kernel
theorem dX9_init_41 : decode cX9_init 41 = .ok (.aload_n 0, 1) := by decide +kernel
theorem dX9_init_42 : decode cX9_init 42 = .ok (.bipush 8, 2) := by decide +kernel
theorem dX9_init_44 : decode cX9_init 44 = .ok (.newarray .int, 2) := by decide +kernel
theorem dX9_init_46 : decode cX9_init 46 = .ok (.putfield 26, 3) := by decide +kernel
theorem dX9_init_49 : decode cX9_init 49 = .ok (.aload_n 0, 1) := by decide +kernel
theorem dX9_init_50 : decode cX9_init 50 = .ok (.bipush 16, 2) := by decide +kernel
theorem dX9_init_52 : decode cX9_init 52 = .ok (.newarray .int, 2) := by decide +kernel
theorem dX9_init_54 : decode cX9_init 54 = .ok (.putfield 29, 3) := by decide +kernel
theorem dX9_init_57 : decode cX9_init 57 = .ok (.aload_n 0, 1) := by decide +kernel
theorem dX9_init_58 : decode cX9_init 58 = .ok (.bipush 16, 2) := by decide +kernel
theorem dX9_init_60 : decode cX9_init 60 = .ok (.newarray .int, 2) := by decide +kernel
theorem dX9_init_62 : decode cX9_init 62 = .ok (.putfield 32, 3) := by decide +kernel
theorem dX9_init_65 : decode cX9_init 65 = .ok (.aload_n 0, 1) := by decide +kernel
theorem dX9_init_66 : decode cX9_init 66 = .ok (.sipush 2304, 3) := by decide +kernel
theorem dX9_init_69 : decode cX9_init 69 = .ok (.newarray .int, 2) := by decide +kernel
theorem dX9_init_71 : decode cX9_init 71 = .ok (.putfield 35, 3) := by decide +kernel
theorem dX9_init_74 : decode cX9_init 74 = .ok (.aload_n 0, 1) := by decide +kernel
theorem dX9_init_75 : decode cX9_init 75 = .ok (.sipush 256, 3) := by decide +kernel
theorem dX9_init_78 : decode cX9_init 78 = .ok (.newarray .int, 2) := by decide +kernel
theorem dX9_init_80 : decode cX9_init 80 = .ok (.putfield 38, 3) := by decide +kernel
theorem dX9_init_83 : decode cX9_init 83 = .ok (.return_, 1) := by decide +kernel
end
section
theorem dX9_within_0 : decode cX9_within 0 = .ok (.iload_n 0, 1) := by decide +kernel
theorem dX9_within_1 : decode cX9_within 1 = .ok (.iload_n 1, 1) := by decide +kernel
theorem dX9_within_2 : decode cX9_within 2 = .ok (.if_icmp .lt 12, 3) := by decide +kernel
theorem dX9_within_5 : decode cX9_within 5 = .ok (.iload_n 0, 1) := by decide +kernel
theorem dX9_within_6 : decode cX9_within 6 = .ok (.iload_n 2, 1) := by decide +kernel
theorem dX9_within_7 : decode cX9_within 7 = .ok (.if_icmp .gt 7, 3) := by decide +kernel
theorem dX9_within_10 : decode cX9_within 10 = .ok (.iconst 1, 1) := by decide +kernel
theorem dX9_within_11 : decode cX9_within 11 = .ok (.goto 4, 3) := by decide +kernel
theorem dX9_within_14 : decode cX9_within 14 = .ok (.iconst 0, 1) := by decide +kernel
theorem dX9_within_15 : decode cX9_within 15 = .ok (.ireturn, 1) := by decide +kernel
theorem dX9_has_0 : decode cX9_has 0 = .ok (.iload_n 0, 1) := by decide +kernel
theorem dX9_has_1 : decode cX9_has 1 = .ok (.iload_n 1, 1) := by decide +kernel
theorem dX9_has_2 : decode cX9_has 2 = .ok (.ishr, 1) := by decide +kernel
theorem dX9_has_3 : decode cX9_has 3 = .ok (.iconst 1, 1) := by decide +kernel
theorem dX9_has_4 : decode cX9_has 4 = .ok (.iand, 1) := by decide +kernel
theorem dX9_has_5 : decode cX9_has 5 = .ok (.iconst 1, 1) := by decide +kernel
theorem dX9_has_6 : decode cX9_has 6 = .ok (.if_icmp .ne 7, 3) := by decide +kernel
theorem dX9_has_9 : decode cX9_has 9 = .ok (.iconst 1, 1) := by decide +kernel
theorem dX9_has_10 : decode cX9_has 10 = .ok (.goto 4, 3) := by decide +kernel
theorem dX9_has_13 : decode cX9_has 13 = .ok (.iconst 0, 1) := by decide +kernel
theorem dX9_has_14 : decode cX9_has 14 = .ok (.ireturn, 1) := by decide +kernel
theorem dX9_ones_0 : decode cX9_ones 0 = .ok (.iconst 0, 1) := by decide +kernel
theorem dX9_ones_1 : decode cX9_ones 1 = .ok (.istore_n 1, 1) := by decide +kernel
theorem dX9_ones_2 : decode cX9_ones 2 = .ok (.iconst 0, 1) := by decide +kernel
theorem dX9_ones_3 : decode cX9_ones 3 = .ok (.istore_n 2, 1) := by decide +kernel
theorem dX9_ones_4 : decode cX9_ones 4 = .ok (.iload_n 2, 1) := by decide +kernel
theorem dX9_ones_5 : decode cX9_ones 5 = .ok (.bipush 8, 2) := by decide +kernel
theorem dX9_ones_7 : decode cX9_ones 7 = .ok (.if_icmp .ge 17, 3) := by decide +kernel
theorem dX9_ones_10 : decode cX9_ones 10 = .ok (.iload_n 1, 1) := by decide +kernel
theorem dX9_ones_11 : decode cX9_ones 11 = .ok (.iload_n 0, 1) := by decide +kernel
theorem dX9_ones_12 : decode cX9_ones 12 = .ok (.iload_n 2, 1) := by decide +kernel
theorem dX9_ones_13 : decode cX9_ones 13 = .ok (.ishr, 1) := by decide +kernel
theorem dX9_ones_14 : decode cX9_ones 14 = .ok (.iconst 1, 1) := by decide +kernel
theorem dX9_ones_15 : decode cX9_ones 15 = .ok (.iand, 1) := by decide +kernel
theorem dX9_ones_16 : decode cX9_ones 16 = .ok (.iadd, 1) := by decide +kernel
theorem dX9_ones_17 : decode cX9_ones 17 = .ok (.istore_n 1, 1) := by decide +kernel
theorem dX9_ones_18 : decode cX9_ones 18 = .ok (.iinc 2 1, 3) := by decide +kernel
theorem dX9_ones_21 : decode cX9_ones 21 = .ok (.goto (-17), 3) := by decide +kernel
theorem dX9_ones_24 : decode cX9_ones 24 = .ok (.iload_n 1, 1) := by decide +kernel
theorem dX9_ones_25 : decode cX9_ones 25 = .ok (.ireturn, 1) := by decide +kernel
set_option maxRecDepth 20000 in
theorem ggX9_sizeOf_X9_ones : GoodIn wsX9_sizeOf wsX9_ones := goodIn_r _ [5] (by decide +kernel) (by decide +kernel)
set_option maxRecDepth 20000 in
theorem gX9_sizeOf_X9_ones : GoodIn wsX9_sizeOf (va_wsS RX9 41 yX9_ones wsX9_ones) := goodIn_app (goodIn_of _ (by decide +kernel)) ggX9_sizeOf_X9_ones
theorem dX9_sizeOf_0 : decode cX9_sizeOf 0 = .ok (.iload_n 1, 1) := by decide +kernel
theorem dX9_sizeOf_1 : decode cX9_sizeOf 1 = .ok (.invokestatic 41, 3) := by decide +kernel
theorem dX9_sizeOf_4 : decode cX9_sizeOf 4 = .ok (.iload_n 1, 1) := by decide +kernel
theorem dX9_sizeOf_5 : decode cX9_sizeOf 5 = .ok (.aload_n 0, 1) := by decide +kernel
theorem dX9_sizeOf_6 : decode cX9_sizeOf 6 = .ok (.getfield 45, 3) := by decide +kernel
theorem dX9_sizeOf_9 : decode cX9_sizeOf 9 = .ok (.iand, 1) := by decide +kernel
theorem dX9_sizeOf_10 : decode cX9_sizeOf 10 = .ok (.invokestatic 41, 3) := by decide +kernel
theorem dX9_sizeOf_13 : decode cX9_sizeOf 13 = .ok (.iadd, 1) := by decide +kernel
theorem dX9_sizeOf_14 : decode cX9_sizeOf 14 = .ok (.ireturn, 1) := by decide +kernel
set_option maxRecDepth 20000 in
theorem ggX9_letter_X9_within : GoodIn wsX9_letter wsX9_within := goodIn_r _ [6] (by decide +kernel) (by decide +kernel)
set_option maxRecDepth 20000 in
theorem gX9_letter_X9_within : GoodIn wsX9_letter (va_wsS RX9 48 yX9_within wsX9_within) := goodIn_app (goodIn_of _ (by decide +kernel)) ggX9_letter_X9_within
theorem dX9_letter_0 : decode cX9_letter 0 = .ok (.iload_n 1, 1) := by decide +kernel
theorem dX9_letter_1 : decode cX9_letter 1 = .ok (.bipush 32, 2) := by decide +kernel
theorem dX9_letter_3 : decode cX9_letter 3 = .ok (.bipush 126, 2) := by decide +kernel
theorem dX9_letter_5 : decode cX9_letter 5 = .ok (.invokestatic 48, 3) := by decide +kernel
theorem dX9_letter_8 : decode cX9_letter 8 = .ok (.ifCond .ne 7, 3) := by decide +kernel
theorem dX9_letter_11 : decode cX9_letter 11 = .ok (.sipush (-1002), 3) := by decide +kernel
theorem dX9_letter_14 : decode cX9_letter 14 = .ok (.ireturn, 1) := by decide +kernel
theorem dX9_letter_15 : decode cX9_letter 15 = .ok (.aload_n 0, 1) := by decide +kernel
theorem dX9_letter_16 : decode cX9_letter 16 = .ok (.getfield 52, 3) := by decide +kernel
theorem dX9_letter_19 : decode cX9_letter 19 = .ok (.bipush 71, 2) := by decide +kernel
theorem dX9_letter_21 : decode cX9_letter 21 = .ok (.if_icmp .ne 7, 3) := by decide +kernel
theorem dX9_letter_24 : decode cX9_letter 24 = .ok (.sipush (-1004), 3) := by decide +kernel
theorem dX9_letter_27 : decode cX9_letter 27 = .ok (.ireturn, 1) := by decide +kernel
theorem dX9_letter_28 : decode cX9_letter 28 = .ok (.aload_n 0, 1) := by decide +kernel
theorem dX9_letter_29 : decode cX9_letter 29 = .ok (.getfield 7, 3) := by decide +kernel
theorem dX9_letter_32 : decode cX9_letter 32 = .ok (.aload_n 0, 1) := by decide +kernel
theorem dX9_letter_33 : decode cX9_letter 33 = .ok (.getfield 52, 3) := by decide +kernel
theorem dX9_letter_36 : decode cX9_letter 36 = .ok (.iload_n 1, 1) := by decide +kernel
theorem dX9_letter_37 : decode cX9_letter 37 = .ok (.iastore, 1) := by decide +kernel
theorem dX9_letter_38 : decode cX9_letter 38 = .ok (.aload_n 0, 1) := by decide +kernel
theorem dX9_letter_39 : decode cX9_letter 39 = .ok (.dup, 1) := by decide +kernel
theorem dX9_letter_40 : decode cX9_letter 40 = .ok (.getfield 52, 3) := by decide +kernel
theorem dX9_letter_43 : decode cX9_letter 43 = .ok (.iconst 1, 1) := by decide +kernel
theorem dX9_letter_44 : decode cX9_letter 44 = .ok (.iadd, 1) := by decide +kernel
theorem dX9_letter_45 : decode cX9_letter 45 = .ok (.putfield 52, 3) := by decide +kernel
theorem dX9_letter_48 : decode cX9_letter 48 = .ok (.aload_n 0, 1) := by decide +kernel
theorem dX9_letter_49 : decode cX9_letter 49 = .ok (.getfield 52, 3) := by decide +kernel
theorem dX9_letter_52 : decode cX9_letter 52 = .ok (.ireturn, 1) := by decide +kernel
theorem dX9_blank_0 : decode cX9_blank 0 = .ok (.aload_n 0, 1) := by decide +kernel
theorem dX9_blank_1 : decode cX9_blank 1 = .ok (.getfield 52, 3) := by decide +kernel
theorem dX9_blank_4 : decode cX9_blank 4 = .ok (.istore_n 1, 1) := by decide +kernel
theorem dX9_blank_5 : decode cX9_blank 5 = .ok (.aload_n 0, 1) := by decide +kernel
theorem dX9_blank_6 : decode cX9_blank 6 = .ok (.iconst 0, 1) := by decide +kernel
theorem dX9_blank_7 : decode cX9_blank 7 = .ok (.putfield 52, 3) := by decide +kernel
theorem dX9_blank_10 : decode cX9_blank 10 = .ok (.iload_n 1, 1) := by decide +kernel
theorem dX9_blank_11 : decode cX9_blank 11 = .ok (.ireturn, 1) := by decide +kernel
set_option maxRecDepth 20000 in
theorem ggX9_takes_X9_within : GoodIn wsX9_takes wsX9_within := goodIn_r _ [7] (by decide +kernel) (by decide +kernel)
set_option maxRecDepth 20000 in
theorem gX9_takes_X9_within : GoodIn wsX9_takes (va_wsS RX9 48 yX9_within wsX9_within) := goodIn_app (goodIn_of _ (by decide +kernel)) ggX9_takes_X9_within
theorem dX9_takes_0 : decode cX9_takes 0 = .ok (.iload_n 1, 1) := by decide +kernel
theorem dX9_takes_1 : decode cX9_takes 1 = .ok (.bipush 44, 2) := by decide +kernel
theorem dX9_takes_3 : decode cX9_takes 3 = .ok (.if_icmp .ne 61, 3) := by decide +kernel
theorem dX9_takes_6 : decode cX9_takes 6 = .ok (.aload_n 0, 1) := by decide +kernel
theorem dX9_takes_7 : decode cX9_takes 7 = .ok (.getfield 55, 3) := by decide +kernel
theorem dX9_takes_10 : decode cX9_takes 10 = .ok (.ifCond .eq 18, 3) := by decide +kernel
theorem dX9_takes_13 : decode cX9_takes 13 = .ok (.aload_n 0, 1) := by decide +kernel
theorem dX9_takes_14 : decode cX9_takes 14 = .ok (.getfield 58, 3) := by decide +kernel
theorem dX9_takes_17 : decode cX9_takes 17 = .ok (.iconst 1, 1) := by decide +kernel
theorem dX9_takes_18 : decode cX9_takes 18 = .ok (.iadd, 1) := by decide +kernel
theorem dX9_takes_19 : decode cX9_takes 19 = .ok (.bipush 8, 2) := by decide +kernel
theorem dX9_takes_21 : decode cX9_takes 21 = .ok (.if_icmp .ge 7, 3) := by decide +kernel
theorem dX9_takes_24 : decode cX9_takes 24 = .ok (.iconst 1, 1) := by decide +kernel
theorem dX9_takes_25 : decode cX9_takes 25 = .ok (.goto 4, 3) := by decide +kernel
theorem dX9_takes_28 : decode cX9_takes 28 = .ok (.iconst 0, 1) := by decide +kernel
theorem dX9_takes_29 : decode cX9_takes 29 = .ok (.istore_n 2, 1) := by decide +kernel
theorem dX9_takes_30 : decode cX9_takes 30 = .ok (.iload_n 2, 1) := by decide +kernel
theorem dX9_takes_31 : decode cX9_takes 31 = .ok (.ifCond .eq 31, 3) := by decide +kernel
theorem dX9_takes_34 : decode cX9_takes 34 = .ok (.aload_n 0, 1) := by decide +kernel
theorem dX9_takes_35 : decode cX9_takes 35 = .ok (.getfield 26, 3) := by decide +kernel
theorem dX9_takes_38 : decode cX9_takes 38 = .ok (.aload_n 0, 1) := by decide +kernel
theorem dX9_takes_39 : decode cX9_takes 39 = .ok (.getfield 58, 3) := by decide +kernel
theorem dX9_takes_42 : decode cX9_takes 42 = .ok (.aload_n 0, 1) := by decide +kernel
theorem dX9_takes_43 : decode cX9_takes 43 = .ok (.getfield 55, 3) := by decide +kernel
theorem dX9_takes_46 : decode cX9_takes 46 = .ok (.iastore, 1) := by decide +kernel
theorem dX9_takes_47 : decode cX9_takes 47 = .ok (.aload_n 0, 1) := by decide +kernel
theorem dX9_takes_48 : decode cX9_takes 48 = .ok (.dup, 1) := by decide +kernel
theorem dX9_takes_49 : decode cX9_takes 49 = .ok (.getfield 58, 3) := by decide +kernel
theorem dX9_takes_52 : decode cX9_takes 52 = .ok (.iconst 1, 1) := by decide +kernel
theorem dX9_takes_53 : decode cX9_takes 53 = .ok (.iadd, 1) := by decide +kernel
theorem dX9_takes_54 : decode cX9_takes 54 = .ok (.putfield 58, 3) := by decide +kernel
theorem dX9_takes_57 : decode cX9_takes 57 = .ok (.aload_n 0, 1) := by decide +kernel
theorem dX9_takes_58 : decode cX9_takes 58 = .ok (.iconst 0, 1) := by decide +kernel
theorem dX9_takes_59 : decode cX9_takes 59 = .ok (.putfield 55, 3) := by decide +kernel
theorem dX9_takes_62 : decode cX9_takes 62 = .ok (.iload_n 2, 1) := by decide +kernel
theorem dX9_takes_63 : decode cX9_takes 63 = .ok (.ireturn, 1) := by decide +kernel
theorem dX9_takes_64 : decode cX9_takes 64 = .ok (.iload_n 1, 1) := by decide +kernel
theorem dX9_takes_65 : decode cX9_takes 65 = .ok (.bipush 97, 2) := by decide +kernel
theorem dX9_takes_67 : decode cX9_takes 67 = .ok (.bipush 104, 2) := by decide +kernel
theorem dX9_takes_69 : decode cX9_takes 69 = .ok (.invokestatic 48, 3) := by decide +kernel
theorem dX9_takes_72 : decode cX9_takes 72 = .ok (.ifCond .eq 19, 3) := by decide +kernel
theorem dX9_takes_75 : decode cX9_takes 75 = .ok (.aload_n 0, 1) := by decide +kernel
theorem dX9_takes_76 : decode cX9_takes 76 = .ok (.getfield 55, 3) := by decide +kernel
theorem dX9_takes_79 : decode cX9_takes 79 = .ok (.iload_n 1, 1) := by decide +kernel
theorem dX9_takes_80 : decode cX9_takes 80 = .ok (.bipush 97, 2) := by decide +kernel
theorem dX9_takes_82 : decode cX9_takes 82 = .ok (.isub, 1) := by decide +kernel
theorem dX9_takes_83 : decode cX9_takes 83 = .ok (.ishr, 1) := by decide +kernel
theorem dX9_takes_84 : decode cX9_takes 84 = .ok (.ifCond .ne 7, 3) := by decide +kernel
theorem dX9_takes_87 : decode cX9_takes 87 = .ok (.iconst 1, 1) := by decide +kernel
theorem dX9_takes_88 : decode cX9_takes 88 = .ok (.goto 4, 3) := by decide +kernel
theorem dX9_takes_91 : decode cX9_takes 91 = .ok (.iconst 0, 1) := by decide +kernel
theorem dX9_takes_92 : decode cX9_takes 92 = .ok (.istore_n 2, 1) := by decide +kernel
theorem dX9_takes_93 : decode cX9_takes 93 = .ok (.aload_n 0, 1) := by decide +kernel
theorem dX9_takes_94 : decode cX9_takes 94 = .ok (.dup, 1) := by decide +kernel
theorem dX9_takes_95 : decode cX9_takes 95 = .ok (.getfield 55, 3) := by decide +kernel
theorem dX9_takes_98 : decode cX9_takes 98 = .ok (.iload_n 2, 1) := by decide +kernel
theorem dX9_takes_99 : decode cX9_takes 99 = .ok (.ifCond .eq 12, 3) := by decide +kernel
theorem dX9_takes_102 : decode cX9_takes 102 = .ok (.iconst 1, 1) := by decide +kernel
theorem dX9_takes_103 : decode cX9_takes 103 = .ok (.iload_n 1, 1) := by decide +kernel
theorem dX9_takes_104 : decode cX9_takes 104 = .ok (.bipush 97, 2) := by decide +kernel
theorem dX9_takes_106 : decode cX9_takes 106 = .ok (.isub, 1) := by decide +kernel
theorem dX9_takes_107 : decode cX9_takes 107 = .ok (.ishl, 1) := by decide +kernel
theorem dX9_takes_108 : decode cX9_takes 108 = .ok (.goto 4, 3) := by decide +kernel
theorem dX9_takes_111 : decode cX9_takes 111 = .ok (.iconst 0, 1) := by decide +kernel
theorem dX9_takes_112 : decode cX9_takes 112 = .ok (.ior, 1) := by decide +kernel
theorem dX9_takes_113 : decode cX9_takes 113 = .ok (.putfield 55, 3) := by decide +kernel
theorem dX9_takes_116 : decode cX9_takes 116 = .ok (.iload_n 2, 1) := by decide +kernel
theorem dX9_takes_117 : decode cX9_takes 117 = .ok (.ireturn, 1) := by decide +kernel
set_option maxRecDepth 20000 in
theorem ggX9_goAlong_X9_takes : GoodIn wsX9_goAlong wsX9_takes := goodIn_r _ [9, 2, 1, 10, 11, 12, 8, 13, 14, 15, 16, 17, 18, 19, 20, 21, 22, 23, 24, 25, 26, 27, 28, 29, 30, 31, 32, 33, 34, 35, 36] (by decide +kernel) (by decide +kernel)
set_option maxRecDepth 20000 in
theorem gX9_goAlong_X9_takes : GoodIn wsX9_goAlong (wsV RX9 61 RX9 yX9_takes wsX9_takes) := goodIn_app (goodIn_of _ (by decide +kernel)) ggX9_goAlong_X9_takes
theorem dX9_goAlong_0 : decode cX9_goAlong 0 = .ok (.aload_n 0, 1) := by decide +kernel
theorem dX9_goAlong_1 : decode cX9_goAlong 1 = .ok (.iconst 0, 1) := by decide +kernel
theorem dX9_goAlong_2 : decode cX9_goAlong 2 = .ok (.putfield 58, 3) := by decide +kernel
theorem dX9_goAlong_5 : decode cX9_goAlong 5 = .ok (.aload_n 0, 1) := by decide +kernel
theorem dX9_goAlong_6 : decode cX9_goAlong 6 = .ok (.iconst 0, 1) := by decide +kernel
theorem dX9_goAlong_7 : decode cX9_goAlong 7 = .ok (.putfield 55, 3) := by decide +kernel
theorem dX9_goAlong_10 : decode cX9_goAlong 10 = .ok (.iconst 0, 1) := by decide +kernel
theorem dX9_goAlong_11 : decode cX9_goAlong 11 = .ok (.istore_n 1, 1) := by decide +kernel
theorem dX9_goAlong_12 : decode cX9_goAlong 12 = .ok (.iload_n 1, 1) := by decide +kernel
theorem dX9_goAlong_13 : decode cX9_goAlong 13 = .ok (.aload_n 0, 1) := by decide +kernel
theorem dX9_goAlong_14 : decode cX9_goAlong 14 = .ok (.getfield 52, 3) := by decide +kernel
theorem dX9_goAlong_17 : decode cX9_goAlong 17 = .ok (.if_icmp .ge 22, 3) := by decide +kernel
theorem dX9_goAlong_20 : decode cX9_goAlong 20 = .ok (.aload_n 0, 1) := by decide +kernel
theorem dX9_goAlong_21 : decode cX9_goAlong 21 = .ok (.aload_n 0, 1) := by decide +kernel
theorem dX9_goAlong_22 : decode cX9_goAlong 22 = .ok (.getfield 7, 3) := by decide +kernel
theorem dX9_goAlong_25 : decode cX9_goAlong 25 = .ok (.iload_n 1, 1) := by decide +kernel
theorem dX9_goAlong_26 : decode cX9_goAlong 26 = .ok (.iaload, 1) := by decide +kernel
theorem dX9_goAlong_27 : decode cX9_goAlong 27 = .ok (.invokevirtual 61, 3) := by decide +kernel
theorem dX9_goAlong_30 : decode cX9_goAlong 30 = .ok (.ifCond .eq 9, 3) := by decide +kernel
theorem dX9_goAlong_33 : decode cX9_goAlong 33 = .ok (.iinc 1 1, 3) := by decide +kernel
theorem dX9_goAlong_36 : decode cX9_goAlong 36 = .ok (.goto (-24), 3) := by decide +kernel
theorem dX9_goAlong_39 : decode cX9_goAlong 39 = .ok (.iload_n 1, 1) := by decide +kernel
theorem dX9_goAlong_40 : decode cX9_goAlong 40 = .ok (.ireturn, 1) := by decide +kernel
set_option maxRecDepth 20000 in
theorem ggX9_fault_X9_goAlong : GoodIn wsX9_fault wsX9_goAlong := goodIn_r _ [5, 6, 7, 8, 9, 10, 11, 12, 4, 13, 14, 15, 16, 17, 18, 19, 20, 21, 22, 23, 24, 25, 26, 27, 28, 29, 30, 31, 32, 33, 34, 35, 36, 37, 38, 39, 40] (by decide +kernel) (by decide +kernel)
set_option maxRecDepth 20000 in
theorem gX9_fault_X9_goAlong : GoodIn wsX9_fault (wsV RX9 65 RX9 yX9_goAlong wsX9_goAlong) := goodIn_app (goodIn_of _ (by decide +kernel)) ggX9_fault_X9_goAlong
theorem dX9_fault_0 : decode cX9_fault 0 = .ok (.aload_n 0, 1) := by decide +kernel
theorem dX9_fault_1 : decode cX9_fault 1 = .ok (.invokevirtual 65, 3) := by decide +kernel
theorem dX9_fault_4 : decode cX9_fault 4 = .ok (.ireturn, 1) := by decide +kernel
set_option maxRecDepth 20000 in
theorem ggX9_jobs_X9_goAlong : GoodIn wsX9_jobs wsX9_goAlong := goodIn_r _ [16, 4, 2, 1, 17, 18, 19, 20, 15, 21, 3, 22, 23, 24, 25, 26, 27, 28, 29, 30, 31, 32, 33, 34, 35, 36, 37, 38, 39, 40, 41, 42, 43, 44, 45, 46, 47] (by decide +kernel) (by decide +kernel)
set_option maxRecDepth 20000 in
theorem gX9_jobs_X9_goAlong : GoodIn wsX9_jobs (wsV RX9 65 RX9 yX9_goAlong wsX9_goAlong) := goodIn_app (goodIn_of _ (by decide +kernel)) ggX9_jobs_X9_goAlong
theorem dX9_jobs_0 : decode cX9_jobs 0 = .ok (.aload_n 0, 1) := by decide +kernel
theorem dX9_jobs_1 : decode cX9_jobs 1 = .ok (.invokevirtual 65, 3) := by decide +kernel
theorem dX9_jobs_4 : decode cX9_jobs 4 = .ok (.aload_n 0, 1) := by decide +kernel
theorem dX9_jobs_5 : decode cX9_jobs 5 = .ok (.getfield 52, 3) := by decide +kernel
theorem dX9_jobs_8 : decode cX9_jobs 8 = .ok (.if_icmp .lt 10, 3) := by decide +kernel
theorem dX9_jobs_11 : decode cX9_jobs 11 = .ok (.aload_n 0, 1) := by decide +kernel
theorem dX9_jobs_12 : decode cX9_jobs 12 = .ok (.getfield 55, 3) := by decide +kernel
theorem dX9_jobs_15 : decode cX9_jobs 15 = .ok (.ifCond .ne 7, 3) := by decide +kernel
theorem dX9_jobs_18 : decode cX9_jobs 18 = .ok (.sipush (-1003), 3) := by decide +kernel
theorem dX9_jobs_21 : decode cX9_jobs 21 = .ok (.ireturn, 1) := by decide +kernel
theorem dX9_jobs_22 : decode cX9_jobs 22 = .ok (.aload_n 0, 1) := by decide +kernel
theorem dX9_jobs_23 : decode cX9_jobs 23 = .ok (.getfield 26, 3) := by decide +kernel
theorem dX9_jobs_26 : decode cX9_jobs 26 = .ok (.aload_n 0, 1) := by decide +kernel
theorem dX9_jobs_27 : decode cX9_jobs 27 = .ok (.getfield 58, 3) := by decide +kernel
theorem dX9_jobs_30 : decode cX9_jobs 30 = .ok (.aload_n 0, 1) := by decide +kernel
theorem dX9_jobs_31 : decode cX9_jobs 31 = .ok (.getfield 55, 3) := by decide +kernel
theorem dX9_jobs_34 : decode cX9_jobs 34 = .ok (.iastore, 1) := by decide +kernel
theorem dX9_jobs_35 : decode cX9_jobs 35 = .ok (.aload_n 0, 1) := by decide +kernel
theorem dX9_jobs_36 : decode cX9_jobs 36 = .ok (.aload_n 0, 1) := by decide +kernel
theorem dX9_jobs_37 : decode cX9_jobs 37 = .ok (.getfield 58, 3) := by decide +kernel
theorem dX9_jobs_40 : decode cX9_jobs 40 = .ok (.iconst 1, 1) := by decide +kernel
theorem dX9_jobs_41 : decode cX9_jobs 41 = .ok (.iadd, 1) := by decide +kernel
theorem dX9_jobs_42 : decode cX9_jobs 42 = .ok (.putfield 69, 3) := by decide +kernel
theorem dX9_jobs_45 : decode cX9_jobs 45 = .ok (.iconst 0, 1) := by decide +kernel
theorem dX9_jobs_46 : decode cX9_jobs 46 = .ok (.istore_n 1, 1) := by decide +kernel
theorem dX9_jobs_47 : decode cX9_jobs 47 = .ok (.iload_n 1, 1) := by decide +kernel
theorem dX9_jobs_48 : decode cX9_jobs 48 = .ok (.bipush 8, 2) := by decide +kernel
theorem dX9_jobs_50 : decode cX9_jobs 50 = .ok (.if_icmp .ge 35, 3) := by decide +kernel
theorem dX9_jobs_53 : decode cX9_jobs 53 = .ok (.aload_n 0, 1) := by decide +kernel
theorem dX9_jobs_54 : decode cX9_jobs 54 = .ok (.getfield 13, 3) := by decide +kernel
theorem dX9_jobs_57 : decode cX9_jobs 57 = .ok (.iload_n 1, 1) := by decide +kernel
theorem dX9_jobs_58 : decode cX9_jobs 58 = .ok (.aload_n 0, 1) := by decide +kernel
theorem dX9_jobs_59 : decode cX9_jobs 59 = .ok (.getfield 26, 3) := by decide +kernel
theorem dX9_jobs_62 : decode cX9_jobs 62 = .ok (.iload_n 1, 1) := by decide +kernel
theorem dX9_jobs_63 : decode cX9_jobs 63 = .ok (.iaload, 1) := by decide +kernel
theorem dX9_jobs_64 : decode cX9_jobs 64 = .ok (.iastore, 1) := by decide +kernel
theorem dX9_jobs_65 : decode cX9_jobs 65 = .ok (.aload_n 0, 1) := by decide +kernel
theorem dX9_jobs_66 : decode cX9_jobs 66 = .ok (.getfield 16, 3) := by decide +kernel
theorem dX9_jobs_69 : decode cX9_jobs 69 = .ok (.iload_n 1, 1) := by decide +kernel
theorem dX9_jobs_70 : decode cX9_jobs 70 = .ok (.iload_n 1, 1) := by decide +kernel
theorem dX9_jobs_71 : decode cX9_jobs 71 = .ok (.iastore, 1) := by decide +kernel
theorem dX9_jobs_72 : decode cX9_jobs 72 = .ok (.aload_n 0, 1) := by decide +kernel
theorem dX9_jobs_73 : decode cX9_jobs 73 = .ok (.getfield 19, 3) := by decide +kernel
theorem dX9_jobs_76 : decode cX9_jobs 76 = .ok (.iload_n 1, 1) := by decide +kernel
theorem dX9_jobs_77 : decode cX9_jobs 77 = .ok (.iconst 0, 1) := by decide +kernel
theorem dX9_jobs_78 : decode cX9_jobs 78 = .ok (.iastore, 1) := by decide +kernel
theorem dX9_jobs_79 : decode cX9_jobs 79 = .ok (.iinc 1 1, 3) := by decide +kernel
theorem dX9_jobs_82 : decode cX9_jobs 82 = .ok (.goto (-35), 3) := by decide +kernel
theorem dX9_jobs_85 : decode cX9_jobs 85 = .ok (.aload_n 0, 1) := by decide +kernel
theorem dX9_jobs_86 : decode cX9_jobs 86 = .ok (.iconst 0, 1) := by decide +kernel
theorem dX9_jobs_87 : decode cX9_jobs 87 = .ok (.putfield 72, 3) := by decide +kernel
theorem dX9_jobs_90 : decode cX9_jobs 90 = .ok (.aload_n 0, 1) := by decide +kernel
theorem dX9_jobs_91 : decode cX9_jobs 91 = .ok (.iconst 0, 1) := by decide +kernel
theorem dX9_jobs_92 : decode cX9_jobs 92 = .ok (.putfield 75, 3) := by decide +kernel
theorem dX9_jobs_95 : decode cX9_jobs 95 = .ok (.aload_n 0, 1) := by decide +kernel
theorem dX9_jobs_96 : decode cX9_jobs 96 = .ok (.dup, 1) := by decide +kernel
theorem dX9_jobs_97 : decode cX9_jobs 97 = .ok (.getfield 79, 3) := by decide +kernel
theorem dX9_jobs_100 : decode cX9_jobs 100 = .ok (.iconst 1, 1) := by decide +kernel
theorem dX9_jobs_101 : decode cX9_jobs 101 = .ok (.iadd, 1) := by decide +kernel
theorem dX9_jobs_102 : decode cX9_jobs 102 = .ok (.putfield 79, 3) := by decide +kernel
theorem dX9_jobs_105 : decode cX9_jobs 105 = .ok (.aload_n 0, 1) := by decide +kernel
theorem dX9_jobs_106 : decode cX9_jobs 106 = .ok (.iconst 0, 1) := by decide +kernel
theorem dX9_jobs_107 : decode cX9_jobs 107 = .ok (.putfield 52, 3) := by decide +kernel
theorem dX9_jobs_110 : decode cX9_jobs 110 = .ok (.aload_n 0, 1) := by decide +kernel
theorem dX9_jobs_111 : decode cX9_jobs 111 = .ok (.getfield 69, 3) := by decide +kernel
theorem dX9_jobs_114 : decode cX9_jobs 114 = .ok (.ireturn, 1) := by decide +kernel
set_option maxRecDepth 20000 in
theorem ggX9_isTool_X9_within : GoodIn wsX9_isTool wsX9_within := goodIn_r _ [4] (by decide +kernel) (by decide +kernel)
set_option maxRecDepth 20000 in
theorem gX9_isTool_X9_within : GoodIn wsX9_isTool (va_wsS RX9 48 yX9_within wsX9_within) := goodIn_app (goodIn_of _ (by decide +kernel)) ggX9_isTool_X9_within
theorem dX9_isTool_0 : decode cX9_isTool 0 = .ok (.iload_n 0, 1) := by decide +kernel
theorem dX9_isTool_1 : decode cX9_isTool 1 = .ok (.iconst 0, 1) := by decide +kernel
theorem dX9_isTool_2 : decode cX9_isTool 2 = .ok (.bipush 7, 2) := by decide +kernel
theorem dX9_isTool_4 : decode cX9_isTool 4 = .ok (.invokestatic 48, 3) := by decide +kernel
theorem dX9_isTool_7 : decode cX9_isTool 7 = .ok (.ireturn, 1) := by decide +kernel
set_option maxRecDepth 20000 in
theorem ggX9_isPlace_X9_within : GoodIn wsX9_isPlace wsX9_within := goodIn_r _ [5] (by decide +kernel) (by decide +kernel)
set_option maxRecDepth 20000 in
theorem gX9_isPlace_X9_within : GoodIn wsX9_isPlace (va_wsS RX9 48 yX9_within wsX9_within) := goodIn_app (goodIn_of _ (by decide +kernel)) ggX9_isPlace_X9_within
theorem dX9_isPlace_0 : decode cX9_isPlace 0 = .ok (.iload_n 1, 1) := by decide +kernel
theorem dX9_isPlace_1 : decode cX9_isPlace 1 = .ok (.iconst 0, 1) := by decide +kernel
theorem dX9_isPlace_2 : decode cX9_isPlace 2 = .ok (.aload_n 0, 1) := by decide +kernel
theorem dX9_isPlace_3 : decode cX9_isPlace 3 = .ok (.getfield 69, 3) := by decide +kernel
theorem dX9_isPlace_6 : decode cX9_isPlace 6 = .ok (.iconst 1, 1) := by decide +kernel
theorem dX9_isPlace_7 : decode cX9_isPlace 7 = .ok (.isub, 1) := by decide +kernel
theorem dX9_isPlace_8 : decode cX9_isPlace 8 = .ok (.invokestatic 48, 3) := by decide +kernel
theorem dX9_isPlace_11 : decode cX9_isPlace 11 = .ok (.ireturn, 1) := by decide +kernel
set_option maxRecDepth 20000 in
theorem ggX9_big_X9_isTool : GoodIn wsX9_big wsX9_isTool := goodIn_r _ [6, 7, 8, 5, 9] (by decide +kernel) (by decide +kernel)
set_option maxRecDepth 20000 in
theorem gX9_big_X9_isTool : GoodIn wsX9_big (va_wsS RX9 82 yX9_isTool wsX9_isTool) := goodIn_app (goodIn_of _ (by decide +kernel)) ggX9_big_X9_isTool
theorem dX9_big_0 : decode cX9_big 0 = .ok (.iload_n 1, 1) := by decide +kernel
theorem dX9_big_1 : decode cX9_big 1 = .ok (.invokestatic 82, 3) := by decide +kernel
theorem dX9_big_4 : decode cX9_big 4 = .ok (.ifCond .ne 7, 3) := by decide +kernel
theorem dX9_big_7 : decode cX9_big 7 = .ok (.sipush (-1001), 3) := by decide +kernel
theorem dX9_big_10 : decode cX9_big 10 = .ok (.ireturn, 1) := by decide +kernel
theorem dX9_big_11 : decode cX9_big 11 = .ok (.aload_n 0, 1) := by decide +kernel
theorem dX9_big_12 : decode cX9_big 12 = .ok (.getfield 45, 3) := by decide +kernel
theorem dX9_big_15 : decode cX9_big 15 = .ok (.iload_n 1, 1) := by decide +kernel
theorem dX9_big_16 : decode cX9_big 16 = .ok (.ishr, 1) := by decide +kernel
theorem dX9_big_17 : decode cX9_big 17 = .ok (.iconst 1, 1) := by decide +kernel
theorem dX9_big_18 : decode cX9_big 18 = .ok (.iand, 1) := by decide +kernel
theorem dX9_big_19 : decode cX9_big 19 = .ok (.istore_n 3, 1) := by decide +kernel
theorem dX9_big_20 : decode cX9_big 20 = .ok (.aload_n 0, 1) := by decide +kernel
theorem dX9_big_21 : decode cX9_big 21 = .ok (.iload_n 2, 1) := by decide +kernel
theorem dX9_big_22 : decode cX9_big 22 = .ok (.ifCond .eq 14, 3) := by decide +kernel
theorem dX9_big_25 : decode cX9_big 25 = .ok (.aload_n 0, 1) := by decide +kernel
theorem dX9_big_26 : decode cX9_big 26 = .ok (.getfield 45, 3) := by decide +kernel
theorem dX9_big_29 : decode cX9_big 29 = .ok (.iconst 1, 1) := by decide +kernel
theorem dX9_big_30 : decode cX9_big 30 = .ok (.iload_n 1, 1) := by decide +kernel
theorem dX9_big_31 : decode cX9_big 31 = .ok (.ishl, 1) := by decide +kernel
theorem dX9_big_32 : decode cX9_big 32 = .ok (.ior, 1) := by decide +kernel
theorem dX9_big_33 : decode cX9_big 33 = .ok (.goto 13, 3) := by decide +kernel
theorem dX9_big_36 : decode cX9_big 36 = .ok (.aload_n 0, 1) := by decide +kernel
theorem dX9_big_37 : decode cX9_big 37 = .ok (.getfield 45, 3) := by decide +kernel
theorem dX9_big_40 : decode cX9_big 40 = .ok (.iconst 1, 1) := by decide +kernel
theorem dX9_big_41 : decode cX9_big 41 = .ok (.iload_n 1, 1) := by decide +kernel
theorem dX9_big_42 : decode cX9_big 42 = .ok (.ishl, 1) := by decide +kernel
theorem dX9_big_43 : decode cX9_big 43 = .ok (.iconst (-1), 1) := by decide +kernel
theorem dX9_big_44 : decode cX9_big 44 = .ok (.ixor, 1) := by decide +kernel
theorem dX9_big_45 : decode cX9_big 45 = .ok (.iand, 1) := by decide +kernel
theorem dX9_big_46 : decode cX9_big 46 = .ok (.putfield 45, 3) := by decide +kernel
theorem dX9_big_49 : decode cX9_big 49 = .ok (.aload_n 0, 1) := by decide +kernel
theorem dX9_big_50 : decode cX9_big 50 = .ok (.iconst 0, 1) := by decide +kernel
theorem dX9_big_51 : decode cX9_big 51 = .ok (.putfield 75, 3) := by decide +kernel
theorem dX9_big_54 : decode cX9_big 54 = .ok (.iload_n 3, 1) := by decide +kernel
theorem dX9_big_55 : decode cX9_big 55 = .ok (.ireturn, 1) := by decide +kernel
set_option maxRecDepth 20000 in
theorem ggX9_pockets_X9_within : GoodIn wsX9_pockets wsX9_within := goodIn_r _ [6] (by decide +kernel) (by decide +kernel)
set_option maxRecDepth 20000 in
theorem gX9_pockets_X9_within : GoodIn wsX9_pockets (va_wsS RX9 48 yX9_within wsX9_within) := goodIn_app (goodIn_of _ (by decide +kernel)) ggX9_pockets_X9_within
theorem dX9_pockets_0 : decode cX9_pockets 0 = .ok (.iload_n 1, 1) := by decide +kernel
theorem dX9_pockets_1 : decode cX9_pockets 1 = .ok (.iconst 2, 1) := by decide +kernel
theorem dX9_pockets_2 : decode cX9_pockets 2 = .ok (.bipush 12, 2) := by decide +kernel
theorem dX9_pockets_4 : decode cX9_pockets 4 = .ok (.invokestatic 48, 3) := by decide +kernel
theorem dX9_pockets_7 : decode cX9_pockets 7 = .ok (.ifCond .ne 7, 3) := by decide +kernel
theorem dX9_pockets_10 : decode cX9_pockets 10 = .ok (.sipush (-1002), 3) := by decide +kernel
theorem dX9_pockets_13 : decode cX9_pockets 13 = .ok (.ireturn, 1) := by decide +kernel
theorem dX9_pockets_14 : decode cX9_pockets 14 = .ok (.aload_n 0, 1) := by decide +kernel
theorem dX9_pockets_15 : decode cX9_pockets 15 = .ok (.getfield 22, 3) := by decide +kernel
theorem dX9_pockets_18 : decode cX9_pockets 18 = .ok (.istore_n 2, 1) := by decide +kernel
theorem dX9_pockets_19 : decode cX9_pockets 19 = .ok (.aload_n 0, 1) := by decide +kernel
theorem dX9_pockets_20 : decode cX9_pockets 20 = .ok (.iload_n 1, 1) := by decide +kernel
theorem dX9_pockets_21 : decode cX9_pockets 21 = .ok (.putfield 22, 3) := by decide +kernel
theorem dX9_pockets_24 : decode cX9_pockets 24 = .ok (.aload_n 0, 1) := by decide +kernel
theorem dX9_pockets_25 : decode cX9_pockets 25 = .ok (.iconst 0, 1) := by decide +kernel
theorem dX9_pockets_26 : decode cX9_pockets 26 = .ok (.putfield 75, 3) := by decide +kernel
theorem dX9_pockets_29 : decode cX9_pockets 29 = .ok (.iload_n 2, 1) := by decide +kernel
theorem dX9_pockets_30 : decode cX9_pockets 30 = .ok (.ireturn, 1) := by decide +kernel
set_option maxRecDepth 20000 in
theorem ggX9_breaks_X9_isPlace : GoodIn wsX9_breaks wsX9_isPlace := goodIn_r _ [7, 8, 9, 10, 6, 11, 15, 16, 17, 18, 19, 20, 21, 22, 23, 24, 25, 26, 27, 28, 29, 30, 31, 32, 33, 34, 35, 36, 37] (by decide +kernel) (by decide +kernel)
set_option maxRecDepth 20000 in
theorem gX9_breaks_X9_isPlace : GoodIn wsX9_breaks (wsV RX9 85 RX9 yX9_isPlace wsX9_isPlace) := goodIn_app (goodIn_of _ (by decide +kernel)) ggX9_breaks_X9_isPlace
set_option maxRecDepth 20000 in
theorem ggX9_breaks_X9_isTool : GoodIn wsX9_breaks wsX9_isTool := goodIn_r _ [14, 9, 10, 6, 11] (by decide +kernel) (by decide +kernel)
set_option maxRecDepth 20000 in
theorem gX9_breaks_X9_isTool : GoodIn wsX9_breaks (va_wsS RX9 82 yX9_isTool wsX9_isTool) := goodIn_app (goodIn_of _ (by decide +kernel)) ggX9_breaks_X9_isTool
theorem dX9_breaks_0 : decode cX9_breaks 0 = .ok (.aload_n 0, 1) := by decide +kernel
theorem dX9_breaks_1 : decode cX9_breaks 1 = .ok (.iload_n 1, 1) := by decide +kernel
theorem dX9_breaks_2 : decode cX9_breaks 2 = .ok (.invokevirtual 85, 3) := by decide +kernel
theorem dX9_breaks_5 : decode cX9_breaks 5 = .ok (.ifCond .eq 10, 3) := by decide +kernel
theorem dX9_breaks_8 : decode cX9_breaks 8 = .ok (.iload_n 2, 1) := by decide +kernel
theorem dX9_breaks_9 : decode cX9_breaks 9 = .ok (.invokestatic 82, 3) := by decide +kernel
theorem dX9_breaks_12 : decode cX9_breaks 12 = .ok (.ifCond .ne 7, 3) := by decide +kernel
theorem dX9_breaks_15 : decode cX9_breaks 15 = .ok (.sipush (-1001), 3) := by decide +kernel
theorem dX9_breaks_18 : decode cX9_breaks 18 = .ok (.ireturn, 1) := by decide +kernel
theorem dX9_breaks_19 : decode cX9_breaks 19 = .ok (.aload_n 0, 1) := by decide +kernel
theorem dX9_breaks_20 : decode cX9_breaks 20 = .ok (.getfield 19, 3) := by decide +kernel
theorem dX9_breaks_23 : decode cX9_breaks 23 = .ok (.iload_n 1, 1) := by decide +kernel
theorem dX9_breaks_24 : decode cX9_breaks 24 = .ok (.iaload, 1) := by decide +kernel
theorem dX9_breaks_25 : decode cX9_breaks 25 = .ok (.iload_n 2, 1) := by decide +kernel
theorem dX9_breaks_26 : decode cX9_breaks 26 = .ok (.ishr, 1) := by decide +kernel
theorem dX9_breaks_27 : decode cX9_breaks 27 = .ok (.iconst 1, 1) := by decide +kernel
theorem dX9_breaks_28 : decode cX9_breaks 28 = .ok (.iand, 1) := by decide +kernel
theorem dX9_breaks_29 : decode cX9_breaks 29 = .ok (.istore 4, 2) := by decide +kernel
theorem dX9_breaks_31 : decode cX9_breaks 31 = .ok (.aload_n 0, 1) := by decide +kernel
theorem dX9_breaks_32 : decode cX9_breaks 32 = .ok (.getfield 19, 3) := by decide +kernel
theorem dX9_breaks_35 : decode cX9_breaks 35 = .ok (.iload_n 1, 1) := by decide +kernel
theorem dX9_breaks_36 : decode cX9_breaks 36 = .ok (.iload_n 3, 1) := by decide +kernel
theorem dX9_breaks_37 : decode cX9_breaks 37 = .ok (.ifCond .eq 16, 3) := by decide +kernel
theorem dX9_breaks_40 : decode cX9_breaks 40 = .ok (.aload_n 0, 1) := by decide +kernel
theorem dX9_breaks_41 : decode cX9_breaks 41 = .ok (.getfield 19, 3) := by decide +kernel
theorem dX9_breaks_44 : decode cX9_breaks 44 = .ok (.iload_n 1, 1) := by decide +kernel
theorem dX9_breaks_45 : decode cX9_breaks 45 = .ok (.iaload, 1) := by decide +kernel
theorem dX9_breaks_46 : decode cX9_breaks 46 = .ok (.iconst 1, 1) := by decide +kernel
theorem dX9_breaks_47 : decode cX9_breaks 47 = .ok (.iload_n 2, 1) := by decide +kernel
theorem dX9_breaks_48 : decode cX9_breaks 48 = .ok (.ishl, 1) := by decide +kernel
theorem dX9_breaks_49 : decode cX9_breaks 49 = .ok (.ior, 1) := by decide +kernel
theorem dX9_breaks_50 : decode cX9_breaks 50 = .ok (.goto 15, 3) := by decide +kernel
theorem dX9_breaks_53 : decode cX9_breaks 53 = .ok (.aload_n 0, 1) := by decide +kernel
theorem dX9_breaks_54 : decode cX9_breaks 54 = .ok (.getfield 19, 3) := by decide +kernel
theorem dX9_breaks_57 : decode cX9_breaks 57 = .ok (.iload_n 1, 1) := by decide +kernel
theorem dX9_breaks_58 : decode cX9_breaks 58 = .ok (.iaload, 1) := by decide +kernel
theorem dX9_breaks_59 : decode cX9_breaks 59 = .ok (.iconst 1, 1) := by decide +kernel
theorem dX9_breaks_60 : decode cX9_breaks 60 = .ok (.iload_n 2, 1) := by decide +kernel
theorem dX9_breaks_61 : decode cX9_breaks 61 = .ok (.ishl, 1) := by decide +kernel
theorem dX9_breaks_62 : decode cX9_breaks 62 = .ok (.iconst (-1), 1) := by decide +kernel
theorem dX9_breaks_63 : decode cX9_breaks 63 = .ok (.ixor, 1) := by decide +kernel
theorem dX9_breaks_64 : decode cX9_breaks 64 = .ok (.iand, 1) := by decide +kernel
theorem dX9_breaks_65 : decode cX9_breaks 65 = .ok (.iastore, 1) := by decide +kernel
theorem dX9_breaks_66 : decode cX9_breaks 66 = .ok (.aload_n 0, 1) := by decide +kernel
theorem dX9_breaks_67 : decode cX9_breaks 67 = .ok (.iconst 0, 1) := by decide +kernel
theorem dX9_breaks_68 : decode cX9_breaks 68 = .ok (.putfield 75, 3) := by decide +kernel
theorem dX9_breaks_71 : decode cX9_breaks 71 = .ok (.iload 4, 2) := by decide +kernel
theorem dX9_breaks_73 : decode cX9_breaks 73 = .ok (.ireturn, 1) := by decide +kernel
theorem dX9_change_0 : decode cX9_change 0 = .ok (.aload_n 0, 1) := by decide +kernel
theorem dX9_change_1 : decode cX9_change 1 = .ok (.getfield 16, 3) := by decide +kernel
theorem dX9_change_4 : decode cX9_change 4 = .ok (.iload_n 1, 1) := by decide +kernel
theorem dX9_change_5 : decode cX9_change 5 = .ok (.iaload, 1) := by decide +kernel
theorem dX9_change_6 : decode cX9_change 6 = .ok (.istore_n 3, 1) := by decide +kernel
theorem dX9_change_7 : decode cX9_change 7 = .ok (.aload_n 0, 1) := by decide +kernel
theorem dX9_change_8 : decode cX9_change 8 = .ok (.getfield 16, 3) := by decide +kernel
theorem dX9_change_11 : decode cX9_change 11 = .ok (.iload_n 1, 1) := by decide +kernel
theorem dX9_change_12 : decode cX9_change 12 = .ok (.aload_n 0, 1) := by decide +kernel
theorem dX9_change_13 : decode cX9_change 13 = .ok (.getfield 16, 3) := by decide +kernel
theorem dX9_change_16 : decode cX9_change 16 = .ok (.iload_n 2, 1) := by decide +kernel
theorem dX9_change_17 : decode cX9_change 17 = .ok (.iaload, 1) := by decide +kernel
theorem dX9_change_18 : decode cX9_change 18 = .ok (.iastore, 1) := by decide +kernel
theorem dX9_change_19 : decode cX9_change 19 = .ok (.aload_n 0, 1) := by decide +kernel
theorem dX9_change_20 : decode cX9_change 20 = .ok (.getfield 16, 3) := by decide +kernel
theorem dX9_change_23 : decode cX9_change 23 = .ok (.iload_n 2, 1) := by decide +kernel
theorem dX9_change_24 : decode cX9_change 24 = .ok (.iload_n 3, 1) := by decide +kernel
theorem dX9_change_25 : decode cX9_change 25 = .ok (.iastore, 1) := by decide +kernel
theorem dX9_change_26 : decode cX9_change 26 = .ok (.return_, 1) := by decide +kernel
set_option maxRecDepth 20000 in
theorem ggX9_swap_X9_isPlace : GoodIn wsX9_swap wsX9_isPlace := goodIn_r _ [7, 8, 9, 10, 6, 11, 17, 18, 19, 20, 21, 22, 23, 24, 25, 26, 27, 28, 29, 30, 31, 32, 33, 34, 35, 36, 37, 38, 39] (by decide +kernel) (by decide +kernel)
set_option maxRecDepth 20000 in
theorem gX9_swap_X9_isPlace : GoodIn wsX9_swap (wsV RX9 85 RX9 yX9_isPlace wsX9_isPlace) := goodIn_app (goodIn_of _ (by decide +kernel)) ggX9_swap_X9_isPlace
set_option maxRecDepth 20000 in
theorem ggX9_swap_X9_change : GoodIn wsX9_swap wsX9_change := goodIn_r _ [15, 16, 17, 18, 19, 20, 21, 22, 23, 24, 25, 26, 27, 28, 29, 30, 31, 32, 33, 34, 35, 36, 37, 38, 39] (by decide +kernel) (by decide +kernel)
set_option maxRecDepth 20000 in
theorem gX9_swap_X9_change : GoodIn wsX9_swap (wsV RX9 88 RX9 yX9_change wsX9_change) := goodIn_app (goodIn_of _ (by decide +kernel)) ggX9_swap_X9_change
theorem dX9_swap_0 : decode cX9_swap 0 = .ok (.aload_n 0, 1) := by decide +kernel
theorem dX9_swap_1 : decode cX9_swap 1 = .ok (.iload_n 1, 1) := by decide +kernel
theorem dX9_swap_2 : decode cX9_swap 2 = .ok (.invokevirtual 85, 3) := by decide +kernel
theorem dX9_swap_5 : decode cX9_swap 5 = .ok (.ifCond .eq 11, 3) := by decide +kernel
theorem dX9_swap_8 : decode cX9_swap 8 = .ok (.aload_n 0, 1) := by decide +kernel
theorem dX9_swap_9 : decode cX9_swap 9 = .ok (.iload_n 2, 1) := by decide +kernel
theorem dX9_swap_10 : decode cX9_swap 10 = .ok (.invokevirtual 85, 3) := by decide +kernel
theorem dX9_swap_13 : decode cX9_swap 13 = .ok (.ifCond .ne 7, 3) := by decide +kernel
theorem dX9_swap_16 : decode cX9_swap 16 = .ok (.sipush (-1001), 3) := by decide +kernel
theorem dX9_swap_19 : decode cX9_swap 19 = .ok (.ireturn, 1) := by decide +kernel
theorem dX9_swap_20 : decode cX9_swap 20 = .ok (.aload_n 0, 1) := by decide +kernel
theorem dX9_swap_21 : decode cX9_swap 21 = .ok (.iload_n 1, 1) := by decide +kernel
theorem dX9_swap_22 : decode cX9_swap 22 = .ok (.iload_n 2, 1) := by decide +kernel
theorem dX9_swap_23 : decode cX9_swap 23 = .ok (.invokevirtual 88, 3) := by decide +kernel
theorem dX9_swap_26 : decode cX9_swap 26 = .ok (.aload_n 0, 1) := by decide +kernel
theorem dX9_swap_27 : decode cX9_swap 27 = .ok (.dup, 1) := by decide +kernel
theorem dX9_swap_28 : decode cX9_swap 28 = .ok (.getfield 72, 3) := by decide +kernel
theorem dX9_swap_31 : decode cX9_swap 31 = .ok (.iconst 1, 1) := by decide +kernel
theorem dX9_swap_32 : decode cX9_swap 32 = .ok (.iadd, 1) := by decide +kernel
theorem dX9_swap_33 : decode cX9_swap 33 = .ok (.putfield 72, 3) := by decide +kernel
theorem dX9_swap_36 : decode cX9_swap 36 = .ok (.aload_n 0, 1) := by decide +kernel
theorem dX9_swap_37 : decode cX9_swap 37 = .ok (.iconst 0, 1) := by decide +kernel
theorem dX9_swap_38 : decode cX9_swap 38 = .ok (.putfield 75, 3) := by decide +kernel
theorem dX9_swap_41 : decode cX9_swap 41 = .ok (.aload_n 0, 1) := by decide +kernel
theorem dX9_swap_42 : decode cX9_swap 42 = .ok (.getfield 72, 3) := by decide +kernel
theorem dX9_swap_45 : decode cX9_swap 45 = .ok (.ireturn, 1) := by decide +kernel
set_option maxRecDepth 20000 in
theorem ggX9_as_X9_isTool : GoodIn wsX9_as wsX9_isTool := goodIn_r _ [5, 6, 7, 4, 8] (by decide +kernel) (by decide +kernel)
set_option maxRecDepth 20000 in
theorem gX9_as_X9_isTool : GoodIn wsX9_as (va_wsS RX9 82 yX9_isTool wsX9_isTool) := goodIn_app (goodIn_of _ (by decide +kernel)) ggX9_as_X9_isTool
set_option maxRecDepth 20000 in
theorem ggX9_as_X9_within : GoodIn wsX9_as wsX9_within := goodIn_r _ [8] (by decide +kernel) (by decide +kernel)
set_option maxRecDepth 20000 in
theorem gX9_as_X9_within : GoodIn wsX9_as (va_wsS RX9 48 yX9_within wsX9_within) := goodIn_app (goodIn_of _ (by decide +kernel)) ggX9_as_X9_within
set_option maxRecDepth 20000 in
theorem ggX9_as_X9_has : GoodIn wsX9_as wsX9_has := goodIn_r _ [11] (by decide +kernel) (by decide +kernel)
set_option maxRecDepth 20000 in
theorem gX9_as_X9_has : GoodIn wsX9_as (va_wsS RX9 92 yX9_has wsX9_has) := goodIn_app (goodIn_of _ (by decide +kernel)) ggX9_as_X9_has
theorem dX9_as_0 : decode cX9_as 0 = .ok (.iload_n 1, 1) := by decide +kernel
theorem dX9_as_1 : decode cX9_as 1 = .ok (.invokestatic 82, 3) := by decide +kernel
theorem dX9_as_4 : decode cX9_as 4 = .ok (.ifCond .ne 7, 3) := by decide +kernel
theorem dX9_as_7 : decode cX9_as 7 = .ok (.sipush (-1001), 3) := by decide +kernel
theorem dX9_as_10 : decode cX9_as 10 = .ok (.ireturn, 1) := by decide +kernel
theorem dX9_as_11 : decode cX9_as 11 = .ok (.iload_n 2, 1) := by decide +kernel
theorem dX9_as_12 : decode cX9_as 12 = .ok (.iconst 0, 1) := by decide +kernel
theorem dX9_as_13 : decode cX9_as 13 = .ok (.iconst 2, 1) := by decide +kernel
theorem dX9_as_14 : decode cX9_as 14 = .ok (.invokestatic 48, 3) := by decide +kernel
theorem dX9_as_17 : decode cX9_as 17 = .ok (.ifCond .ne 7, 3) := by decide +kernel
theorem dX9_as_20 : decode cX9_as 20 = .ok (.sipush (-1002), 3) := by decide +kernel
theorem dX9_as_23 : decode cX9_as 23 = .ok (.ireturn, 1) := by decide +kernel
theorem dX9_as_24 : decode cX9_as 24 = .ok (.iload_n 2, 1) := by decide +kernel
theorem dX9_as_25 : decode cX9_as 25 = .ok (.ifCond .eq 24, 3) := by decide +kernel
theorem dX9_as_28 : decode cX9_as 28 = .ok (.aload_n 0, 1) := by decide +kernel
theorem dX9_as_29 : decode cX9_as 29 = .ok (.getfield 45, 3) := by decide +kernel
theorem dX9_as_32 : decode cX9_as 32 = .ok (.iload_n 1, 1) := by decide +kernel
theorem dX9_as_33 : decode cX9_as 33 = .ok (.invokestatic 92, 3) := by decide +kernel
theorem dX9_as_36 : decode cX9_as 36 = .ok (.iload_n 2, 1) := by decide +kernel
theorem dX9_as_37 : decode cX9_as 37 = .ok (.iconst 2, 1) := by decide +kernel
theorem dX9_as_38 : decode cX9_as 38 = .ok (.if_icmp .ne 7, 3) := by decide +kernel
theorem dX9_as_41 : decode cX9_as 41 = .ok (.iconst 1, 1) := by decide +kernel
theorem dX9_as_42 : decode cX9_as 42 = .ok (.goto 4, 3) := by decide +kernel
theorem dX9_as_45 : decode cX9_as 45 = .ok (.iconst 0, 1) := by decide +kernel
theorem dX9_as_46 : decode cX9_as 46 = .ok (.if_icmp .ne 7, 3) := by decide +kernel
theorem dX9_as_49 : decode cX9_as 49 = .ok (.iload_n 1, 1) := by decide +kernel
theorem dX9_as_50 : decode cX9_as 50 = .ok (.goto 4, 3) := by decide +kernel
theorem dX9_as_53 : decode cX9_as 53 = .ok (.iconst (-1), 1) := by decide +kernel
theorem dX9_as_54 : decode cX9_as 54 = .ok (.ireturn, 1) := by decide +kernel
theorem dX9_needs_0 : decode cX9_needs 0 = .ok (.aload_n 0, 1) := by decide +kernel
theorem dX9_needs_1 : decode cX9_needs 1 = .ok (.getfield 13, 3) := by decide +kernel
theorem dX9_needs_4 : decode cX9_needs 4 = .ok (.aload_n 0, 1) := by decide +kernel
theorem dX9_needs_5 : decode cX9_needs 5 = .ok (.getfield 16, 3) := by decide +kernel
theorem dX9_needs_8 : decode cX9_needs 8 = .ok (.iload_n 1, 1) := by decide +kernel
theorem dX9_needs_9 : decode cX9_needs 9 = .ok (.iaload, 1) := by decide +kernel
theorem dX9_needs_10 : decode cX9_needs 10 = .ok (.iaload, 1) := by decide +kernel
theorem dX9_needs_11 : decode cX9_needs 11 = .ok (.ireturn, 1) := by decide +kernel
set_option maxRecDepth 20000 in
theorem ggX9_jobNow_X9_needs : GoodIn wsX9_jobNow wsX9_needs := goodIn_r _ [7, 8, 1, 9, 10, 11, 12, 13, 14, 15, 16, 17, 18, 19, 20, 21, 22, 23, 24, 25, 26, 27, 28, 29, 30, 31] (by decide +kernel) (by decide +kernel)
set_option maxRecDepth 20000 in
theorem gX9_jobNow_X9_needs : GoodIn wsX9_jobNow (wsV RX9 96 RX9 yX9_needs wsX9_needs) := goodIn_app (goodIn_of _ (by decide +kernel)) ggX9_jobNow_X9_needs
theorem dX9_jobNow_0 : decode cX9_jobNow 0 = .ok (.iload_n 2, 1) := by decide +kernel
theorem dX9_jobNow_1 : decode cX9_jobNow 1 = .ok (.ifCond .ne 11, 3) := by decide +kernel
theorem dX9_jobNow_4 : decode cX9_jobNow 4 = .ok (.aload_n 0, 1) := by decide +kernel
theorem dX9_jobNow_5 : decode cX9_jobNow 5 = .ok (.iload_n 1, 1) := by decide +kernel
theorem dX9_jobNow_6 : decode cX9_jobNow 6 = .ok (.invokevirtual 96, 3) := by decide +kernel
theorem dX9_jobNow_9 : decode cX9_jobNow 9 = .ok (.goto 23, 3) := by decide +kernel
theorem dX9_jobNow_12 : decode cX9_jobNow 12 = .ok (.iload_n 2, 1) := by decide +kernel
theorem dX9_jobNow_13 : decode cX9_jobNow 13 = .ok (.iconst 1, 1) := by decide +kernel
theorem dX9_jobNow_14 : decode cX9_jobNow 14 = .ok (.if_icmp .ne 12, 3) := by decide +kernel
theorem dX9_jobNow_17 : decode cX9_jobNow 17 = .ok (.aload_n 0, 1) := by decide +kernel
theorem dX9_jobNow_18 : decode cX9_jobNow 18 = .ok (.getfield 16, 3) := by decide +kernel
theorem dX9_jobNow_21 : decode cX9_jobNow 21 = .ok (.iload_n 1, 1) := by decide +kernel
theorem dX9_jobNow_22 : decode cX9_jobNow 22 = .ok (.iaload, 1) := by decide +kernel
theorem dX9_jobNow_23 : decode cX9_jobNow 23 = .ok (.goto 9, 3) := by decide +kernel
theorem dX9_jobNow_26 : decode cX9_jobNow 26 = .ok (.aload_n 0, 1) := by decide +kernel
theorem dX9_jobNow_27 : decode cX9_jobNow 27 = .ok (.getfield 19, 3) := by decide +kernel
theorem dX9_jobNow_30 : decode cX9_jobNow 30 = .ok (.iload_n 1, 1) := by decide +kernel
theorem dX9_jobNow_31 : decode cX9_jobNow 31 = .ok (.iaload, 1) := by decide +kernel
theorem dX9_jobNow_32 : decode cX9_jobNow 32 = .ok (.ireturn, 1) := by decide +kernel
set_option maxRecDepth 20000 in
theorem ggX9_job_X9_isPlace : GoodIn wsX9_job wsX9_isPlace := goodIn_r _ [5, 6, 7, 8, 4, 9, 21, 22, 23, 24, 25, 26, 27, 28, 29, 30, 31, 32, 33, 34, 35, 36, 37, 38, 39, 40, 41, 42, 43] (by decide +kernel) (by decide +kernel)
set_option maxRecDepth 20000 in
theorem gX9_job_X9_isPlace : GoodIn wsX9_job (wsV RX9 85 RX9 yX9_isPlace wsX9_isPlace) := goodIn_app (goodIn_of _ (by decide +kernel)) ggX9_job_X9_isPlace
set_option maxRecDepth 20000 in
theorem ggX9_job_X9_within : GoodIn wsX9_job wsX9_within := goodIn_r _ [9] (by decide +kernel) (by decide +kernel)
set_option maxRecDepth 20000 in
theorem gX9_job_X9_within : GoodIn wsX9_job (va_wsS RX9 48 yX9_within wsX9_within) := goodIn_app (goodIn_of _ (by decide +kernel)) ggX9_job_X9_within
set_option maxRecDepth 20000 in
theorem ggX9_job_X9_jobNow : GoodIn wsX9_job wsX9_jobNow := goodIn_r _ [13, 14, 15, 16, 17, 18, 4, 19, 20, 21, 22, 23, 24, 25, 26, 27, 28, 29, 30, 31, 32, 33, 34, 35, 36, 37, 38, 39, 40, 41, 42, 43] (by decide +kernel) (by decide +kernel)
set_option maxRecDepth 20000 in
theorem gX9_job_X9_jobNow : GoodIn wsX9_job (wsV RX9 99 RX9 yX9_jobNow wsX9_jobNow) := goodIn_app (goodIn_of _ (by decide +kernel)) ggX9_job_X9_jobNow
theorem dX9_job_0 : decode cX9_job 0 = .ok (.aload_n 0, 1) := by decide +kernel
theorem dX9_job_1 : decode cX9_job 1 = .ok (.iload_n 1, 1) := by decide +kernel
theorem dX9_job_2 : decode cX9_job 2 = .ok (.invokevirtual 85, 3) := by decide +kernel
theorem dX9_job_5 : decode cX9_job 5 = .ok (.ifCond .ne 7, 3) := by decide +kernel
theorem dX9_job_8 : decode cX9_job 8 = .ok (.sipush (-1001), 3) := by decide +kernel
theorem dX9_job_11 : decode cX9_job 11 = .ok (.ireturn, 1) := by decide +kernel
theorem dX9_job_12 : decode cX9_job 12 = .ok (.iload_n 2, 1) := by decide +kernel
theorem dX9_job_13 : decode cX9_job 13 = .ok (.iconst 0, 1) := by decide +kernel
theorem dX9_job_14 : decode cX9_job 14 = .ok (.iconst 2, 1) := by decide +kernel
theorem dX9_job_15 : decode cX9_job 15 = .ok (.invokestatic 48, 3) := by decide +kernel
theorem dX9_job_18 : decode cX9_job 18 = .ok (.ifCond .eq 12, 3) := by decide +kernel
theorem dX9_job_21 : decode cX9_job 21 = .ok (.aload_n 0, 1) := by decide +kernel
theorem dX9_job_22 : decode cX9_job 22 = .ok (.iload_n 1, 1) := by decide +kernel
theorem dX9_job_23 : decode cX9_job 23 = .ok (.iload_n 2, 1) := by decide +kernel
theorem dX9_job_24 : decode cX9_job 24 = .ok (.invokevirtual 99, 3) := by decide +kernel
theorem dX9_job_27 : decode cX9_job 27 = .ok (.goto 6, 3) := by decide +kernel
theorem dX9_job_30 : decode cX9_job 30 = .ok (.sipush (-1002), 3) := by decide +kernel
theorem dX9_job_33 : decode cX9_job 33 = .ok (.ireturn, 1) := by decide +kernel
set_option maxRecDepth 20000 in
theorem ggX9_nextOf_X9_has : GoodIn wsX9_nextOf wsX9_has := goodIn_r _ [6] (by decide +kernel) (by decide +kernel)
set_option maxRecDepth 20000 in
theorem gX9_nextOf_X9_has : GoodIn wsX9_nextOf (va_wsS RX9 92 yX9_has wsX9_has) := goodIn_app (goodIn_of _ (by decide +kernel)) ggX9_nextOf_X9_has
set_option maxRecDepth 20000 in
theorem ggX9_nextOf_X9_needs : GoodIn wsX9_nextOf wsX9_needs := goodIn_r _ [10, 11, 12, 13, 14, 15, 16, 17, 18, 19, 20, 21, 22, 23, 24, 25, 26, 27, 28, 29, 30, 31, 32, 33, 34, 35] (by decide +kernel) (by decide +kernel)
set_option maxRecDepth 20000 in
theorem gX9_nextOf_X9_needs : GoodIn wsX9_nextOf (wsV RX9 96 RX9 yX9_needs wsX9_needs) := goodIn_app (goodIn_of _ (by decide +kernel)) ggX9_nextOf_X9_needs
theorem dX9_nextOf_0 : decode cX9_nextOf 0 = .ok (.iload_n 1, 1) := by decide +kernel
theorem dX9_nextOf_1 : decode cX9_nextOf 1 = .ok (.istore_n 3, 1) := by decide +kernel
theorem dX9_nextOf_2 : decode cX9_nextOf 2 = .ok (.iload_n 3, 1) := by decide +kernel
theorem dX9_nextOf_3 : decode cX9_nextOf 3 = .ok (.iconst 1, 1) := by decide +kernel
theorem dX9_nextOf_4 : decode cX9_nextOf 4 = .ok (.iadd, 1) := by decide +kernel
theorem dX9_nextOf_5 : decode cX9_nextOf 5 = .ok (.aload_n 0, 1) := by decide +kernel
theorem dX9_nextOf_6 : decode cX9_nextOf 6 = .ok (.getfield 69, 3) := by decide +kernel
theorem dX9_nextOf_9 : decode cX9_nextOf 9 = .ok (.if_icmp .ge 42, 3) := by decide +kernel
theorem dX9_nextOf_12 : decode cX9_nextOf 12 = .ok (.aload_n 0, 1) := by decide +kernel
theorem dX9_nextOf_13 : decode cX9_nextOf 13 = .ok (.getfield 19, 3) := by decide +kernel
theorem dX9_nextOf_16 : decode cX9_nextOf 16 = .ok (.iload_n 3, 1) := by decide +kernel
theorem dX9_nextOf_17 : decode cX9_nextOf 17 = .ok (.iaload, 1) := by decide +kernel
theorem dX9_nextOf_18 : decode cX9_nextOf 18 = .ok (.iload_n 2, 1) := by decide +kernel
theorem dX9_nextOf_19 : decode cX9_nextOf 19 = .ok (.invokestatic 92, 3) := by decide +kernel
theorem dX9_nextOf_22 : decode cX9_nextOf 22 = .ok (.ifCond .eq 5, 3) := by decide +kernel
theorem dX9_nextOf_25 : decode cX9_nextOf 25 = .ok (.iconst (-1), 1) := by decide +kernel
theorem dX9_nextOf_26 : decode cX9_nextOf 26 = .ok (.ireturn, 1) := by decide +kernel
theorem dX9_nextOf_27 : decode cX9_nextOf 27 = .ok (.aload_n 0, 1) := by decide +kernel
theorem dX9_nextOf_28 : decode cX9_nextOf 28 = .ok (.iload_n 3, 1) := by decide +kernel
theorem dX9_nextOf_29 : decode cX9_nextOf 29 = .ok (.iconst 1, 1) := by decide +kernel
theorem dX9_nextOf_30 : decode cX9_nextOf 30 = .ok (.iadd, 1) := by decide +kernel
theorem dX9_nextOf_31 : decode cX9_nextOf 31 = .ok (.invokevirtual 96, 3) := by decide +kernel
theorem dX9_nextOf_34 : decode cX9_nextOf 34 = .ok (.iload_n 2, 1) := by decide +kernel
theorem dX9_nextOf_35 : decode cX9_nextOf 35 = .ok (.invokestatic 92, 3) := by decide +kernel
theorem dX9_nextOf_38 : decode cX9_nextOf 38 = .ok (.ifCond .eq 7, 3) := by decide +kernel
theorem dX9_nextOf_41 : decode cX9_nextOf 41 = .ok (.iload_n 3, 1) := by decide +kernel
theorem dX9_nextOf_42 : decode cX9_nextOf 42 = .ok (.iconst 1, 1) := by decide +kernel
theorem dX9_nextOf_43 : decode cX9_nextOf 43 = .ok (.iadd, 1) := by decide +kernel
theorem dX9_nextOf_44 : decode cX9_nextOf 44 = .ok (.ireturn, 1) := by decide +kernel
theorem dX9_nextOf_45 : decode cX9_nextOf 45 = .ok (.iinc 3 1, 3) := by decide +kernel
theorem dX9_nextOf_48 : decode cX9_nextOf 48 = .ok (.goto (-46), 3) := by decide +kernel
theorem dX9_nextOf_51 : decode cX9_nextOf 51 = .ok (.iconst (-1), 1) := by decide +kernel
theorem dX9_nextOf_52 : decode cX9_nextOf 52 = .ok (.ireturn, 1) := by decide +kernel
set_option maxRecDepth 20000 in
theorem ggX9_next_X9_isPlace : GoodIn wsX9_next wsX9_isPlace := goodIn_r _ [5, 6, 7, 8, 4, 9, 27, 28, 29, 30, 31, 32, 33, 34, 35, 36, 37, 38, 39, 40, 41, 42, 43, 44, 45, 46, 47, 48, 49] (by decide +kernel) (by decide +kernel)
set_option maxRecDepth 20000 in
theorem gX9_next_X9_isPlace : GoodIn wsX9_next (wsV RX9 85 RX9 yX9_isPlace wsX9_isPlace) := goodIn_app (goodIn_of _ (by decide +kernel)) ggX9_next_X9_isPlace
set_option maxRecDepth 20000 in
theorem ggX9_next_X9_isTool : GoodIn wsX9_next wsX9_isTool := goodIn_r _ [12, 7, 8, 4, 9] (by decide +kernel) (by decide +kernel)
set_option maxRecDepth 20000 in
theorem gX9_next_X9_isTool : GoodIn wsX9_next (va_wsS RX9 82 yX9_isTool wsX9_isTool) := goodIn_app (goodIn_of _ (by decide +kernel)) ggX9_next_X9_isTool
set_option maxRecDepth 20000 in
theorem ggX9_next_X9_nextOf : GoodIn wsX9_next wsX9_nextOf := goodIn_r _ [16, 6, 17, 18, 19, 4, 20, 21, 22, 23, 24, 25, 26, 27, 28, 29, 30, 31, 32, 33, 34, 35, 36, 37, 38, 39, 40, 41, 42, 43, 44, 45, 46, 47, 48, 49] (by decide +kernel) (by decide +kernel)
set_option maxRecDepth 20000 in
theorem gX9_next_X9_nextOf : GoodIn wsX9_next (wsV RX9 103 RX9 yX9_nextOf wsX9_nextOf) := goodIn_app (goodIn_of _ (by decide +kernel)) ggX9_next_X9_nextOf
theorem dX9_next_0 : decode cX9_next 0 = .ok (.aload_n 0, 1) := by decide +kernel
theorem dX9_next_1 : decode cX9_next 1 = .ok (.iload_n 1, 1) := by decide +kernel
theorem dX9_next_2 : decode cX9_next 2 = .ok (.invokevirtual 85, 3) := by decide +kernel
theorem dX9_next_5 : decode cX9_next 5 = .ok (.ifCond .eq 19, 3) := by decide +kernel
theorem dX9_next_8 : decode cX9_next 8 = .ok (.iload_n 2, 1) := by decide +kernel
theorem dX9_next_9 : decode cX9_next 9 = .ok (.invokestatic 82, 3) := by decide +kernel
theorem dX9_next_12 : decode cX9_next 12 = .ok (.ifCond .eq 12, 3) := by decide +kernel
theorem dX9_next_15 : decode cX9_next 15 = .ok (.aload_n 0, 1) := by decide +kernel
theorem dX9_next_16 : decode cX9_next 16 = .ok (.iload_n 1, 1) := by decide +kernel
theorem dX9_next_17 : decode cX9_next 17 = .ok (.iload_n 2, 1) := by decide +kernel
theorem dX9_next_18 : decode cX9_next 18 = .ok (.invokevirtual 103, 3) := by decide +kernel
theorem dX9_next_21 : decode cX9_next 21 = .ok (.goto 6, 3) := by decide +kernel
theorem dX9_next_24 : decode cX9_next 24 = .ok (.sipush (-1001), 3) := by decide +kernel
theorem dX9_next_27 : decode cX9_next 27 = .ok (.ireturn, 1) := by decide +kernel
set_option maxRecDepth 20000 in
theorem ggX9_isTooBig_X9_needs : GoodIn wsX9_isTooBig wsX9_needs := goodIn_r _ [7, 8, 9, 18, 19, 20, 21, 22, 23, 24, 25, 26, 27, 28, 29, 30, 31, 32, 33, 34, 35, 36, 37, 38, 39, 40] (by decide +kernel) (by decide +kernel)
set_option maxRecDepth 20000 in
theorem gX9_isTooBig_X9_needs : GoodIn wsX9_isTooBig (wsV RX9 96 RX9 yX9_needs wsX9_needs) := goodIn_app (goodIn_of _ (by decide +kernel)) ggX9_isTooBig_X9_needs
set_option maxRecDepth 20000 in
theorem ggX9_isTooBig_X9_sizeOf : GoodIn wsX9_isTooBig wsX9_sizeOf := goodIn_r _ [13, 14, 15, 16, 6, 17, 18, 19, 20, 21, 22, 23, 24, 25, 26, 27, 28, 29, 30, 31, 32, 33, 34, 35, 36, 37, 38, 39, 40] (by decide +kernel) (by decide +kernel)
set_option maxRecDepth 20000 in
theorem gX9_isTooBig_X9_sizeOf : GoodIn wsX9_isTooBig (wsV RX9 106 RX9 yX9_sizeOf wsX9_sizeOf) := goodIn_app (goodIn_of _ (by decide +kernel)) ggX9_isTooBig_X9_sizeOf
theorem dX9_isTooBig_0 : decode cX9_isTooBig 0 = .ok (.iconst 0, 1) := by decide +kernel
theorem dX9_isTooBig_1 : decode cX9_isTooBig 1 = .ok (.istore_n 1, 1) := by decide +kernel
theorem dX9_isTooBig_2 : decode cX9_isTooBig 2 = .ok (.iconst 0, 1) := by decide +kernel
theorem dX9_isTooBig_3 : decode cX9_isTooBig 3 = .ok (.istore_n 2, 1) := by decide +kernel
theorem dX9_isTooBig_4 : decode cX9_isTooBig 4 = .ok (.iload_n 2, 1) := by decide +kernel
theorem dX9_isTooBig_5 : decode cX9_isTooBig 5 = .ok (.aload_n 0, 1) := by decide +kernel
theorem dX9_isTooBig_6 : decode cX9_isTooBig 6 = .ok (.getfield 69, 3) := by decide +kernel
theorem dX9_isTooBig_9 : decode cX9_isTooBig 9 = .ok (.if_icmp .ge 35, 3) := by decide +kernel
theorem dX9_isTooBig_12 : decode cX9_isTooBig 12 = .ok (.iload_n 1, 1) := by decide +kernel
theorem dX9_isTooBig_13 : decode cX9_isTooBig 13 = .ok (.ifCond .ne 19, 3) := by decide +kernel
theorem dX9_isTooBig_16 : decode cX9_isTooBig 16 = .ok (.aload_n 0, 1) := by decide +kernel
theorem dX9_isTooBig_17 : decode cX9_isTooBig 17 = .ok (.aload_n 0, 1) := by decide +kernel
theorem dX9_isTooBig_18 : decode cX9_isTooBig 18 = .ok (.iload_n 2, 1) := by decide +kernel
theorem dX9_isTooBig_19 : decode cX9_isTooBig 19 = .ok (.invokevirtual 96, 3) := by decide +kernel
theorem dX9_isTooBig_22 : decode cX9_isTooBig 22 = .ok (.invokevirtual 106, 3) := by decide +kernel
theorem dX9_isTooBig_25 : decode cX9_isTooBig 25 = .ok (.aload_n 0, 1) := by decide +kernel
theorem dX9_isTooBig_26 : decode cX9_isTooBig 26 = .ok (.getfield 22, 3) := by decide +kernel
theorem dX9_isTooBig_29 : decode cX9_isTooBig 29 = .ok (.if_icmp .le 7, 3) := by decide +kernel
theorem dX9_isTooBig_32 : decode cX9_isTooBig 32 = .ok (.iconst 1, 1) := by decide +kernel
theorem dX9_isTooBig_33 : decode cX9_isTooBig 33 = .ok (.goto 4, 3) := by decide +kernel
theorem dX9_isTooBig_36 : decode cX9_isTooBig 36 = .ok (.iconst 0, 1) := by decide +kernel
theorem dX9_isTooBig_37 : decode cX9_isTooBig 37 = .ok (.istore_n 1, 1) := by decide +kernel
theorem dX9_isTooBig_38 : decode cX9_isTooBig 38 = .ok (.iinc 2 1, 3) := by decide +kernel
theorem dX9_isTooBig_41 : decode cX9_isTooBig 41 = .ok (.goto (-37), 3) := by decide +kernel
theorem dX9_isTooBig_44 : decode cX9_isTooBig 44 = .ok (.iload_n 1, 1) := by decide +kernel
theorem dX9_isTooBig_45 : decode cX9_isTooBig 45 = .ok (.ireturn, 1) := by decide +kernel
set_option maxRecDepth 20000 in
theorem ggX9_late_X9_nextOf : GoodIn wsX9_late wsX9_nextOf := goodIn_r _ [5, 6, 7, 8, 9, 4, 10, 11, 12, 13, 14, 15, 16, 17, 18, 19, 20, 21, 22, 23, 24, 25, 26, 27, 28, 29, 30, 31, 32, 33, 34, 35, 36, 37, 38, 39] (by decide +kernel) (by decide +kernel)
set_option maxRecDepth 20000 in
theorem gX9_late_X9_nextOf : GoodIn wsX9_late (wsV RX9 103 RX9 yX9_nextOf wsX9_nextOf) := goodIn_app (goodIn_of _ (by decide +kernel)) ggX9_late_X9_nextOf
theorem dX9_late_0 : decode cX9_late 0 = .ok (.aload_n 0, 1) := by decide +kernel
theorem dX9_late_1 : decode cX9_late 1 = .ok (.iload_n 1, 1) := by decide +kernel
theorem dX9_late_2 : decode cX9_late 2 = .ok (.iload_n 2, 1) := by decide +kernel
theorem dX9_late_3 : decode cX9_late 3 = .ok (.invokevirtual 103, 3) := by decide +kernel
theorem dX9_late_6 : decode cX9_late 6 = .ok (.istore_n 3, 1) := by decide +kernel
theorem dX9_late_7 : decode cX9_late 7 = .ok (.iload_n 3, 1) := by decide +kernel
theorem dX9_late_8 : decode cX9_late 8 = .ok (.iconst (-1), 1) := by decide +kernel
theorem dX9_late_9 : decode cX9_late 9 = .ok (.if_icmp .ne 8, 3) := by decide +kernel
theorem dX9_late_12 : decode cX9_late 12 = .ok (.bipush 8, 2) := by decide +kernel
theorem dX9_late_14 : decode cX9_late 14 = .ok (.goto 4, 3) := by decide +kernel
theorem dX9_late_17 : decode cX9_late 17 = .ok (.iload_n 3, 1) := by decide +kernel
theorem dX9_late_18 : decode cX9_late 18 = .ok (.ireturn, 1) := by decide +kernel
set_option maxRecDepth 20000 in
theorem ggX9_goesFirst_X9_has : GoodIn wsX9_goesFirst wsX9_has := goodIn_r _ [5] (by decide +kernel) (by decide +kernel)
set_option maxRecDepth 20000 in
theorem gX9_goesFirst_X9_has : GoodIn wsX9_goesFirst (va_wsS RX9 92 yX9_has wsX9_has) := goodIn_app (goodIn_of _ (by decide +kernel)) ggX9_goesFirst_X9_has
set_option maxRecDepth 20000 in
theorem ggX9_goesFirst_X9_late : GoodIn wsX9_goesFirst wsX9_late := goodIn_r _ [9, 10, 11, 12, 4, 13, 14, 15, 2, 3, 5, 16, 17, 18, 19, 20, 21, 22, 23, 24, 25, 26, 27, 28, 29, 30, 31, 32, 33, 34, 35, 36, 37, 38, 39, 40, 41, 42, 43, 44] (by decide +kernel) (by decide +kernel)
set_option maxRecDepth 20000 in
theorem gX9_goesFirst_X9_late : GoodIn wsX9_goesFirst (wsV RX9 109 RX9 yX9_late wsX9_late) := goodIn_app (goodIn_of _ (by decide +kernel)) ggX9_goesFirst_X9_late
theorem dX9_goesFirst_0 : decode cX9_goesFirst 0 = .ok (.iconst (-1), 1) := by decide +kernel
theorem dX9_goesFirst_1 : decode cX9_goesFirst 1 = .ok (.istore_n 3, 1) := by decide +kernel
theorem dX9_goesFirst_2 : decode cX9_goesFirst 2 = .ok (.iconst 0, 1) := by decide +kernel
theorem dX9_goesFirst_3 : decode cX9_goesFirst 3 = .ok (.istore 4, 2) := by decide +kernel
theorem dX9_goesFirst_5 : decode cX9_goesFirst 5 = .ok (.iload 4, 2) := by decide +kernel
theorem dX9_goesFirst_7 : decode cX9_goesFirst 7 = .ok (.bipush 8, 2) := by decide +kernel
theorem dX9_goesFirst_9 : decode cX9_goesFirst 9 = .ok (.if_icmp .ge 106, 3) := by decide +kernel
theorem dX9_goesFirst_12 : decode cX9_goesFirst 12 = .ok (.iload_n 2, 1) := by decide +kernel
theorem dX9_goesFirst_13 : decode cX9_goesFirst 13 = .ok (.iload 4, 2) := by decide +kernel
theorem dX9_goesFirst_15 : decode cX9_goesFirst 15 = .ok (.invokestatic 92, 3) := by decide +kernel
theorem dX9_goesFirst_18 : decode cX9_goesFirst 18 = .ok (.ifCond .eq 91, 3) := by decide +kernel
theorem dX9_goesFirst_21 : decode cX9_goesFirst 21 = .ok (.bipush 100, 2) := by decide +kernel
theorem dX9_goesFirst_23 : decode cX9_goesFirst 23 = .ok (.aload_n 0, 1) := by decide +kernel
theorem dX9_goesFirst_24 : decode cX9_goesFirst 24 = .ok (.iload_n 1, 1) := by decide +kernel
theorem dX9_goesFirst_25 : decode cX9_goesFirst 25 = .ok (.iload 4, 2) := by decide +kernel
theorem dX9_goesFirst_27 : decode cX9_goesFirst 27 = .ok (.invokevirtual 109, 3) := by decide +kernel
theorem dX9_goesFirst_30 : decode cX9_goesFirst 30 = .ok (.imul, 1) := by decide +kernel
theorem dX9_goesFirst_31 : decode cX9_goesFirst 31 = .ok (.aload_n 0, 1) := by decide +kernel
theorem dX9_goesFirst_32 : decode cX9_goesFirst 32 = .ok (.getfield 45, 3) := by decide +kernel
theorem dX9_goesFirst_35 : decode cX9_goesFirst 35 = .ok (.iload 4, 2) := by decide +kernel
theorem dX9_goesFirst_37 : decode cX9_goesFirst 37 = .ok (.invokestatic 92, 3) := by decide +kernel
theorem dX9_goesFirst_40 : decode cX9_goesFirst 40 = .ok (.ifCond .eq 8, 3) := by decide +kernel
theorem dX9_goesFirst_43 : decode cX9_goesFirst 43 = .ok (.bipush 10, 2) := by decide +kernel
theorem dX9_goesFirst_45 : decode cX9_goesFirst 45 = .ok (.goto 4, 3) := by decide +kernel
theorem dX9_goesFirst_48 : decode cX9_goesFirst 48 = .ok (.iconst 0, 1) := by decide +kernel
theorem dX9_goesFirst_49 : decode cX9_goesFirst 49 = .ok (.iadd, 1) := by decide +kernel
theorem dX9_goesFirst_50 : decode cX9_goesFirst 50 = .ok (.iload 4, 2) := by decide +kernel
theorem dX9_goesFirst_52 : decode cX9_goesFirst 52 = .ok (.iadd, 1) := by decide +kernel
theorem dX9_goesFirst_53 : decode cX9_goesFirst 53 = .ok (.istore 5, 2) := by decide +kernel
theorem dX9_goesFirst_55 : decode cX9_goesFirst 55 = .ok (.iload_n 3, 1) := by decide +kernel
theorem dX9_goesFirst_56 : decode cX9_goesFirst 56 = .ok (.iconst (-1), 1) := by decide +kernel
theorem dX9_goesFirst_57 : decode cX9_goesFirst 57 = .ok (.if_icmp .ne 7, 3) := by decide +kernel
theorem dX9_goesFirst_60 : decode cX9_goesFirst 60 = .ok (.iconst (-1), 1) := by decide +kernel
theorem dX9_goesFirst_61 : decode cX9_goesFirst 61 = .ok (.goto 32, 3) := by decide +kernel
theorem dX9_goesFirst_64 : decode cX9_goesFirst 64 = .ok (.bipush 100, 2) := by decide +kernel
theorem dX9_goesFirst_66 : decode cX9_goesFirst 66 = .ok (.aload_n 0, 1) := by decide +kernel
theorem dX9_goesFirst_67 : decode cX9_goesFirst 67 = .ok (.iload_n 1, 1) := by decide +kernel
theorem dX9_goesFirst_68 : decode cX9_goesFirst 68 = .ok (.iload_n 3, 1) := by decide +kernel
theorem dX9_goesFirst_69 : decode cX9_goesFirst 69 = .ok (.invokevirtual 109, 3) := by decide +kernel
theorem dX9_goesFirst_72 : decode cX9_goesFirst 72 = .ok (.imul, 1) := by decide +kernel
theorem dX9_goesFirst_73 : decode cX9_goesFirst 73 = .ok (.aload_n 0, 1) := by decide +kernel
theorem dX9_goesFirst_74 : decode cX9_goesFirst 74 = .ok (.getfield 45, 3) := by decide +kernel
theorem dX9_goesFirst_77 : decode cX9_goesFirst 77 = .ok (.iload_n 3, 1) := by decide +kernel
theorem dX9_goesFirst_78 : decode cX9_goesFirst 78 = .ok (.invokestatic 92, 3) := by decide +kernel
theorem dX9_goesFirst_81 : decode cX9_goesFirst 81 = .ok (.ifCond .eq 8, 3) := by decide +kernel
theorem dX9_goesFirst_84 : decode cX9_goesFirst 84 = .ok (.bipush 10, 2) := by decide +kernel
theorem dX9_goesFirst_86 : decode cX9_goesFirst 86 = .ok (.goto 4, 3) := by decide +kernel
theorem dX9_goesFirst_89 : decode cX9_goesFirst 89 = .ok (.iconst 0, 1) := by decide +kernel
theorem dX9_goesFirst_90 : decode cX9_goesFirst 90 = .ok (.iadd, 1) := by decide +kernel
theorem dX9_goesFirst_91 : decode cX9_goesFirst 91 = .ok (.iload_n 3, 1) := by decide +kernel
theorem dX9_goesFirst_92 : decode cX9_goesFirst 92 = .ok (.iadd, 1) := by decide +kernel
theorem dX9_goesFirst_93 : decode cX9_goesFirst 93 = .ok (.istore 6, 2) := by decide +kernel
theorem dX9_goesFirst_95 : decode cX9_goesFirst 95 = .ok (.iload 5, 2) := by decide +kernel
theorem dX9_goesFirst_97 : decode cX9_goesFirst 97 = .ok (.iload 6, 2) := by decide +kernel
theorem dX9_goesFirst_99 : decode cX9_goesFirst 99 = .ok (.if_icmp .le 8, 3) := by decide +kernel
theorem dX9_goesFirst_102 : decode cX9_goesFirst 102 = .ok (.iload 4, 2) := by decide +kernel
theorem dX9_goesFirst_104 : decode cX9_goesFirst 104 = .ok (.goto 4, 3) := by decide +kernel
theorem dX9_goesFirst_107 : decode cX9_goesFirst 107 = .ok (.iload_n 3, 1) := by decide +kernel
theorem dX9_goesFirst_108 : decode cX9_goesFirst 108 = .ok (.istore_n 3, 1) := by decide +kernel
theorem dX9_goesFirst_109 : decode cX9_goesFirst 109 = .ok (.iinc 4 1, 3) := by decide +kernel
theorem dX9_goesFirst_112 : decode cX9_goesFirst 112 = .ok (.goto (-107), 3) := by decide +kernel
theorem dX9_goesFirst_115 : decode cX9_goesFirst 115 = .ok (.iload_n 3, 1) := by decide +kernel
theorem dX9_goesFirst_116 : decode cX9_goesFirst 116 = .ok (.ireturn, 1) := by decide +kernel
set_option maxRecDepth 20000 in
theorem ggX9_laySoonest_X9_needs : GoodIn wsX9_laySoonest wsX9_needs := goodIn_r _ [11, 12, 13, 30, 31, 32, 33, 34, 35, 36, 37, 38, 39, 40, 41, 42, 43, 44, 45, 46, 47, 48, 49, 50, 51, 52] (by decide +kernel) (by decide +kernel)
set_option maxRecDepth 20000 in
theorem gX9_laySoonest_X9_needs : GoodIn wsX9_laySoonest (wsV RX9 96 RX9 yX9_needs wsX9_needs) := goodIn_app (goodIn_of _ (by decide +kernel)) ggX9_laySoonest_X9_needs
set_option maxRecDepth 20000 in
theorem ggX9_laySoonest_X9_goesFirst : GoodIn wsX9_laySoonest wsX9_goesFirst := goodIn_r _ [17, 18, 19, 20, 10, 21, 22, 23, 24, 25, 26, 27, 28, 29, 1, 6, 7, 8, 9, 11, 12, 13, 30, 31, 32, 33, 34, 35, 36, 37, 38, 39, 40, 41, 42, 43, 44, 45, 46, 47, 48, 49, 50, 51, 52] (by decide +kernel) (by decide +kernel)
set_option maxRecDepth 20000 in
theorem gX9_laySoonest_X9_goesFirst : GoodIn wsX9_laySoonest (wsV RX9 112 RX9 yX9_goesFirst wsX9_goesFirst) := goodIn_app (goodIn_of _ (by decide +kernel)) ggX9_laySoonest_X9_goesFirst
theorem dX9_laySoonest_0 : decode cX9_laySoonest 0 = .ok (.iconst 0, 1) := by decide +kernel
theorem dX9_laySoonest_1 : decode cX9_laySoonest 1 = .ok (.istore_n 1, 1) := by decide +kernel
theorem dX9_laySoonest_2 : decode cX9_laySoonest 2 = .ok (.iconst 0, 1) := by decide +kernel
theorem dX9_laySoonest_3 : decode cX9_laySoonest 3 = .ok (.istore_n 2, 1) := by decide +kernel
theorem dX9_laySoonest_4 : decode cX9_laySoonest 4 = .ok (.iload_n 2, 1) := by decide +kernel
theorem dX9_laySoonest_5 : decode cX9_laySoonest 5 = .ok (.aload_n 0, 1) := by decide +kernel
theorem dX9_laySoonest_6 : decode cX9_laySoonest 6 = .ok (.getfield 69, 3) := by decide +kernel
theorem dX9_laySoonest_9 : decode cX9_laySoonest 9 = .ok (.if_icmp .ge 79, 3) := by decide +kernel
theorem dX9_laySoonest_12 : decode cX9_laySoonest 12 = .ok (.aload_n 0, 1) := by decide +kernel
theorem dX9_laySoonest_13 : decode cX9_laySoonest 13 = .ok (.getfield 29, 3) := by decide +kernel
theorem dX9_laySoonest_16 : decode cX9_laySoonest 16 = .ok (.iload_n 2, 1) := by decide +kernel
theorem dX9_laySoonest_17 : decode cX9_laySoonest 17 = .ok (.iload_n 1, 1) := by decide +kernel
theorem dX9_laySoonest_18 : decode cX9_laySoonest 18 = .ok (.iastore, 1) := by decide +kernel
theorem dX9_laySoonest_19 : decode cX9_laySoonest 19 = .ok (.iload_n 1, 1) := by decide +kernel
theorem dX9_laySoonest_20 : decode cX9_laySoonest 20 = .ok (.aload_n 0, 1) := by decide +kernel
theorem dX9_laySoonest_21 : decode cX9_laySoonest 21 = .ok (.iload_n 2, 1) := by decide +kernel
theorem dX9_laySoonest_22 : decode cX9_laySoonest 22 = .ok (.invokevirtual 96, 3) := by decide +kernel
theorem dX9_laySoonest_25 : decode cX9_laySoonest 25 = .ok (.ior, 1) := by decide +kernel
theorem dX9_laySoonest_26 : decode cX9_laySoonest 26 = .ok (.istore_n 1, 1) := by decide +kernel
theorem dX9_laySoonest_27 : decode cX9_laySoonest 27 = .ok (.aload_n 0, 1) := by decide +kernel
theorem dX9_laySoonest_28 : decode cX9_laySoonest 28 = .ok (.getfield 38, 3) := by decide +kernel
theorem dX9_laySoonest_31 : decode cX9_laySoonest 31 = .ok (.iload_n 1, 1) := by decide +kernel
theorem dX9_laySoonest_32 : decode cX9_laySoonest 32 = .ok (.iaload, 1) := by decide +kernel
theorem dX9_laySoonest_33 : decode cX9_laySoonest 33 = .ok (.aload_n 0, 1) := by decide +kernel
theorem dX9_laySoonest_34 : decode cX9_laySoonest 34 = .ok (.getfield 22, 3) := by decide +kernel
theorem dX9_laySoonest_37 : decode cX9_laySoonest 37 = .ok (.if_icmp .le 27, 3) := by decide +kernel
theorem dX9_laySoonest_40 : decode cX9_laySoonest 40 = .ok (.iload_n 1, 1) := by decide +kernel
theorem dX9_laySoonest_41 : decode cX9_laySoonest 41 = .ok (.iconst 1, 1) := by decide +kernel
theorem dX9_laySoonest_42 : decode cX9_laySoonest 42 = .ok (.aload_n 0, 1) := by decide +kernel
theorem dX9_laySoonest_43 : decode cX9_laySoonest 43 = .ok (.iload_n 2, 1) := by decide +kernel
theorem dX9_laySoonest_44 : decode cX9_laySoonest 44 = .ok (.iload_n 1, 1) := by decide +kernel
theorem dX9_laySoonest_45 : decode cX9_laySoonest 45 = .ok (.aload_n 0, 1) := by decide +kernel
theorem dX9_laySoonest_46 : decode cX9_laySoonest 46 = .ok (.iload_n 2, 1) := by decide +kernel
theorem dX9_laySoonest_47 : decode cX9_laySoonest 47 = .ok (.invokevirtual 96, 3) := by decide +kernel
theorem dX9_laySoonest_50 : decode cX9_laySoonest 50 = .ok (.iconst (-1), 1) := by decide +kernel
theorem dX9_laySoonest_51 : decode cX9_laySoonest 51 = .ok (.ixor, 1) := by decide +kernel
theorem dX9_laySoonest_52 : decode cX9_laySoonest 52 = .ok (.iand, 1) := by decide +kernel
theorem dX9_laySoonest_53 : decode cX9_laySoonest 53 = .ok (.invokevirtual 112, 3) := by decide +kernel
theorem dX9_laySoonest_56 : decode cX9_laySoonest 56 = .ok (.ishl, 1) := by decide +kernel
theorem dX9_laySoonest_57 : decode cX9_laySoonest 57 = .ok (.iconst (-1), 1) := by decide +kernel
theorem dX9_laySoonest_58 : decode cX9_laySoonest 58 = .ok (.ixor, 1) := by decide +kernel
theorem dX9_laySoonest_59 : decode cX9_laySoonest 59 = .ok (.iand, 1) := by decide +kernel
theorem dX9_laySoonest_60 : decode cX9_laySoonest 60 = .ok (.istore_n 1, 1) := by decide +kernel
theorem dX9_laySoonest_61 : decode cX9_laySoonest 61 = .ok (.goto (-34), 3) := by decide +kernel
theorem dX9_laySoonest_64 : decode cX9_laySoonest 64 = .ok (.aload_n 0, 1) := by decide +kernel
theorem dX9_laySoonest_65 : decode cX9_laySoonest 65 = .ok (.getfield 32, 3) := by decide +kernel
theorem dX9_laySoonest_68 : decode cX9_laySoonest 68 = .ok (.iload_n 2, 1) := by decide +kernel
theorem dX9_laySoonest_69 : decode cX9_laySoonest 69 = .ok (.iload_n 1, 1) := by decide +kernel
theorem dX9_laySoonest_70 : decode cX9_laySoonest 70 = .ok (.iastore, 1) := by decide +kernel
theorem dX9_laySoonest_71 : decode cX9_laySoonest 71 = .ok (.iload_n 1, 1) := by decide +kernel
theorem dX9_laySoonest_72 : decode cX9_laySoonest 72 = .ok (.aload_n 0, 1) := by decide +kernel
theorem dX9_laySoonest_73 : decode cX9_laySoonest 73 = .ok (.getfield 19, 3) := by decide +kernel
theorem dX9_laySoonest_76 : decode cX9_laySoonest 76 = .ok (.iload_n 2, 1) := by decide +kernel
theorem dX9_laySoonest_77 : decode cX9_laySoonest 77 = .ok (.iaload, 1) := by decide +kernel
theorem dX9_laySoonest_78 : decode cX9_laySoonest 78 = .ok (.iconst (-1), 1) := by decide +kernel
theorem dX9_laySoonest_79 : decode cX9_laySoonest 79 = .ok (.ixor, 1) := by decide +kernel
theorem dX9_laySoonest_80 : decode cX9_laySoonest 80 = .ok (.iand, 1) := by decide +kernel
theorem dX9_laySoonest_81 : decode cX9_laySoonest 81 = .ok (.istore_n 1, 1) := by decide +kernel
theorem dX9_laySoonest_82 : decode cX9_laySoonest 82 = .ok (.iinc 2 1, 3) := by decide +kernel
theorem dX9_laySoonest_85 : decode cX9_laySoonest 85 = .ok (.goto (-81), 3) := by decide +kernel
theorem dX9_laySoonest_88 : decode cX9_laySoonest 88 = .ok (.return_, 1) := by decide +kernel
set_option maxRecDepth 20000 in
theorem ggX9_costBy_X9_needs : GoodIn wsX9_costBy wsX9_needs := goodIn_r _ [8, 9, 10, 11, 12, 13, 14, 15, 16, 17, 18, 19, 20, 21, 22, 23, 24, 25, 26, 27, 28, 29, 30, 31, 32, 33] (by decide +kernel) (by decide +kernel)
set_option maxRecDepth 20000 in
theorem gX9_costBy_X9_needs : GoodIn wsX9_costBy (wsV RX9 96 RX9 yX9_needs wsX9_needs) := goodIn_app (goodIn_of _ (by decide +kernel)) ggX9_costBy_X9_needs
theorem dX9_costBy_0 : decode cX9_costBy 0 = .ok (.aload_n 0, 1) := by decide +kernel
theorem dX9_costBy_1 : decode cX9_costBy 1 = .ok (.getfield 38, 3) := by decide +kernel
theorem dX9_costBy_4 : decode cX9_costBy 4 = .ok (.aload_n 0, 1) := by decide +kernel
theorem dX9_costBy_5 : decode cX9_costBy 5 = .ok (.iload_n 1, 1) := by decide +kernel
theorem dX9_costBy_6 : decode cX9_costBy 6 = .ok (.invokevirtual 96, 3) := by decide +kernel
theorem dX9_costBy_9 : decode cX9_costBy 9 = .ok (.iload_n 2, 1) := by decide +kernel
theorem dX9_costBy_10 : decode cX9_costBy 10 = .ok (.iconst (-1), 1) := by decide +kernel
theorem dX9_costBy_11 : decode cX9_costBy 11 = .ok (.ixor, 1) := by decide +kernel
theorem dX9_costBy_12 : decode cX9_costBy 12 = .ok (.iand, 1) := by decide +kernel
theorem dX9_costBy_13 : decode cX9_costBy 13 = .ok (.iaload, 1) := by decide +kernel
theorem dX9_costBy_14 : decode cX9_costBy 14 = .ok (.aload_n 0, 1) := by decide +kernel
theorem dX9_costBy_15 : decode cX9_costBy 15 = .ok (.getfield 35, 3) := by decide +kernel
theorem dX9_costBy_18 : decode cX9_costBy 18 = .ok (.sipush 256, 3) := by decide +kernel
theorem dX9_costBy_21 : decode cX9_costBy 21 = .ok (.iload_n 1, 1) := by decide +kernel
theorem dX9_costBy_22 : decode cX9_costBy 22 = .ok (.iconst 1, 1) := by decide +kernel
theorem dX9_costBy_23 : decode cX9_costBy 23 = .ok (.iadd, 1) := by decide +kernel
theorem dX9_costBy_24 : decode cX9_costBy 24 = .ok (.imul, 1) := by decide +kernel
theorem dX9_costBy_25 : decode cX9_costBy 25 = .ok (.iload_n 3, 1) := by decide +kernel
theorem dX9_costBy_26 : decode cX9_costBy 26 = .ok (.aload_n 0, 1) := by decide +kernel
theorem dX9_costBy_27 : decode cX9_costBy 27 = .ok (.getfield 19, 3) := by decide +kernel
theorem dX9_costBy_30 : decode cX9_costBy 30 = .ok (.iload_n 1, 1) := by decide +kernel
theorem dX9_costBy_31 : decode cX9_costBy 31 = .ok (.iaload, 1) := by decide +kernel
theorem dX9_costBy_32 : decode cX9_costBy 32 = .ok (.iconst (-1), 1) := by decide +kernel
theorem dX9_costBy_33 : decode cX9_costBy 33 = .ok (.ixor, 1) := by decide +kernel
theorem dX9_costBy_34 : decode cX9_costBy 34 = .ok (.iand, 1) := by decide +kernel
theorem dX9_costBy_35 : decode cX9_costBy 35 = .ok (.iadd, 1) := by decide +kernel
theorem dX9_costBy_36 : decode cX9_costBy 36 = .ok (.iaload, 1) := by decide +kernel
theorem dX9_costBy_37 : decode cX9_costBy 37 = .ok (.iadd, 1) := by decide +kernel
theorem dX9_costBy_38 : decode cX9_costBy 38 = .ok (.ireturn, 1) := by decide +kernel
set_option maxRecDepth 20000 in
theorem ggX9_leastOf_X9_needs : GoodIn wsX9_leastOf wsX9_needs := goodIn_r _ [8, 9, 10, 17, 18, 19, 20, 21, 22, 23, 24, 25, 26, 27, 28, 29, 30, 31, 32, 33, 34, 35, 36, 37, 38, 39] (by decide +kernel) (by decide +kernel)
set_option maxRecDepth 20000 in
theorem gX9_leastOf_X9_needs : GoodIn wsX9_leastOf (wsV RX9 96 RX9 yX9_needs wsX9_needs) := goodIn_app (goodIn_of _ (by decide +kernel)) ggX9_leastOf_X9_needs
set_option maxRecDepth 20000 in
theorem ggX9_leastOf_X9_costBy : GoodIn wsX9_leastOf wsX9_costBy := goodIn_r _ [14, 2, 15, 16, 4, 5, 6, 7, 8, 9, 10, 17, 18, 19, 20, 21, 22, 23, 24, 25, 26, 27, 28, 29, 30, 31, 32, 33, 34, 35, 36, 37, 38, 39] (by decide +kernel) (by decide +kernel)
set_option maxRecDepth 20000 in
theorem gX9_leastOf_X9_costBy : GoodIn wsX9_leastOf (wsV RX9 116 RX9 yX9_costBy wsX9_costBy) := goodIn_app (goodIn_of _ (by decide +kernel)) ggX9_leastOf_X9_costBy
theorem dX9_leastOf_0 : decode cX9_leastOf 0 = .ok (.iload_n 2, 1) := by decide +kernel
theorem dX9_leastOf_1 : decode cX9_leastOf 1 = .ok (.aload_n 0, 1) := by decide +kernel
theorem dX9_leastOf_2 : decode cX9_leastOf 2 = .ok (.iload_n 1, 1) := by decide +kernel
theorem dX9_leastOf_3 : decode cX9_leastOf 3 = .ok (.invokevirtual 96, 3) := by decide +kernel
theorem dX9_leastOf_6 : decode cX9_leastOf 6 = .ok (.iconst (-1), 1) := by decide +kernel
theorem dX9_leastOf_7 : decode cX9_leastOf 7 = .ok (.ixor, 1) := by decide +kernel
theorem dX9_leastOf_8 : decode cX9_leastOf 8 = .ok (.iand, 1) := by decide +kernel
theorem dX9_leastOf_9 : decode cX9_leastOf 9 = .ok (.istore_n 3, 1) := by decide +kernel
theorem dX9_leastOf_10 : decode cX9_leastOf 10 = .ok (.ldc 115, 2) := by decide +kernel
theorem dX9_leastOf_12 : decode cX9_leastOf 12 = .ok (.istore 4, 2) := by decide +kernel
theorem dX9_leastOf_14 : decode cX9_leastOf 14 = .ok (.iload_n 3, 1) := by decide +kernel
theorem dX9_leastOf_15 : decode cX9_leastOf 15 = .ok (.istore 5, 2) := by decide +kernel
theorem dX9_leastOf_17 : decode cX9_leastOf 17 = .ok (.iconst 1, 1) := by decide +kernel
theorem dX9_leastOf_18 : decode cX9_leastOf 18 = .ok (.istore 6, 2) := by decide +kernel
theorem dX9_leastOf_20 : decode cX9_leastOf 20 = .ok (.iload 6, 2) := by decide +kernel
theorem dX9_leastOf_22 : decode cX9_leastOf 22 = .ok (.ifCond .eq 81, 3) := by decide +kernel
theorem dX9_leastOf_25 : decode cX9_leastOf 25 = .ok (.aload_n 0, 1) := by decide +kernel
theorem dX9_leastOf_26 : decode cX9_leastOf 26 = .ok (.iload_n 1, 1) := by decide +kernel
theorem dX9_leastOf_27 : decode cX9_leastOf 27 = .ok (.invokevirtual 96, 3) := by decide +kernel
theorem dX9_leastOf_30 : decode cX9_leastOf 30 = .ok (.iload 5, 2) := by decide +kernel
theorem dX9_leastOf_32 : decode cX9_leastOf 32 = .ok (.ior, 1) := by decide +kernel
theorem dX9_leastOf_33 : decode cX9_leastOf 33 = .ok (.istore 7, 2) := by decide +kernel
theorem dX9_leastOf_35 : decode cX9_leastOf 35 = .ok (.aload_n 0, 1) := by decide +kernel
theorem dX9_leastOf_36 : decode cX9_leastOf 36 = .ok (.getfield 38, 3) := by decide +kernel
theorem dX9_leastOf_39 : decode cX9_leastOf 39 = .ok (.iload 7, 2) := by decide +kernel
theorem dX9_leastOf_41 : decode cX9_leastOf 41 = .ok (.iaload, 1) := by decide +kernel
theorem dX9_leastOf_42 : decode cX9_leastOf 42 = .ok (.aload_n 0, 1) := by decide +kernel
theorem dX9_leastOf_43 : decode cX9_leastOf 43 = .ok (.getfield 22, 3) := by decide +kernel
theorem dX9_leastOf_46 : decode cX9_leastOf 46 = .ok (.if_icmp .gt 14, 3) := by decide +kernel
theorem dX9_leastOf_49 : decode cX9_leastOf 49 = .ok (.aload_n 0, 1) := by decide +kernel
theorem dX9_leastOf_50 : decode cX9_leastOf 50 = .ok (.iload_n 1, 1) := by decide +kernel
theorem dX9_leastOf_51 : decode cX9_leastOf 51 = .ok (.iload_n 2, 1) := by decide +kernel
theorem dX9_leastOf_52 : decode cX9_leastOf 52 = .ok (.iload 7, 2) := by decide +kernel
theorem dX9_leastOf_54 : decode cX9_leastOf 54 = .ok (.invokevirtual 116, 3) := by decide +kernel
theorem dX9_leastOf_57 : decode cX9_leastOf 57 = .ok (.goto 5, 3) := by decide +kernel
theorem dX9_leastOf_60 : decode cX9_leastOf 60 = .ok (.ldc 115, 2) := by decide +kernel
theorem dX9_leastOf_62 : decode cX9_leastOf 62 = .ok (.istore 8, 2) := by decide +kernel
theorem dX9_leastOf_64 : decode cX9_leastOf 64 = .ok (.iload 8, 2) := by decide +kernel
theorem dX9_leastOf_66 : decode cX9_leastOf 66 = .ok (.iload 4, 2) := by decide +kernel
theorem dX9_leastOf_68 : decode cX9_leastOf 68 = .ok (.if_icmp .ge 8, 3) := by decide +kernel
theorem dX9_leastOf_71 : decode cX9_leastOf 71 = .ok (.iload 8, 2) := by decide +kernel
theorem dX9_leastOf_73 : decode cX9_leastOf 73 = .ok (.goto 5, 3) := by decide +kernel
theorem dX9_leastOf_76 : decode cX9_leastOf 76 = .ok (.iload 4, 2) := by decide +kernel
theorem dX9_leastOf_78 : decode cX9_leastOf 78 = .ok (.istore 4, 2) := by decide +kernel
theorem dX9_leastOf_80 : decode cX9_leastOf 80 = .ok (.iload 5, 2) := by decide +kernel
theorem dX9_leastOf_82 : decode cX9_leastOf 82 = .ok (.ifCond .eq 7, 3) := by decide +kernel
theorem dX9_leastOf_85 : decode cX9_leastOf 85 = .ok (.iconst 1, 1) := by decide +kernel
theorem dX9_leastOf_86 : decode cX9_leastOf 86 = .ok (.goto 4, 3) := by decide +kernel
theorem dX9_leastOf_89 : decode cX9_leastOf 89 = .ok (.iconst 0, 1) := by decide +kernel
theorem dX9_leastOf_90 : decode cX9_leastOf 90 = .ok (.istore 6, 2) := by decide +kernel
theorem dX9_leastOf_92 : decode cX9_leastOf 92 = .ok (.iload 5, 2) := by decide +kernel
theorem dX9_leastOf_94 : decode cX9_leastOf 94 = .ok (.iconst 1, 1) := by decide +kernel
theorem dX9_leastOf_95 : decode cX9_leastOf 95 = .ok (.isub, 1) := by decide +kernel
theorem dX9_leastOf_96 : decode cX9_leastOf 96 = .ok (.iload_n 3, 1) := by decide +kernel
theorem dX9_leastOf_97 : decode cX9_leastOf 97 = .ok (.iand, 1) := by decide +kernel
theorem dX9_leastOf_98 : decode cX9_leastOf 98 = .ok (.istore 5, 2) := by decide +kernel
theorem dX9_leastOf_100 : decode cX9_leastOf 100 = .ok (.goto (-80), 3) := by decide +kernel
theorem dX9_leastOf_103 : decode cX9_leastOf 103 = .ok (.iload 4, 2) := by decide +kernel
theorem dX9_leastOf_105 : decode cX9_leastOf 105 = .ok (.ireturn, 1) := by decide +kernel
set_option maxRecDepth 20000 in
theorem ggX9_layLeast_X9_leastOf : GoodIn wsX9_layLeast wsX9_leastOf := goodIn_r _ [10, 5, 3, 4, 11, 12, 13, 9, 14, 15, 16, 17, 18, 19, 20, 1, 21, 22, 23, 24, 25, 26, 27, 28, 29, 30, 31, 32, 33, 34, 35, 36, 37, 38, 39, 40, 41, 42, 43, 44] (by decide +kernel) (by decide +kernel)
set_option maxRecDepth 20000 in
theorem gX9_layLeast_X9_leastOf : GoodIn wsX9_layLeast (wsV RX9 120 RX9 yX9_leastOf wsX9_leastOf) := goodIn_app (goodIn_of _ (by decide +kernel)) ggX9_layLeast_X9_leastOf
theorem dX9_layLeast_0 : decode cX9_layLeast 0 = .ok (.iconst 0, 1) := by decide +kernel
theorem dX9_layLeast_1 : decode cX9_layLeast 1 = .ok (.istore_n 1, 1) := by decide +kernel
theorem dX9_layLeast_2 : decode cX9_layLeast 2 = .ok (.iload_n 1, 1) := by decide +kernel
theorem dX9_layLeast_3 : decode cX9_layLeast 3 = .ok (.sipush 255, 3) := by decide +kernel
theorem dX9_layLeast_6 : decode cX9_layLeast 6 = .ok (.if_icmp .gt 25, 3) := by decide +kernel
theorem dX9_layLeast_9 : decode cX9_layLeast 9 = .ok (.aload_n 0, 1) := by decide +kernel
theorem dX9_layLeast_10 : decode cX9_layLeast 10 = .ok (.getfield 35, 3) := by decide +kernel
theorem dX9_layLeast_13 : decode cX9_layLeast 13 = .ok (.sipush 256, 3) := by decide +kernel
theorem dX9_layLeast_16 : decode cX9_layLeast 16 = .ok (.aload_n 0, 1) := by decide +kernel
theorem dX9_layLeast_17 : decode cX9_layLeast 17 = .ok (.getfield 69, 3) := by decide +kernel
theorem dX9_layLeast_20 : decode cX9_layLeast 20 = .ok (.imul, 1) := by decide +kernel
theorem dX9_layLeast_21 : decode cX9_layLeast 21 = .ok (.iload_n 1, 1) := by decide +kernel
theorem dX9_layLeast_22 : decode cX9_layLeast 22 = .ok (.iadd, 1) := by decide +kernel
theorem dX9_layLeast_23 : decode cX9_layLeast 23 = .ok (.iconst 0, 1) := by decide +kernel
theorem dX9_layLeast_24 : decode cX9_layLeast 24 = .ok (.iastore, 1) := by decide +kernel
theorem dX9_layLeast_25 : decode cX9_layLeast 25 = .ok (.iinc 1 1, 3) := by decide +kernel
theorem dX9_layLeast_28 : decode cX9_layLeast 28 = .ok (.goto (-26), 3) := by decide +kernel
theorem dX9_layLeast_31 : decode cX9_layLeast 31 = .ok (.aload_n 0, 1) := by decide +kernel
theorem dX9_layLeast_32 : decode cX9_layLeast 32 = .ok (.getfield 69, 3) := by decide +kernel
theorem dX9_layLeast_35 : decode cX9_layLeast 35 = .ok (.iconst 1, 1) := by decide +kernel
theorem dX9_layLeast_36 : decode cX9_layLeast 36 = .ok (.isub, 1) := by decide +kernel
theorem dX9_layLeast_37 : decode cX9_layLeast 37 = .ok (.istore_n 1, 1) := by decide +kernel
theorem dX9_layLeast_38 : decode cX9_layLeast 38 = .ok (.iload_n 1, 1) := by decide +kernel
theorem dX9_layLeast_39 : decode cX9_layLeast 39 = .ok (.ifCond .lt 68, 3) := by decide +kernel
theorem dX9_layLeast_42 : decode cX9_layLeast 42 = .ok (.iconst 0, 1) := by decide +kernel
theorem dX9_layLeast_43 : decode cX9_layLeast 43 = .ok (.istore_n 2, 1) := by decide +kernel
theorem dX9_layLeast_44 : decode cX9_layLeast 44 = .ok (.iload_n 2, 1) := by decide +kernel
theorem dX9_layLeast_45 : decode cX9_layLeast 45 = .ok (.sipush 255, 3) := by decide +kernel
theorem dX9_layLeast_48 : decode cX9_layLeast 48 = .ok (.if_icmp .gt 53, 3) := by decide +kernel
theorem dX9_layLeast_51 : decode cX9_layLeast 51 = .ok (.iload_n 1, 1) := by decide +kernel
theorem dX9_layLeast_52 : decode cX9_layLeast 52 = .ok (.ifCond .gt 7, 3) := by decide +kernel
theorem dX9_layLeast_55 : decode cX9_layLeast 55 = .ok (.iload_n 2, 1) := by decide +kernel
theorem dX9_layLeast_56 : decode cX9_layLeast 56 = .ok (.ifCond .ne 45, 3) := by decide +kernel
theorem dX9_layLeast_59 : decode cX9_layLeast 59 = .ok (.aload_n 0, 1) := by decide +kernel
theorem dX9_layLeast_60 : decode cX9_layLeast 60 = .ok (.getfield 35, 3) := by decide +kernel
theorem dX9_layLeast_63 : decode cX9_layLeast 63 = .ok (.sipush 256, 3) := by decide +kernel
theorem dX9_layLeast_66 : decode cX9_layLeast 66 = .ok (.iload_n 1, 1) := by decide +kernel
theorem dX9_layLeast_67 : decode cX9_layLeast 67 = .ok (.imul, 1) := by decide +kernel
theorem dX9_layLeast_68 : decode cX9_layLeast 68 = .ok (.iload_n 2, 1) := by decide +kernel
theorem dX9_layLeast_69 : decode cX9_layLeast 69 = .ok (.iadd, 1) := by decide +kernel
theorem dX9_layLeast_70 : decode cX9_layLeast 70 = .ok (.aload_n 0, 1) := by decide +kernel
theorem dX9_layLeast_71 : decode cX9_layLeast 71 = .ok (.getfield 38, 3) := by decide +kernel
theorem dX9_layLeast_74 : decode cX9_layLeast 74 = .ok (.iload_n 2, 1) := by decide +kernel
theorem dX9_layLeast_75 : decode cX9_layLeast 75 = .ok (.iaload, 1) := by decide +kernel
theorem dX9_layLeast_76 : decode cX9_layLeast 76 = .ok (.aload_n 0, 1) := by decide +kernel
theorem dX9_layLeast_77 : decode cX9_layLeast 77 = .ok (.getfield 22, 3) := by decide +kernel
theorem dX9_layLeast_80 : decode cX9_layLeast 80 = .ok (.if_icmp .gt 12, 3) := by decide +kernel
theorem dX9_layLeast_83 : decode cX9_layLeast 83 = .ok (.aload_n 0, 1) := by decide +kernel
theorem dX9_layLeast_84 : decode cX9_layLeast 84 = .ok (.iload_n 1, 1) := by decide +kernel
theorem dX9_layLeast_85 : decode cX9_layLeast 85 = .ok (.iload_n 2, 1) := by decide +kernel
theorem dX9_layLeast_86 : decode cX9_layLeast 86 = .ok (.invokevirtual 120, 3) := by decide +kernel
theorem dX9_layLeast_89 : decode cX9_layLeast 89 = .ok (.goto 5, 3) := by decide +kernel
theorem dX9_layLeast_92 : decode cX9_layLeast 92 = .ok (.ldc 115, 2) := by decide +kernel
theorem dX9_layLeast_94 : decode cX9_layLeast 94 = .ok (.iastore, 1) := by decide +kernel
theorem dX9_layLeast_95 : decode cX9_layLeast 95 = .ok (.iinc 2 1, 3) := by decide +kernel
theorem dX9_layLeast_98 : decode cX9_layLeast 98 = .ok (.goto (-54), 3) := by decide +kernel
theorem dX9_layLeast_101 : decode cX9_layLeast 101 = .ok (.iinc 1 (-1), 3) := by decide +kernel
theorem dX9_layLeast_104 : decode cX9_layLeast 104 = .ok (.goto (-66), 3) := by decide +kernel
theorem dX9_layLeast_107 : decode cX9_layLeast 107 = .ok (.aload_n 0, 1) := by decide +kernel
theorem dX9_layLeast_108 : decode cX9_layLeast 108 = .ok (.getfield 35, 3) := by decide +kernel
theorem dX9_layLeast_111 : decode cX9_layLeast 111 = .ok (.iconst 0, 1) := by decide +kernel
theorem dX9_layLeast_112 : decode cX9_layLeast 112 = .ok (.iaload, 1) := by decide +kernel
theorem dX9_layLeast_113 : decode cX9_layLeast 113 = .ok (.ireturn, 1) := by decide +kernel
set_option maxRecDepth 20000 in
theorem ggX9_layPlan_X9_needs : GoodIn wsX9_layPlan wsX9_needs := goodIn_r _ [12, 13, 14, 19, 20, 21, 22, 23, 24, 25, 26, 27, 28, 29, 30, 31, 32, 33, 34, 35, 36, 37, 38, 39, 40, 41] (by decide +kernel) (by decide +kernel)
set_option maxRecDepth 20000 in
theorem gX9_layPlan_X9_needs : GoodIn wsX9_layPlan (wsV RX9 96 RX9 yX9_needs wsX9_needs) := goodIn_app (goodIn_of _ (by decide +kernel)) ggX9_layPlan_X9_needs
set_option maxRecDepth 20000 in
theorem ggX9_layPlan_X9_costBy : GoodIn wsX9_layPlan wsX9_costBy := goodIn_r _ [18, 3, 5, 7, 8, 9, 10, 11, 12, 13, 14, 19, 20, 21, 22, 23, 24, 25, 26, 27, 28, 29, 30, 31, 32, 33, 34, 35, 36, 37, 38, 39, 40, 41] (by decide +kernel) (by decide +kernel)
set_option maxRecDepth 20000 in
theorem gX9_layPlan_X9_costBy : GoodIn wsX9_layPlan (wsV RX9 116 RX9 yX9_costBy wsX9_costBy) := goodIn_app (goodIn_of _ (by decide +kernel)) ggX9_layPlan_X9_costBy
theorem dX9_layPlan_0 : decode cX9_layPlan 0 = .ok (.iconst 0, 1) := by decide +kernel
theorem dX9_layPlan_1 : decode cX9_layPlan 1 = .ok (.istore_n 1, 1) := by decide +kernel
theorem dX9_layPlan_2 : decode cX9_layPlan 2 = .ok (.iconst 0, 1) := by decide +kernel
theorem dX9_layPlan_3 : decode cX9_layPlan 3 = .ok (.istore_n 2, 1) := by decide +kernel
theorem dX9_layPlan_4 : decode cX9_layPlan 4 = .ok (.iload_n 2, 1) := by decide +kernel
theorem dX9_layPlan_5 : decode cX9_layPlan 5 = .ok (.aload_n 0, 1) := by decide +kernel
theorem dX9_layPlan_6 : decode cX9_layPlan 6 = .ok (.getfield 69, 3) := by decide +kernel
theorem dX9_layPlan_9 : decode cX9_layPlan 9 = .ok (.if_icmp .ge 160, 3) := by decide +kernel
theorem dX9_layPlan_12 : decode cX9_layPlan 12 = .ok (.aload_n 0, 1) := by decide +kernel
theorem dX9_layPlan_13 : decode cX9_layPlan 13 = .ok (.getfield 29, 3) := by decide +kernel
theorem dX9_layPlan_16 : decode cX9_layPlan 16 = .ok (.bipush 8, 2) := by decide +kernel
theorem dX9_layPlan_18 : decode cX9_layPlan 18 = .ok (.iload_n 2, 1) := by decide +kernel
theorem dX9_layPlan_19 : decode cX9_layPlan 19 = .ok (.iadd, 1) := by decide +kernel
theorem dX9_layPlan_20 : decode cX9_layPlan 20 = .ok (.iload_n 1, 1) := by decide +kernel
theorem dX9_layPlan_21 : decode cX9_layPlan 21 = .ok (.iastore, 1) := by decide +kernel
theorem dX9_layPlan_22 : decode cX9_layPlan 22 = .ok (.iload_n 1, 1) := by decide +kernel
theorem dX9_layPlan_23 : decode cX9_layPlan 23 = .ok (.aload_n 0, 1) := by decide +kernel
theorem dX9_layPlan_24 : decode cX9_layPlan 24 = .ok (.iload_n 2, 1) := by decide +kernel
theorem dX9_layPlan_25 : decode cX9_layPlan 25 = .ok (.invokevirtual 96, 3) := by decide +kernel
theorem dX9_layPlan_28 : decode cX9_layPlan 28 = .ok (.iconst (-1), 1) := by decide +kernel
theorem dX9_layPlan_29 : decode cX9_layPlan 29 = .ok (.ixor, 1) := by decide +kernel
theorem dX9_layPlan_30 : decode cX9_layPlan 30 = .ok (.iand, 1) := by decide +kernel
theorem dX9_layPlan_31 : decode cX9_layPlan 31 = .ok (.istore_n 3, 1) := by decide +kernel
theorem dX9_layPlan_32 : decode cX9_layPlan 32 = .ok (.iconst (-1), 1) := by decide +kernel
theorem dX9_layPlan_33 : decode cX9_layPlan 33 = .ok (.istore 4, 2) := by decide +kernel
theorem dX9_layPlan_35 : decode cX9_layPlan 35 = .ok (.iconst 0, 1) := by decide +kernel
theorem dX9_layPlan_36 : decode cX9_layPlan 36 = .ok (.istore 5, 2) := by decide +kernel
theorem dX9_layPlan_38 : decode cX9_layPlan 38 = .ok (.iload 5, 2) := by decide +kernel
theorem dX9_layPlan_40 : decode cX9_layPlan 40 = .ok (.iload_n 3, 1) := by decide +kernel
theorem dX9_layPlan_41 : decode cX9_layPlan 41 = .ok (.if_icmp .gt 99, 3) := by decide +kernel
theorem dX9_layPlan_44 : decode cX9_layPlan 44 = .ok (.aload_n 0, 1) := by decide +kernel
theorem dX9_layPlan_45 : decode cX9_layPlan 45 = .ok (.iload_n 2, 1) := by decide +kernel
theorem dX9_layPlan_46 : decode cX9_layPlan 46 = .ok (.invokevirtual 96, 3) := by decide +kernel
theorem dX9_layPlan_49 : decode cX9_layPlan 49 = .ok (.iload 5, 2) := by decide +kernel
theorem dX9_layPlan_51 : decode cX9_layPlan 51 = .ok (.ior, 1) := by decide +kernel
theorem dX9_layPlan_52 : decode cX9_layPlan 52 = .ok (.istore 6, 2) := by decide +kernel
theorem dX9_layPlan_54 : decode cX9_layPlan 54 = .ok (.iload 5, 2) := by decide +kernel
theorem dX9_layPlan_56 : decode cX9_layPlan 56 = .ok (.iload_n 3, 1) := by decide +kernel
theorem dX9_layPlan_57 : decode cX9_layPlan 57 = .ok (.iconst (-1), 1) := by decide +kernel
theorem dX9_layPlan_58 : decode cX9_layPlan 58 = .ok (.ixor, 1) := by decide +kernel
theorem dX9_layPlan_59 : decode cX9_layPlan 59 = .ok (.iand, 1) := by decide +kernel
theorem dX9_layPlan_60 : decode cX9_layPlan 60 = .ok (.ifCond .ne 44, 3) := by decide +kernel
theorem dX9_layPlan_63 : decode cX9_layPlan 63 = .ok (.aload_n 0, 1) := by decide +kernel
theorem dX9_layPlan_64 : decode cX9_layPlan 64 = .ok (.getfield 38, 3) := by decide +kernel
theorem dX9_layPlan_67 : decode cX9_layPlan 67 = .ok (.iload 6, 2) := by decide +kernel
theorem dX9_layPlan_69 : decode cX9_layPlan 69 = .ok (.iaload, 1) := by decide +kernel
theorem dX9_layPlan_70 : decode cX9_layPlan 70 = .ok (.aload_n 0, 1) := by decide +kernel
theorem dX9_layPlan_71 : decode cX9_layPlan 71 = .ok (.getfield 22, 3) := by decide +kernel
theorem dX9_layPlan_74 : decode cX9_layPlan 74 = .ok (.if_icmp .gt 30, 3) := by decide +kernel
theorem dX9_layPlan_77 : decode cX9_layPlan 77 = .ok (.aload_n 0, 1) := by decide +kernel
theorem dX9_layPlan_78 : decode cX9_layPlan 78 = .ok (.iload_n 2, 1) := by decide +kernel
theorem dX9_layPlan_79 : decode cX9_layPlan 79 = .ok (.iload_n 1, 1) := by decide +kernel
theorem dX9_layPlan_80 : decode cX9_layPlan 80 = .ok (.iload 6, 2) := by decide +kernel
theorem dX9_layPlan_82 : decode cX9_layPlan 82 = .ok (.invokevirtual 116, 3) := by decide +kernel
theorem dX9_layPlan_85 : decode cX9_layPlan 85 = .ok (.aload_n 0, 1) := by decide +kernel
theorem dX9_layPlan_86 : decode cX9_layPlan 86 = .ok (.getfield 35, 3) := by decide +kernel
theorem dX9_layPlan_89 : decode cX9_layPlan 89 = .ok (.sipush 256, 3) := by decide +kernel
theorem dX9_layPlan_92 : decode cX9_layPlan 92 = .ok (.iload_n 2, 1) := by decide +kernel
theorem dX9_layPlan_93 : decode cX9_layPlan 93 = .ok (.imul, 1) := by decide +kernel
theorem dX9_layPlan_94 : decode cX9_layPlan 94 = .ok (.iload_n 1, 1) := by decide +kernel
theorem dX9_layPlan_95 : decode cX9_layPlan 95 = .ok (.iadd, 1) := by decide +kernel
theorem dX9_layPlan_96 : decode cX9_layPlan 96 = .ok (.iaload, 1) := by decide +kernel
theorem dX9_layPlan_97 : decode cX9_layPlan 97 = .ok (.if_icmp .ne 7, 3) := by decide +kernel
theorem dX9_layPlan_100 : decode cX9_layPlan 100 = .ok (.iconst 1, 1) := by decide +kernel
theorem dX9_layPlan_101 : decode cX9_layPlan 101 = .ok (.goto 4, 3) := by decide +kernel
theorem dX9_layPlan_104 : decode cX9_layPlan 104 = .ok (.iconst 0, 1) := by decide +kernel
theorem dX9_layPlan_105 : decode cX9_layPlan 105 = .ok (.istore 7, 2) := by decide +kernel
theorem dX9_layPlan_107 : decode cX9_layPlan 107 = .ok (.iload 7, 2) := by decide +kernel
theorem dX9_layPlan_109 : decode cX9_layPlan 109 = .ok (.ifCond .eq 21, 3) := by decide +kernel
theorem dX9_layPlan_112 : decode cX9_layPlan 112 = .ok (.iload 4, 2) := by decide +kernel
theorem dX9_layPlan_114 : decode cX9_layPlan 114 = .ok (.iconst (-1), 1) := by decide +kernel
theorem dX9_layPlan_115 : decode cX9_layPlan 115 = .ok (.if_icmp .eq 10, 3) := by decide +kernel
theorem dX9_layPlan_118 : decode cX9_layPlan 118 = .ok (.iload 6, 2) := by decide +kernel
theorem dX9_layPlan_120 : decode cX9_layPlan 120 = .ok (.iload 4, 2) := by decide +kernel
theorem dX9_layPlan_122 : decode cX9_layPlan 122 = .ok (.if_icmp .ge 8, 3) := by decide +kernel
theorem dX9_layPlan_125 : decode cX9_layPlan 125 = .ok (.iload 6, 2) := by decide +kernel
theorem dX9_layPlan_127 : decode cX9_layPlan 127 = .ok (.goto 5, 3) := by decide +kernel
theorem dX9_layPlan_130 : decode cX9_layPlan 130 = .ok (.iload 4, 2) := by decide +kernel
theorem dX9_layPlan_132 : decode cX9_layPlan 132 = .ok (.istore 4, 2) := by decide +kernel
theorem dX9_layPlan_134 : decode cX9_layPlan 134 = .ok (.iinc 5 1, 3) := by decide +kernel
theorem dX9_layPlan_137 : decode cX9_layPlan 137 = .ok (.goto (-99), 3) := by decide +kernel
theorem dX9_layPlan_140 : decode cX9_layPlan 140 = .ok (.aload_n 0, 1) := by decide +kernel
theorem dX9_layPlan_141 : decode cX9_layPlan 141 = .ok (.getfield 32, 3) := by decide +kernel
theorem dX9_layPlan_144 : decode cX9_layPlan 144 = .ok (.bipush 8, 2) := by decide +kernel
theorem dX9_layPlan_146 : decode cX9_layPlan 146 = .ok (.iload_n 2, 1) := by decide +kernel
theorem dX9_layPlan_147 : decode cX9_layPlan 147 = .ok (.iadd, 1) := by decide +kernel
theorem dX9_layPlan_148 : decode cX9_layPlan 148 = .ok (.iload 4, 2) := by decide +kernel
theorem dX9_layPlan_150 : decode cX9_layPlan 150 = .ok (.iastore, 1) := by decide +kernel
theorem dX9_layPlan_151 : decode cX9_layPlan 151 = .ok (.iload 4, 2) := by decide +kernel
theorem dX9_layPlan_153 : decode cX9_layPlan 153 = .ok (.aload_n 0, 1) := by decide +kernel
theorem dX9_layPlan_154 : decode cX9_layPlan 154 = .ok (.getfield 19, 3) := by decide +kernel
theorem dX9_layPlan_157 : decode cX9_layPlan 157 = .ok (.iload_n 2, 1) := by decide +kernel
theorem dX9_layPlan_158 : decode cX9_layPlan 158 = .ok (.iaload, 1) := by decide +kernel
theorem dX9_layPlan_159 : decode cX9_layPlan 159 = .ok (.iconst (-1), 1) := by decide +kernel
theorem dX9_layPlan_160 : decode cX9_layPlan 160 = .ok (.ixor, 1) := by decide +kernel
theorem dX9_layPlan_161 : decode cX9_layPlan 161 = .ok (.iand, 1) := by decide +kernel
theorem dX9_layPlan_162 : decode cX9_layPlan 162 = .ok (.istore_n 1, 1) := by decide +kernel
theorem dX9_layPlan_163 : decode cX9_layPlan 163 = .ok (.iinc 2 1, 3) := by decide +kernel
theorem dX9_layPlan_166 : decode cX9_layPlan 166 = .ok (.goto (-162), 3) := by decide +kernel
theorem dX9_layPlan_169 : decode cX9_layPlan 169 = .ok (.return_, 1) := by decide +kernel
set_option maxRecDepth 20000 in
theorem ggX9_layAll_X9_sizeOf : GoodIn wsX9_layAll wsX9_sizeOf := goodIn_r _ [8, 9, 10, 11, 7, 12, 72, 73, 74, 75, 76, 77, 78, 79, 80, 81, 82, 83, 84, 85, 86, 87, 88, 89, 90, 91, 92, 93, 94] (by decide +kernel) (by decide +kernel)
set_option maxRecDepth 20000 in
theorem gX9_layAll_X9_sizeOf : GoodIn wsX9_layAll (wsV RX9 106 RX9 yX9_sizeOf wsX9_sizeOf) := goodIn_app (goodIn_of _ (by decide +kernel)) ggX9_layAll_X9_sizeOf
set_option maxRecDepth 20000 in
theorem ggX9_layAll_X9_laySoonest : GoodIn wsX9_layAll wsX9_laySoonest := goodIn_r _ [16, 17, 18, 2, 19, 20, 21, 22, 23, 24, 7, 25, 26, 27, 28, 29, 30, 31, 9, 32, 33, 34, 35, 36, 37, 38, 39, 40, 41, 42, 72, 73, 74, 75, 76, 77, 78, 79, 80, 81, 82, 83, 84, 85, 86, 87, 88, 89, 90, 91, 92, 93, 94] (by decide +kernel) (by decide +kernel)
set_option maxRecDepth 20000 in
theorem gX9_layAll_X9_laySoonest : GoodIn wsX9_layAll (wsV RX9 123 RX9 yX9_laySoonest wsX9_laySoonest) := goodIn_app (goodIn_of _ (by decide +kernel)) ggX9_layAll_X9_laySoonest
set_option maxRecDepth 20000 in
theorem ggX9_layAll_X9_layBetter : GoodIn wsX9_layAll wsX9_layBetter := goodIn_r _ [46, 47, 48, 49, 17, 50, 51, 52, 7, 53, 54, 2, 19, 55, 56, 57, 58, 59, 22, 23, 24, 25, 26, 27, 60, 61, 62, 63, 21, 64, 65, 66, 67, 72, 73, 74, 75, 76, 77, 78, 79, 80, 81, 82, 83, 84, 85, 86, 87, 88, 89, 90, 91, 92, 93, 94] (by decide +kernel) (by decide +kernel)
set_option maxRecDepth 20000 in
theorem gX9_layAll_X9_layBetter : GoodIn wsX9_layAll (wsV RX9 126 RX9 yX9_layBetter wsX9_layBetter) := goodIn_app (goodIn_of _ (by decide +kernel)) ggX9_layAll_X9_layBetter
set_option maxRecDepth 20000 in
theorem ggX9_layAll_X9_layLeast : GoodIn wsX9_layAll wsX9_layLeast := goodIn_r _ [53, 54, 17, 2, 19, 55, 56, 57, 58, 7, 59, 22, 23, 24, 25, 26, 27, 60, 61, 62, 63, 21, 72, 73, 74, 75, 76, 77, 78, 79, 80, 81, 82, 83, 84, 85, 86, 87, 88, 89, 90, 91, 92, 93, 94] (by decide +kernel) (by decide +kernel)
set_option maxRecDepth 20000 in
theorem gX9_layAll_X9_layLeast : GoodIn wsX9_layAll (wsV RX9 129 RX9 yX9_layLeast wsX9_layLeast) := goodIn_app (goodIn_of _ (by decide +kernel)) ggX9_layAll_X9_layLeast
set_option maxRecDepth 20000 in
theorem ggX9_layAll_X9_layPlan : GoodIn wsX9_layAll wsX9_layPlan := goodIn_r _ [71, 17, 18, 2, 19, 54, 20, 21, 22, 23, 24, 7, 25, 26, 27, 60, 61, 62, 63, 72, 73, 74, 75, 76, 77, 78, 79, 80, 81, 82, 83, 84, 85, 86, 87, 88, 89, 90, 91, 92, 93, 94] (by decide +kernel) (by decide +kernel)
set_option maxRecDepth 20000 in
theorem gX9_layAll_X9_layPlan : GoodIn wsX9_layAll (wsV RX9 135 RX9 yX9_layPlan wsX9_layPlan) := goodIn_app (goodIn_of _ (by decide +kernel)) ggX9_layAll_X9_layPlan
theorem dX9_layAll_0 : decode cX9_layAll 0 = .ok (.aload_n 0, 1) := by decide +kernel
theorem dX9_layAll_1 : decode cX9_layAll 1 = .ok (.getfield 75, 3) := by decide +kernel
theorem dX9_layAll_4 : decode cX9_layAll 4 = .ok (.ifCond .eq 4, 3) := by decide +kernel
theorem dX9_layAll_7 : decode cX9_layAll 7 = .ok (.return_, 1) := by decide +kernel
theorem dX9_layAll_8 : decode cX9_layAll 8 = .ok (.iconst 0, 1) := by decide +kernel
theorem dX9_layAll_9 : decode cX9_layAll 9 = .ok (.istore_n 1, 1) := by decide +kernel
theorem dX9_layAll_10 : decode cX9_layAll 10 = .ok (.iload_n 1, 1) := by decide +kernel
theorem dX9_layAll_11 : decode cX9_layAll 11 = .ok (.sipush 255, 3) := by decide +kernel
theorem dX9_layAll_14 : decode cX9_layAll 14 = .ok (.if_icmp .gt 20, 3) := by decide +kernel
theorem dX9_layAll_17 : decode cX9_layAll 17 = .ok (.aload_n 0, 1) := by decide +kernel
theorem dX9_layAll_18 : decode cX9_layAll 18 = .ok (.getfield 38, 3) := by decide +kernel
theorem dX9_layAll_21 : decode cX9_layAll 21 = .ok (.iload_n 1, 1) := by decide +kernel
theorem dX9_layAll_22 : decode cX9_layAll 22 = .ok (.aload_n 0, 1) := by decide +kernel
theorem dX9_layAll_23 : decode cX9_layAll 23 = .ok (.iload_n 1, 1) := by decide +kernel
theorem dX9_layAll_24 : decode cX9_layAll 24 = .ok (.invokevirtual 106, 3) := by decide +kernel
theorem dX9_layAll_27 : decode cX9_layAll 27 = .ok (.iastore, 1) := by decide +kernel
theorem dX9_layAll_28 : decode cX9_layAll 28 = .ok (.iinc 1 1, 3) := by decide +kernel
theorem dX9_layAll_31 : decode cX9_layAll 31 = .ok (.goto (-21), 3) := by decide +kernel
theorem dX9_layAll_34 : decode cX9_layAll 34 = .ok (.aload_n 0, 1) := by decide +kernel
theorem dX9_layAll_35 : decode cX9_layAll 35 = .ok (.invokevirtual 123, 3) := by decide +kernel
theorem dX9_layAll_38 : decode cX9_layAll 38 = .ok (.aload_n 0, 1) := by decide +kernel
theorem dX9_layAll_39 : decode cX9_layAll 39 = .ok (.invokevirtual 126, 3) := by decide +kernel
theorem dX9_layAll_42 : decode cX9_layAll 42 = .ok (.aload_n 0, 1) := by decide +kernel
theorem dX9_layAll_43 : decode cX9_layAll 43 = .ok (.aload_n 0, 1) := by decide +kernel
theorem dX9_layAll_44 : decode cX9_layAll 44 = .ok (.invokevirtual 129, 3) := by decide +kernel
theorem dX9_layAll_47 : decode cX9_layAll 47 = .ok (.putfield 132, 3) := by decide +kernel
theorem dX9_layAll_50 : decode cX9_layAll 50 = .ok (.aload_n 0, 1) := by decide +kernel
theorem dX9_layAll_51 : decode cX9_layAll 51 = .ok (.invokevirtual 135, 3) := by decide +kernel
theorem dX9_layAll_54 : decode cX9_layAll 54 = .ok (.aload_n 0, 1) := by decide +kernel
theorem dX9_layAll_55 : decode cX9_layAll 55 = .ok (.iconst 1, 1) := by decide +kernel
theorem dX9_layAll_56 : decode cX9_layAll 56 = .ok (.putfield 75, 3) := by decide +kernel
theorem dX9_layAll_59 : decode cX9_layAll 59 = .ok (.return_, 1) := by decide +kernel
set_option maxRecDepth 20000 in
theorem ggX9_keptNow_X9_layAll : GoodIn wsX9_keptNow wsX9_layAll := goodIn_r _ [7, 8, 9, 10, 11, 12, 13, 6, 14, 15, 16, 17, 18, 19, 20, 21, 22, 23, 2, 24, 1, 25, 26, 27, 28, 29, 30, 31, 32, 33, 34, 35, 36, 37, 38, 39, 40, 41, 42, 43, 44, 45, 46, 47, 48, 49, 50, 51, 52, 53, 54, 55, 56, 57, 58, 59, 60, 61, 62, 63, 64, 65, 66, 67, 68, 69, 70, 71, 72, 73, 74, 75, 76, 77, 78, 79, 80, 81, 82, 83, 84, 85, 86, 87, 88, 89, 90, 91, 92, 93, 94, 95, 96, 97, 98] (by decide +kernel) (by decide +kernel)
set_option maxRecDepth 20000 in
theorem gX9_keptNow_X9_layAll : GoodIn wsX9_keptNow (wsV RX9 138 RX9 yX9_layAll wsX9_layAll) := goodIn_app (goodIn_of _ (by decide +kernel)) ggX9_keptNow_X9_layAll
set_option maxRecDepth 20000 in
theorem ggX9_keptNow_X9_sizeOf : GoodIn wsX9_keptNow wsX9_sizeOf := goodIn_r _ [14, 15, 16, 17, 6, 18, 76, 77, 78, 79, 80, 81, 82, 83, 84, 85, 86, 87, 88, 89, 90, 91, 92, 93, 94, 95, 96, 97, 98] (by decide +kernel) (by decide +kernel)
set_option maxRecDepth 20000 in
theorem gX9_keptNow_X9_sizeOf : GoodIn wsX9_keptNow (wsV RX9 106 RX9 yX9_sizeOf wsX9_sizeOf) := goodIn_app (goodIn_of _ (by decide +kernel)) ggX9_keptNow_X9_sizeOf
theorem dX9_keptNow_0 : decode cX9_keptNow 0 = .ok (.aload_n 0, 1) := by decide +kernel
theorem dX9_keptNow_1 : decode cX9_keptNow 1 = .ok (.invokevirtual 138, 3) := by decide +kernel
theorem dX9_keptNow_4 : decode cX9_keptNow 4 = .ok (.aload_n 0, 1) := by decide +kernel
theorem dX9_keptNow_5 : decode cX9_keptNow 5 = .ok (.getfield 32, 3) := by decide +kernel
theorem dX9_keptNow_8 : decode cX9_keptNow 8 = .ok (.iload_n 1, 1) := by decide +kernel
theorem dX9_keptNow_9 : decode cX9_keptNow 9 = .ok (.iaload, 1) := by decide +kernel
theorem dX9_keptNow_10 : decode cX9_keptNow 10 = .ok (.aload_n 0, 1) := by decide +kernel
theorem dX9_keptNow_11 : decode cX9_keptNow 11 = .ok (.getfield 29, 3) := by decide +kernel
theorem dX9_keptNow_14 : decode cX9_keptNow 14 = .ok (.iload_n 1, 1) := by decide +kernel
theorem dX9_keptNow_15 : decode cX9_keptNow 15 = .ok (.iaload, 1) := by decide +kernel
theorem dX9_keptNow_16 : decode cX9_keptNow 16 = .ok (.iconst (-1), 1) := by decide +kernel
theorem dX9_keptNow_17 : decode cX9_keptNow 17 = .ok (.ixor, 1) := by decide +kernel
theorem dX9_keptNow_18 : decode cX9_keptNow 18 = .ok (.iand, 1) := by decide +kernel
theorem dX9_keptNow_19 : decode cX9_keptNow 19 = .ok (.istore_n 3, 1) := by decide +kernel
theorem dX9_keptNow_20 : decode cX9_keptNow 20 = .ok (.iload_n 2, 1) := by decide +kernel
theorem dX9_keptNow_21 : decode cX9_keptNow 21 = .ok (.ifCond .ne 12, 3) := by decide +kernel
theorem dX9_keptNow_24 : decode cX9_keptNow 24 = .ok (.aload_n 0, 1) := by decide +kernel
theorem dX9_keptNow_25 : decode cX9_keptNow 25 = .ok (.getfield 32, 3) := by decide +kernel
theorem dX9_keptNow_28 : decode cX9_keptNow 28 = .ok (.iload_n 1, 1) := by decide +kernel
theorem dX9_keptNow_29 : decode cX9_keptNow 29 = .ok (.iaload, 1) := by decide +kernel
theorem dX9_keptNow_30 : decode cX9_keptNow 30 = .ok (.goto 40, 3) := by decide +kernel
theorem dX9_keptNow_33 : decode cX9_keptNow 33 = .ok (.iload_n 2, 1) := by decide +kernel
theorem dX9_keptNow_34 : decode cX9_keptNow 34 = .ok (.iconst 1, 1) := by decide +kernel
theorem dX9_keptNow_35 : decode cX9_keptNow 35 = .ok (.if_icmp .ne 7, 3) := by decide +kernel
theorem dX9_keptNow_38 : decode cX9_keptNow 38 = .ok (.iload_n 3, 1) := by decide +kernel
theorem dX9_keptNow_39 : decode cX9_keptNow 39 = .ok (.goto 31, 3) := by decide +kernel
theorem dX9_keptNow_42 : decode cX9_keptNow 42 = .ok (.iload_n 2, 1) := by decide +kernel
theorem dX9_keptNow_43 : decode cX9_keptNow 43 = .ok (.iconst 2, 1) := by decide +kernel
theorem dX9_keptNow_44 : decode cX9_keptNow 44 = .ok (.if_icmp .ne 21, 3) := by decide +kernel
theorem dX9_keptNow_47 : decode cX9_keptNow 47 = .ok (.aload_n 0, 1) := by decide +kernel
theorem dX9_keptNow_48 : decode cX9_keptNow 48 = .ok (.getfield 29, 3) := by decide +kernel
theorem dX9_keptNow_51 : decode cX9_keptNow 51 = .ok (.iload_n 1, 1) := by decide +kernel
theorem dX9_keptNow_52 : decode cX9_keptNow 52 = .ok (.iaload, 1) := by decide +kernel
theorem dX9_keptNow_53 : decode cX9_keptNow 53 = .ok (.aload_n 0, 1) := by decide +kernel
theorem dX9_keptNow_54 : decode cX9_keptNow 54 = .ok (.getfield 32, 3) := by decide +kernel
theorem dX9_keptNow_57 : decode cX9_keptNow 57 = .ok (.iload_n 1, 1) := by decide +kernel
theorem dX9_keptNow_58 : decode cX9_keptNow 58 = .ok (.iaload, 1) := by decide +kernel
theorem dX9_keptNow_59 : decode cX9_keptNow 59 = .ok (.iconst (-1), 1) := by decide +kernel
theorem dX9_keptNow_60 : decode cX9_keptNow 60 = .ok (.ixor, 1) := by decide +kernel
theorem dX9_keptNow_61 : decode cX9_keptNow 61 = .ok (.iand, 1) := by decide +kernel
theorem dX9_keptNow_62 : decode cX9_keptNow 62 = .ok (.goto 8, 3) := by decide +kernel
theorem dX9_keptNow_65 : decode cX9_keptNow 65 = .ok (.aload_n 0, 1) := by decide +kernel
theorem dX9_keptNow_66 : decode cX9_keptNow 66 = .ok (.iload_n 3, 1) := by decide +kernel
theorem dX9_keptNow_67 : decode cX9_keptNow 67 = .ok (.invokevirtual 106, 3) := by decide +kernel
theorem dX9_keptNow_70 : decode cX9_keptNow 70 = .ok (.ireturn, 1) := by decide +kernel
set_option maxRecDepth 20000 in
theorem ggX9_refused_X9_isPlace : GoodIn wsX9_refused wsX9_isPlace := goodIn_r _ [5, 6, 7, 8, 4, 9, 29, 30, 31, 32, 33, 34, 35, 36, 37, 38, 39, 40, 41, 42, 43, 44, 45, 46, 47, 48, 49, 50, 51] (by decide +kernel) (by decide +kernel)
set_option maxRecDepth 20000 in
theorem gX9_refused_X9_isPlace : GoodIn wsX9_refused (wsV RX9 85 RX9 yX9_isPlace wsX9_isPlace) := goodIn_app (goodIn_of _ (by decide +kernel)) ggX9_refused_X9_isPlace
set_option maxRecDepth 20000 in
theorem ggX9_refused_X9_within : GoodIn wsX9_refused wsX9_within := goodIn_r _ [9] (by decide +kernel) (by decide +kernel)
set_option maxRecDepth 20000 in
theorem gX9_refused_X9_within : GoodIn wsX9_refused (va_wsS RX9 48 yX9_within wsX9_within) := goodIn_app (goodIn_of _ (by decide +kernel)) ggX9_refused_X9_within
set_option maxRecDepth 20000 in
theorem ggX9_refused_X9_isTooBig : GoodIn wsX9_refused wsX9_isTooBig := goodIn_r _ [13, 6, 14, 15, 16, 17, 4, 18, 19, 20, 21, 22, 23, 24, 25, 26, 27, 28, 29, 30, 31, 32, 33, 34, 35, 36, 37, 38, 39, 40, 41, 42, 43, 44, 45, 46, 47, 48, 49, 50, 51] (by decide +kernel) (by decide +kernel)
set_option maxRecDepth 20000 in
theorem gX9_refused_X9_isTooBig : GoodIn wsX9_refused (wsV RX9 141 RX9 yX9_isTooBig wsX9_isTooBig) := goodIn_app (goodIn_of _ (by decide +kernel)) ggX9_refused_X9_isTooBig
theorem dX9_refused_0 : decode cX9_refused 0 = .ok (.aload_n 0, 1) := by decide +kernel
theorem dX9_refused_1 : decode cX9_refused 1 = .ok (.iload_n 1, 1) := by decide +kernel
theorem dX9_refused_2 : decode cX9_refused 2 = .ok (.invokevirtual 85, 3) := by decide +kernel
theorem dX9_refused_5 : decode cX9_refused 5 = .ok (.ifCond .ne 9, 3) := by decide +kernel
theorem dX9_refused_8 : decode cX9_refused 8 = .ok (.sipush (-1001), 3) := by decide +kernel
theorem dX9_refused_11 : decode cX9_refused 11 = .ok (.goto 32, 3) := by decide +kernel
theorem dX9_refused_14 : decode cX9_refused 14 = .ok (.iload_n 2, 1) := by decide +kernel
theorem dX9_refused_15 : decode cX9_refused 15 = .ok (.iconst 0, 1) := by decide +kernel
theorem dX9_refused_16 : decode cX9_refused 16 = .ok (.iconst 3, 1) := by decide +kernel
theorem dX9_refused_17 : decode cX9_refused 17 = .ok (.invokestatic 48, 3) := by decide +kernel
theorem dX9_refused_20 : decode cX9_refused 20 = .ok (.ifCond .ne 9, 3) := by decide +kernel
theorem dX9_refused_23 : decode cX9_refused 23 = .ok (.sipush (-1002), 3) := by decide +kernel
theorem dX9_refused_26 : decode cX9_refused 26 = .ok (.goto 17, 3) := by decide +kernel
theorem dX9_refused_29 : decode cX9_refused 29 = .ok (.aload_n 0, 1) := by decide +kernel
theorem dX9_refused_30 : decode cX9_refused 30 = .ok (.invokevirtual 141, 3) := by decide +kernel
theorem dX9_refused_33 : decode cX9_refused 33 = .ok (.ifCond .eq 9, 3) := by decide +kernel
theorem dX9_refused_36 : decode cX9_refused 36 = .ok (.sipush (-1003), 3) := by decide +kernel
theorem dX9_refused_39 : decode cX9_refused 39 = .ok (.goto 4, 3) := by decide +kernel
theorem dX9_refused_42 : decode cX9_refused 42 = .ok (.iconst 0, 1) := by decide +kernel
theorem dX9_refused_43 : decode cX9_refused 43 = .ok (.ireturn, 1) := by decide +kernel
set_option maxRecDepth 20000 in
theorem ggX9_soonest_X9_refused : GoodIn wsX9_soonest wsX9_refused := goodIn_r _ [5, 6, 7, 8, 4, 9, 10, 11, 12, 13, 14, 15, 16, 17, 18, 19, 20, 21, 22, 23, 24, 25, 26, 27, 28, 29, 30, 31, 32, 95, 96, 97, 98, 99, 100, 101, 102, 103, 104, 105, 106, 107, 108, 109, 110, 111, 112, 113, 114, 115, 116, 117] (by decide +kernel) (by decide +kernel)
set_option maxRecDepth 20000 in
theorem gX9_soonest_X9_refused : GoodIn wsX9_soonest (wsV RX9 145 RX9 yX9_refused wsX9_refused) := goodIn_app (goodIn_of _ (by decide +kernel)) ggX9_soonest_X9_refused
set_option maxRecDepth 20000 in
theorem ggX9_soonest_X9_keptNow : GoodIn wsX9_soonest wsX9_keptNow := goodIn_r _ [36, 37, 38, 39, 40, 41, 4, 42, 43, 44, 45, 25, 26, 27, 28, 29, 30, 31, 32, 46, 47, 48, 49, 10, 18, 50, 19, 20, 21, 22, 23, 24, 51, 52, 53, 54, 55, 56, 57, 58, 59, 60, 61, 62, 63, 64, 65, 66, 67, 68, 69, 70, 71, 72, 73, 74, 75, 76, 77, 78, 79, 80, 81, 82, 83, 84, 85, 86, 87, 88, 89, 90, 91, 92, 93, 94, 95, 96, 97, 98, 99, 100, 101, 102, 103, 104, 105, 106, 107, 108, 109, 110, 111, 112, 113, 114, 115, 116, 117] (by decide +kernel) (by decide +kernel)
set_option maxRecDepth 20000 in
theorem gX9_soonest_X9_keptNow : GoodIn wsX9_soonest (wsV RX9 148 RX9 yX9_keptNow wsX9_keptNow) := goodIn_app (goodIn_of _ (by decide +kernel)) ggX9_soonest_X9_keptNow
theorem dX9_soonest_0 : decode cX9_soonest 0 = .ok (.aload_n 0, 1) := by decide +kernel
theorem dX9_soonest_1 : decode cX9_soonest 1 = .ok (.iload_n 1, 1) := by decide +kernel
theorem dX9_soonest_2 : decode cX9_soonest 2 = .ok (.iload_n 2, 1) := by decide +kernel
theorem dX9_soonest_3 : decode cX9_soonest 3 = .ok (.invokevirtual 145, 3) := by decide +kernel
theorem dX9_soonest_6 : decode cX9_soonest 6 = .ok (.istore_n 3, 1) := by decide +kernel
theorem dX9_soonest_7 : decode cX9_soonest 7 = .ok (.iload_n 3, 1) := by decide +kernel
theorem dX9_soonest_8 : decode cX9_soonest 8 = .ok (.ifCond .ne 12, 3) := by decide +kernel
theorem dX9_soonest_11 : decode cX9_soonest 11 = .ok (.aload_n 0, 1) := by decide +kernel
theorem dX9_soonest_12 : decode cX9_soonest 12 = .ok (.iload_n 1, 1) := by decide +kernel
theorem dX9_soonest_13 : decode cX9_soonest 13 = .ok (.iload_n 2, 1) := by decide +kernel
theorem dX9_soonest_14 : decode cX9_soonest 14 = .ok (.invokevirtual 148, 3) := by decide +kernel
theorem dX9_soonest_17 : decode cX9_soonest 17 = .ok (.goto 4, 3) := by decide +kernel
theorem dX9_soonest_20 : decode cX9_soonest 20 = .ok (.iload_n 3, 1) := by decide +kernel
theorem dX9_soonest_21 : decode cX9_soonest 21 = .ok (.ireturn, 1) := by decide +kernel
set_option maxRecDepth 20000 in
theorem ggX9_plan_X9_refused : GoodIn wsX9_plan wsX9_refused := goodIn_r _ [5, 6, 7, 8, 4, 9, 10, 11, 12, 13, 14, 15, 16, 17, 18, 19, 20, 21, 22, 23, 24, 25, 26, 27, 28, 29, 30, 31, 32, 95, 96, 97, 98, 99, 100, 101, 102, 103, 104, 105, 106, 107, 108, 109, 110, 111, 112, 113, 114, 115, 116, 117] (by decide +kernel) (by decide +kernel)
set_option maxRecDepth 20000 in
theorem gX9_plan_X9_refused : GoodIn wsX9_plan (wsV RX9 145 RX9 yX9_refused wsX9_refused) := goodIn_app (goodIn_of _ (by decide +kernel)) ggX9_plan_X9_refused
set_option maxRecDepth 20000 in
theorem ggX9_plan_X9_keptNow : GoodIn wsX9_plan wsX9_keptNow := goodIn_r _ [36, 37, 38, 39, 40, 41, 4, 42, 43, 44, 45, 25, 26, 27, 28, 29, 30, 31, 32, 46, 47, 48, 49, 10, 18, 50, 19, 20, 21, 22, 23, 24, 51, 52, 53, 54, 55, 56, 57, 58, 59, 60, 61, 62, 63, 64, 65, 66, 67, 68, 69, 70, 71, 72, 73, 74, 75, 76, 77, 78, 79, 80, 81, 82, 83, 84, 85, 86, 87, 88, 89, 90, 91, 92, 93, 94, 95, 96, 97, 98, 99, 100, 101, 102, 103, 104, 105, 106, 107, 108, 109, 110, 111, 112, 113, 114, 115, 116, 117] (by decide +kernel) (by decide +kernel)
set_option maxRecDepth 20000 in
theorem gX9_plan_X9_keptNow : GoodIn wsX9_plan (wsV RX9 148 RX9 yX9_keptNow wsX9_keptNow) := goodIn_app (goodIn_of _ (by decide +kernel)) ggX9_plan_X9_keptNow
theorem dX9_plan_0 : decode cX9_plan 0 = .ok (.aload_n 0, 1) := by decide +kernel
theorem dX9_plan_1 : decode cX9_plan 1 = .ok (.iload_n 1, 1) := by decide +kernel
theorem dX9_plan_2 : decode cX9_plan 2 = .ok (.iload_n 2, 1) := by decide +kernel
theorem dX9_plan_3 : decode cX9_plan 3 = .ok (.invokevirtual 145, 3) := by decide +kernel
theorem dX9_plan_6 : decode cX9_plan 6 = .ok (.istore_n 3, 1) := by decide +kernel
theorem dX9_plan_7 : decode cX9_plan 7 = .ok (.iload_n 3, 1) := by decide +kernel
theorem dX9_plan_8 : decode cX9_plan 8 = .ok (.ifCond .ne 15, 3) := by decide +kernel
theorem dX9_plan_11 : decode cX9_plan 11 = .ok (.aload_n 0, 1) := by decide +kernel
theorem dX9_plan_12 : decode cX9_plan 12 = .ok (.bipush 8, 2) := by decide +kernel
theorem dX9_plan_14 : decode cX9_plan 14 = .ok (.iload_n 1, 1) := by decide +kernel
theorem dX9_plan_15 : decode cX9_plan 15 = .ok (.iadd, 1) := by decide +kernel
theorem dX9_plan_16 : decode cX9_plan 16 = .ok (.iload_n 2, 1) := by decide +kernel
theorem dX9_plan_17 : decode cX9_plan 17 = .ok (.invokevirtual 148, 3) := by decide +kernel
theorem dX9_plan_20 : decode cX9_plan 20 = .ok (.goto 4, 3) := by decide +kernel
theorem dX9_plan_23 : decode cX9_plan 23 = .ok (.iload_n 3, 1) := by decide +kernel
theorem dX9_plan_24 : decode cX9_plan 24 = .ok (.ireturn, 1) := by decide +kernel
set_option maxRecDepth 20000 in
theorem ggX9_keptAll_X9_keptNow : GoodIn wsX9_keptAll wsX9_keptNow := goodIn_r _ [6, 7, 8, 9, 10, 11, 5, 12, 13, 14, 15, 16, 17, 18, 19, 20, 21, 22, 23, 24, 25, 26, 27, 1, 28, 29, 30, 31, 32, 33, 34, 35, 36, 37, 38, 39, 40, 41, 42, 43, 44, 45, 46, 47, 48, 49, 50, 51, 52, 53, 54, 55, 56, 57, 58, 59, 60, 61, 62, 63, 64, 65, 66, 67, 68, 69, 70, 71, 72, 73, 74, 75, 76, 77, 78, 79, 80, 81, 82, 83, 84, 85, 86, 87, 88, 89, 90, 91, 92, 93, 94, 95, 96, 97, 98, 99, 100, 101, 102] (by decide +kernel) (by decide +kernel)
set_option maxRecDepth 20000 in
theorem gX9_keptAll_X9_keptNow : GoodIn wsX9_keptAll (wsV RX9 148 RX9 yX9_keptNow wsX9_keptNow) := goodIn_app (goodIn_of _ (by decide +kernel)) ggX9_keptAll_X9_keptNow
set_option maxRecDepth 20000 in
theorem ggX9_keptAll_X9_ones : GoodIn wsX9_keptAll wsX9_ones := goodIn_r _ [23] (by decide +kernel) (by decide +kernel)
set_option maxRecDepth 20000 in
theorem gX9_keptAll_X9_ones : GoodIn wsX9_keptAll (va_wsS RX9 41 yX9_ones wsX9_ones) := goodIn_app (goodIn_of _ (by decide +kernel)) ggX9_keptAll_X9_ones
theorem dX9_keptAll_0 : decode cX9_keptAll 0 = .ok (.iconst 0, 1) := by decide +kernel
theorem dX9_keptAll_1 : decode cX9_keptAll 1 = .ok (.istore_n 3, 1) := by decide +kernel
theorem dX9_keptAll_2 : decode cX9_keptAll 2 = .ok (.iconst 0, 1) := by decide +kernel
theorem dX9_keptAll_3 : decode cX9_keptAll 3 = .ok (.istore 4, 2) := by decide +kernel
theorem dX9_keptAll_5 : decode cX9_keptAll 5 = .ok (.iload 4, 2) := by decide +kernel
theorem dX9_keptAll_7 : decode cX9_keptAll 7 = .ok (.aload_n 0, 1) := by decide +kernel
theorem dX9_keptAll_8 : decode cX9_keptAll 8 = .ok (.getfield 69, 3) := by decide +kernel
theorem dX9_keptAll_11 : decode cX9_keptAll 11 = .ok (.if_icmp .ge 52, 3) := by decide +kernel
theorem dX9_keptAll_14 : decode cX9_keptAll 14 = .ok (.iload_n 1, 1) := by decide +kernel
theorem dX9_keptAll_15 : decode cX9_keptAll 15 = .ok (.ifCond .eq 11, 3) := by decide +kernel
theorem dX9_keptAll_18 : decode cX9_keptAll 18 = .ok (.bipush 8, 2) := by decide +kernel
theorem dX9_keptAll_20 : decode cX9_keptAll 20 = .ok (.iload 4, 2) := by decide +kernel
theorem dX9_keptAll_22 : decode cX9_keptAll 22 = .ok (.iadd, 1) := by decide +kernel
theorem dX9_keptAll_23 : decode cX9_keptAll 23 = .ok (.goto 5, 3) := by decide +kernel
theorem dX9_keptAll_26 : decode cX9_keptAll 26 = .ok (.iload 4, 2) := by decide +kernel
theorem dX9_keptAll_28 : decode cX9_keptAll 28 = .ok (.istore 5, 2) := by decide +kernel
theorem dX9_keptAll_30 : decode cX9_keptAll 30 = .ok (.iload_n 3, 1) := by decide +kernel
theorem dX9_keptAll_31 : decode cX9_keptAll 31 = .ok (.iload_n 2, 1) := by decide +kernel
theorem dX9_keptAll_32 : decode cX9_keptAll 32 = .ok (.ifCond .eq 16, 3) := by decide +kernel
theorem dX9_keptAll_35 : decode cX9_keptAll 35 = .ok (.aload_n 0, 1) := by decide +kernel
theorem dX9_keptAll_36 : decode cX9_keptAll 36 = .ok (.iload 5, 2) := by decide +kernel
theorem dX9_keptAll_38 : decode cX9_keptAll 38 = .ok (.iconst 1, 1) := by decide +kernel
theorem dX9_keptAll_39 : decode cX9_keptAll 39 = .ok (.invokevirtual 148, 3) := by decide +kernel
theorem dX9_keptAll_42 : decode cX9_keptAll 42 = .ok (.invokestatic 41, 3) := by decide +kernel
theorem dX9_keptAll_45 : decode cX9_keptAll 45 = .ok (.goto 10, 3) := by decide +kernel
theorem dX9_keptAll_48 : decode cX9_keptAll 48 = .ok (.aload_n 0, 1) := by decide +kernel
theorem dX9_keptAll_49 : decode cX9_keptAll 49 = .ok (.iload 5, 2) := by decide +kernel
theorem dX9_keptAll_51 : decode cX9_keptAll 51 = .ok (.iconst 3, 1) := by decide +kernel
theorem dX9_keptAll_52 : decode cX9_keptAll 52 = .ok (.invokevirtual 148, 3) := by decide +kernel
theorem dX9_keptAll_55 : decode cX9_keptAll 55 = .ok (.iadd, 1) := by decide +kernel
theorem dX9_keptAll_56 : decode cX9_keptAll 56 = .ok (.istore_n 3, 1) := by decide +kernel
theorem dX9_keptAll_57 : decode cX9_keptAll 57 = .ok (.iinc 4 1, 3) := by decide +kernel
theorem dX9_keptAll_60 : decode cX9_keptAll 60 = .ok (.goto (-55), 3) := by decide +kernel
theorem dX9_keptAll_63 : decode cX9_keptAll 63 = .ok (.iload_n 3, 1) := by decide +kernel
theorem dX9_keptAll_64 : decode cX9_keptAll 64 = .ok (.ireturn, 1) := by decide +kernel
set_option maxRecDepth 20000 in
theorem ggX9_leastNow_X9_layAll : GoodIn wsX9_leastNow wsX9_layAll := goodIn_r _ [6, 7, 8, 1, 9, 10, 11, 5, 12, 13, 14, 15, 16, 17, 18, 19, 20, 21, 22, 23, 24, 25, 26, 27, 28, 29, 30, 31, 32, 33, 34, 35, 36, 37, 38, 39, 40, 41, 42, 43, 44, 45, 46, 47, 48, 49, 50, 51, 52, 53, 54, 55, 56, 57, 58, 59, 60, 61, 62, 63, 64, 65, 66, 67, 68, 69, 70, 71, 72, 73, 74, 75, 76, 77, 78, 79, 80, 81, 82, 83, 84, 85, 86, 87, 88, 89, 90, 91, 92, 93, 94, 95, 96, 97, 98] (by decide +kernel) (by decide +kernel)
set_option maxRecDepth 20000 in
theorem gX9_leastNow_X9_layAll : GoodIn wsX9_leastNow (wsV RX9 138 RX9 yX9_layAll wsX9_layAll) := goodIn_app (goodIn_of _ (by decide +kernel)) ggX9_leastNow_X9_layAll
theorem dX9_leastNow_0 : decode cX9_leastNow 0 = .ok (.aload_n 0, 1) := by decide +kernel
theorem dX9_leastNow_1 : decode cX9_leastNow 1 = .ok (.invokevirtual 138, 3) := by decide +kernel
theorem dX9_leastNow_4 : decode cX9_leastNow 4 = .ok (.aload_n 0, 1) := by decide +kernel
theorem dX9_leastNow_5 : decode cX9_leastNow 5 = .ok (.getfield 132, 3) := by decide +kernel
theorem dX9_leastNow_8 : decode cX9_leastNow 8 = .ok (.ireturn, 1) := by decide +kernel
set_option maxRecDepth 20000 in
theorem ggX9_boundNow_X9_needs : GoodIn wsX9_boundNow wsX9_needs := goodIn_r _ [6, 7, 8, 17, 18, 19, 20, 21, 22, 23, 24, 25, 26, 27, 28, 29, 30, 31, 32, 33, 34, 35, 36, 37, 38, 39] (by decide +kernel) (by decide +kernel)
set_option maxRecDepth 20000 in
theorem gX9_boundNow_X9_needs : GoodIn wsX9_boundNow (wsV RX9 96 RX9 yX9_needs wsX9_needs) := goodIn_app (goodIn_of _ (by decide +kernel)) ggX9_boundNow_X9_needs
set_option maxRecDepth 20000 in
theorem ggX9_boundNow_X9_sizeOf : GoodIn wsX9_boundNow wsX9_sizeOf := goodIn_r _ [12, 13, 14, 15, 5, 16, 17, 18, 19, 20, 21, 22, 23, 24, 25, 26, 27, 28, 29, 30, 31, 32, 33, 34, 35, 36, 37, 38, 39] (by decide +kernel) (by decide +kernel)
set_option maxRecDepth 20000 in
theorem gX9_boundNow_X9_sizeOf : GoodIn wsX9_boundNow (wsV RX9 106 RX9 yX9_sizeOf wsX9_sizeOf) := goodIn_app (goodIn_of _ (by decide +kernel)) ggX9_boundNow_X9_sizeOf
theorem dX9_boundNow_0 : decode cX9_boundNow 0 = .ok (.iconst 0, 1) := by decide +kernel
theorem dX9_boundNow_1 : decode cX9_boundNow 1 = .ok (.istore_n 1, 1) := by decide +kernel
theorem dX9_boundNow_2 : decode cX9_boundNow 2 = .ok (.iconst 0, 1) := by decide +kernel
theorem dX9_boundNow_3 : decode cX9_boundNow 3 = .ok (.istore_n 2, 1) := by decide +kernel
theorem dX9_boundNow_4 : decode cX9_boundNow 4 = .ok (.iload_n 2, 1) := by decide +kernel
theorem dX9_boundNow_5 : decode cX9_boundNow 5 = .ok (.aload_n 0, 1) := by decide +kernel
theorem dX9_boundNow_6 : decode cX9_boundNow 6 = .ok (.getfield 69, 3) := by decide +kernel
theorem dX9_boundNow_9 : decode cX9_boundNow 9 = .ok (.if_icmp .ge 17, 3) := by decide +kernel
theorem dX9_boundNow_12 : decode cX9_boundNow 12 = .ok (.iload_n 1, 1) := by decide +kernel
theorem dX9_boundNow_13 : decode cX9_boundNow 13 = .ok (.aload_n 0, 1) := by decide +kernel
theorem dX9_boundNow_14 : decode cX9_boundNow 14 = .ok (.iload_n 2, 1) := by decide +kernel
theorem dX9_boundNow_15 : decode cX9_boundNow 15 = .ok (.invokevirtual 96, 3) := by decide +kernel
theorem dX9_boundNow_18 : decode cX9_boundNow 18 = .ok (.ior, 1) := by decide +kernel
theorem dX9_boundNow_19 : decode cX9_boundNow 19 = .ok (.istore_n 1, 1) := by decide +kernel
theorem dX9_boundNow_20 : decode cX9_boundNow 20 = .ok (.iinc 2 1, 3) := by decide +kernel
theorem dX9_boundNow_23 : decode cX9_boundNow 23 = .ok (.goto (-19), 3) := by decide +kernel
theorem dX9_boundNow_26 : decode cX9_boundNow 26 = .ok (.aload_n 0, 1) := by decide +kernel
theorem dX9_boundNow_27 : decode cX9_boundNow 27 = .ok (.iload_n 1, 1) := by decide +kernel
theorem dX9_boundNow_28 : decode cX9_boundNow 28 = .ok (.invokevirtual 106, 3) := by decide +kernel
theorem dX9_boundNow_31 : decode cX9_boundNow 31 = .ok (.ireturn, 1) := by decide +kernel
set_option maxRecDepth 20000 in
theorem ggX9_isReady_X9_isTooBig : GoodIn wsX9_isReady wsX9_isTooBig := goodIn_r _ [6, 1, 7, 8, 9, 10, 5, 11, 12, 13, 14, 15, 16, 17, 18, 19, 20, 21, 22, 23, 24, 25, 26, 27, 28, 29, 30, 31, 32, 33, 34, 35, 36, 37, 38, 39, 40, 41, 42, 43, 44] (by decide +kernel) (by decide +kernel)
set_option maxRecDepth 20000 in
theorem gX9_isReady_X9_isTooBig : GoodIn wsX9_isReady (wsV RX9 141 RX9 yX9_isTooBig wsX9_isTooBig) := goodIn_app (goodIn_of _ (by decide +kernel)) ggX9_isReady_X9_isTooBig
theorem dX9_isReady_0 : decode cX9_isReady 0 = .ok (.aload_n 0, 1) := by decide +kernel
theorem dX9_isReady_1 : decode cX9_isReady 1 = .ok (.getfield 69, 3) := by decide +kernel
theorem dX9_isReady_4 : decode cX9_isReady 4 = .ok (.ifCond .le 14, 3) := by decide +kernel
theorem dX9_isReady_7 : decode cX9_isReady 7 = .ok (.aload_n 0, 1) := by decide +kernel
theorem dX9_isReady_8 : decode cX9_isReady 8 = .ok (.invokevirtual 141, 3) := by decide +kernel
theorem dX9_isReady_11 : decode cX9_isReady 11 = .ok (.ifCond .ne 7, 3) := by decide +kernel
theorem dX9_isReady_14 : decode cX9_isReady 14 = .ok (.iconst 1, 1) := by decide +kernel
theorem dX9_isReady_15 : decode cX9_isReady 15 = .ok (.goto 4, 3) := by decide +kernel
theorem dX9_isReady_18 : decode cX9_isReady 18 = .ok (.iconst 0, 1) := by decide +kernel
theorem dX9_isReady_19 : decode cX9_isReady 19 = .ok (.ireturn, 1) := by decide +kernel
set_option maxRecDepth 20000 in
theorem ggX9_costNow_X9_keptAll : GoodIn wsX9_costNow wsX9_keptAll := goodIn_r _ [5, 6, 7, 8, 9, 4, 10, 11, 12, 13, 14, 15, 16, 17, 18, 19, 20, 21, 22, 23, 24, 25, 26, 27, 28, 29, 30, 31, 32, 33, 34, 35, 36, 37, 38, 39, 40, 41, 42, 43, 44, 45, 46, 47, 48, 49, 50, 51, 52, 53, 54, 55, 56, 57, 58, 59, 60, 61, 62, 63, 64, 65, 66, 67, 68, 69, 70, 71, 72, 73, 74, 75, 76, 77, 78, 79, 80, 81, 82, 83, 92, 93, 94, 95, 96, 97, 98, 99, 100, 101, 102, 103, 104, 105, 106, 107, 108, 109, 110, 111, 112, 113, 114] (by decide +kernel) (by decide +kernel)
set_option maxRecDepth 20000 in
theorem gX9_costNow_X9_keptAll : GoodIn wsX9_costNow (wsV RX9 151 RX9 yX9_keptAll wsX9_keptAll) := goodIn_app (goodIn_of _ (by decide +kernel)) ggX9_costNow_X9_keptAll
set_option maxRecDepth 20000 in
theorem ggX9_costNow_X9_leastNow : GoodIn wsX9_costNow wsX9_leastNow := goodIn_r _ [87, 19, 13, 14, 15, 4, 16, 17, 18, 20, 21, 22, 23, 24, 25, 26, 27, 28, 29, 30, 31, 6, 12, 32, 11, 33, 34, 35, 36, 37, 38, 39, 40, 41, 42, 43, 44, 45, 46, 47, 48, 49, 50, 51, 52, 53, 54, 55, 56, 57, 58, 59, 60, 61, 62, 63, 64, 65, 66, 67, 68, 69, 70, 71, 72, 73, 74, 75, 76, 77, 78, 79, 80, 81, 82, 83, 92, 93, 94, 95, 96, 97, 98, 99, 100, 101, 102, 103, 104, 105, 106, 107, 108, 109, 110, 111, 112, 113, 114] (by decide +kernel) (by decide +kernel)
set_option maxRecDepth 20000 in
theorem gX9_costNow_X9_leastNow : GoodIn wsX9_costNow (wsV RX9 155 RX9 yX9_leastNow wsX9_leastNow) := goodIn_app (goodIn_of _ (by decide +kernel)) ggX9_costNow_X9_leastNow
set_option maxRecDepth 20000 in
theorem ggX9_costNow_X9_boundNow : GoodIn wsX9_costNow wsX9_boundNow := goodIn_r _ [91, 6, 34, 35, 36, 4, 37, 38, 39, 20, 21, 22, 23, 24, 25, 26, 27, 92, 93, 94, 95, 96, 97, 98, 99, 100, 101, 102, 103, 104, 105, 106, 107, 108, 109, 110, 111, 112, 113, 114] (by decide +kernel) (by decide +kernel)
set_option maxRecDepth 20000 in
theorem gX9_costNow_X9_boundNow : GoodIn wsX9_costNow (wsV RX9 158 RX9 yX9_boundNow wsX9_boundNow) := goodIn_app (goodIn_of _ (by decide +kernel)) ggX9_costNow_X9_boundNow
theorem dX9_costNow_0 : decode cX9_costNow 0 = .ok (.iload_n 1, 1) := by decide +kernel
theorem dX9_costNow_1 : decode cX9_costNow 1 = .ok (.tableswitch 55 0 3 #[31, 38, 43, 48], 31) := by decide +kernel
theorem dX9_costNow_32 : decode cX9_costNow 32 = .ok (.aload_n 0, 1) := by decide +kernel
theorem dX9_costNow_33 : decode cX9_costNow 33 = .ok (.iconst 0, 1) := by decide +kernel
theorem dX9_costNow_34 : decode cX9_costNow 34 = .ok (.iconst 0, 1) := by decide +kernel
theorem dX9_costNow_35 : decode cX9_costNow 35 = .ok (.invokevirtual 151, 3) := by decide +kernel
theorem dX9_costNow_38 : decode cX9_costNow 38 = .ok (.ireturn, 1) := by decide +kernel
theorem dX9_costNow_39 : decode cX9_costNow 39 = .ok (.aload_n 0, 1) := by decide +kernel
theorem dX9_costNow_40 : decode cX9_costNow 40 = .ok (.invokevirtual 155, 3) := by decide +kernel
theorem dX9_costNow_43 : decode cX9_costNow 43 = .ok (.ireturn, 1) := by decide +kernel
theorem dX9_costNow_44 : decode cX9_costNow 44 = .ok (.aload_n 0, 1) := by decide +kernel
theorem dX9_costNow_45 : decode cX9_costNow 45 = .ok (.invokevirtual 158, 3) := by decide +kernel
theorem dX9_costNow_48 : decode cX9_costNow 48 = .ok (.ireturn, 1) := by decide +kernel
theorem dX9_costNow_49 : decode cX9_costNow 49 = .ok (.aload_n 0, 1) := by decide +kernel
theorem dX9_costNow_50 : decode cX9_costNow 50 = .ok (.iconst 0, 1) := by decide +kernel
theorem dX9_costNow_51 : decode cX9_costNow 51 = .ok (.iconst 1, 1) := by decide +kernel
end
section
theorem dX9_costNow_52 : decode cX9_costNow 52 = .ok (.invokevirtual 151, 3) := by decide +kernel
theorem dX9_costNow_55 : decode cX9_costNow 55 = .ok (.ireturn, 1) := by decide +kernel
theorem dX9_costNow_56 : decode cX9_costNow 56 = .ok (.aload_n 0, 1) := by decide +kernel
theorem dX9_costNow_57 : decode cX9_costNow 57 = .ok (.iconst 1, 1) := by decide +kernel
theorem dX9_costNow_58 : decode cX9_costNow 58 = .ok (.iconst 1, 1) := by decide +kernel
theorem dX9_costNow_59 : decode cX9_costNow 59 = .ok (.invokevirtual 151, 3) := by decide +kernel
theorem dX9_costNow_62 : decode cX9_costNow 62 = .ok (.ireturn, 1) := by decide +kernel
set_option maxRecDepth 20000 in
theorem ggX9_cost_X9_within : GoodIn wsX9_cost wsX9_within := goodIn_r _ [4] (by decide +kernel) (by decide +kernel)
set_option maxRecDepth 20000 in
theorem gX9_cost_X9_within : GoodIn wsX9_cost (va_wsS RX9 48 yX9_within wsX9_within) := goodIn_app (goodIn_of _ (by decide +kernel)) ggX9_cost_X9_within
set_option maxRecDepth 20000 in
theorem ggX9_cost_X9_isReady : GoodIn wsX9_cost wsX9_isReady := goodIn_r _ [8, 9, 10, 11, 12, 3, 13, 14, 15, 16, 17, 18, 19, 20, 21, 22, 23, 24, 25, 26, 27, 28, 107, 108, 109, 110, 111, 112, 113, 114, 115, 116, 117, 118, 119, 120, 121, 122, 123, 124, 125, 126, 127, 128, 129] (by decide +kernel) (by decide +kernel)
set_option maxRecDepth 20000 in
theorem gX9_cost_X9_isReady : GoodIn wsX9_cost (wsV RX9 161 RX9 yX9_isReady wsX9_isReady) := goodIn_app (goodIn_of _ (by decide +kernel)) ggX9_cost_X9_isReady
set_option maxRecDepth 20000 in
theorem ggX9_cost_X9_costNow : GoodIn wsX9_cost wsX9_costNow := goodIn_r _ [32, 33, 34, 35, 3, 36, 9, 37, 38, 39, 40, 41, 42, 43, 44, 45, 46, 47, 48, 49, 21, 22, 23, 24, 25, 26, 27, 28, 50, 51, 52, 53, 14, 54, 15, 16, 17, 18, 19, 20, 55, 56, 57, 58, 59, 60, 61, 62, 63, 64, 65, 66, 67, 68, 69, 70, 71, 72, 73, 74, 75, 76, 77, 78, 79, 80, 81, 82, 83, 84, 85, 86, 87, 88, 89, 90, 91, 92, 93, 94, 95, 96, 97, 98, 99, 100, 101, 102, 103, 104, 105, 106, 107, 108, 109, 110, 111, 112, 113, 114, 115, 116, 117, 118, 119, 120, 121, 122, 123, 124, 125, 126, 127, 128, 129] (by decide +kernel) (by decide +kernel)
set_option maxRecDepth 20000 in
theorem gX9_cost_X9_costNow : GoodIn wsX9_cost (wsV RX9 164 RX9 yX9_costNow wsX9_costNow) := goodIn_app (goodIn_of _ (by decide +kernel)) ggX9_cost_X9_costNow
theorem dX9_cost_0 : decode cX9_cost 0 = .ok (.iload_n 1, 1) := by decide +kernel
theorem dX9_cost_1 : decode cX9_cost 1 = .ok (.iconst 0, 1) := by decide +kernel
theorem dX9_cost_2 : decode cX9_cost 2 = .ok (.iconst 4, 1) := by decide +kernel
theorem dX9_cost_3 : decode cX9_cost 3 = .ok (.invokestatic 48, 3) := by decide +kernel
theorem dX9_cost_6 : decode cX9_cost 6 = .ok (.ifCond .ne 7, 3) := by decide +kernel
theorem dX9_cost_9 : decode cX9_cost 9 = .ok (.sipush (-1002), 3) := by decide +kernel
theorem dX9_cost_12 : decode cX9_cost 12 = .ok (.ireturn, 1) := by decide +kernel
theorem dX9_cost_13 : decode cX9_cost 13 = .ok (.aload_n 0, 1) := by decide +kernel
theorem dX9_cost_14 : decode cX9_cost 14 = .ok (.invokevirtual 161, 3) := by decide +kernel
theorem dX9_cost_17 : decode cX9_cost 17 = .ok (.ifCond .eq 11, 3) := by decide +kernel
theorem dX9_cost_20 : decode cX9_cost 20 = .ok (.aload_n 0, 1) := by decide +kernel
theorem dX9_cost_21 : decode cX9_cost 21 = .ok (.iload_n 1, 1) := by decide +kernel
theorem dX9_cost_22 : decode cX9_cost 22 = .ok (.invokevirtual 164, 3) := by decide +kernel
theorem dX9_cost_25 : decode cX9_cost 25 = .ok (.goto 6, 3) := by decide +kernel
theorem dX9_cost_28 : decode cX9_cost 28 = .ok (.sipush (-1003), 3) := by decide +kernel
theorem dX9_cost_31 : decode cX9_cost 31 = .ok (.ireturn, 1) := by decide +kernel
set_option maxRecDepth 20000 in
theorem ggX9_meanNow_X9_keptAll : GoodIn wsX9_meanNow wsX9_keptAll := goodIn_r _ [6, 1, 7, 8, 9, 5, 10, 11, 12, 13, 14, 15, 16, 17, 18, 19, 20, 21, 22, 23, 24, 25, 26, 27, 28, 29, 30, 31, 32, 33, 34, 35, 36, 37, 38, 39, 40, 41, 42, 43, 44, 45, 46, 47, 48, 49, 50, 51, 52, 53, 54, 55, 56, 57, 58, 59, 60, 61, 62, 63, 64, 65, 66, 67, 68, 69, 70, 71, 72, 73, 74, 75, 76, 77, 78, 79, 80, 81, 82, 83, 96, 97, 98, 99, 100, 101, 102, 103, 104, 105, 106, 107, 108, 109, 110, 111, 112, 113, 114, 115, 116, 117, 118] (by decide +kernel) (by decide +kernel)
set_option maxRecDepth 20000 in
theorem gX9_meanNow_X9_keptAll : GoodIn wsX9_meanNow (wsV RX9 151 RX9 yX9_keptAll wsX9_keptAll) := goodIn_app (goodIn_of _ (by decide +kernel)) ggX9_meanNow_X9_keptAll
set_option maxRecDepth 20000 in
theorem ggX9_meanNow_Jxe99ae_doubleToLongBits_ccdee : GoodIn wsX9_meanNow wsJxe99ae_doubleToLongBits_ccdee := goodIn_r _ [87, 88, 89, 90, 91, 92, 93, 94, 86, 95] (by decide +kernel) (by decide +kernel)
set_option maxRecDepth 20000 in
theorem gX9_meanNow_Jxe99ae_doubleToLongBits_ccdee : GoodIn wsX9_meanNow (va_wsS RX9 167 yJxe99ae_doubleToLongBits_ccdee wsJxe99ae_doubleToLongBits_ccdee) := goodIn_app (goodIn_of _ (by decide +kernel)) ggX9_meanNow_Jxe99ae_doubleToLongBits_ccdee
theorem dX9_meanNow_0 : decode cX9_meanNow 0 = .ok (.aload_n 0, 1) := by decide +kernel
theorem dX9_meanNow_1 : decode cX9_meanNow 1 = .ok (.iconst 0, 1) := by decide +kernel
theorem dX9_meanNow_2 : decode cX9_meanNow 2 = .ok (.iconst 0, 1) := by decide +kernel
theorem dX9_meanNow_3 : decode cX9_meanNow 3 = .ok (.invokevirtual 151, 3) := by decide +kernel
theorem dX9_meanNow_6 : decode cX9_meanNow 6 = .ok (.i2d, 1) := by decide +kernel
theorem dX9_meanNow_7 : decode cX9_meanNow 7 = .ok (.aload_n 0, 1) := by decide +kernel
theorem dX9_meanNow_8 : decode cX9_meanNow 8 = .ok (.getfield 69, 3) := by decide +kernel
theorem dX9_meanNow_11 : decode cX9_meanNow 11 = .ok (.i2d, 1) := by decide +kernel
theorem dX9_meanNow_12 : decode cX9_meanNow 12 = .ok (.ddiv, 1) := by decide +kernel
theorem dX9_meanNow_13 : decode cX9_meanNow 13 = .ok (.invokestatic 167, 3) := by decide +kernel
theorem dX9_meanNow_16 : decode cX9_meanNow 16 = .ok (.lreturn, 1) := by decide +kernel
set_option maxRecDepth 20000 in
theorem ggX9_mean_X9_isReady : GoodIn wsX9_mean wsX9_isReady := goodIn_r _ [6, 7, 8, 9, 10, 5, 11, 12, 13, 14, 15, 16, 17, 18, 19, 20, 21, 22, 23, 24, 25, 26, 109, 110, 111, 112, 113, 114, 115, 116, 117, 118, 119, 120, 121, 122, 123, 124, 125, 126, 127, 128, 129, 130, 131] (by decide +kernel) (by decide +kernel)
set_option maxRecDepth 20000 in
theorem gX9_mean_X9_isReady : GoodIn wsX9_mean (wsV RX9 161 RX9 yX9_isReady wsX9_isReady) := goodIn_app (goodIn_of _ (by decide +kernel)) ggX9_mean_X9_isReady
set_option maxRecDepth 20000 in
theorem ggX9_mean_X9_meanNow : GoodIn wsX9_mean wsX9_meanNow := goodIn_r _ [30, 7, 31, 32, 33, 5, 34, 35, 36, 37, 38, 39, 40, 41, 42, 43, 44, 45, 46, 47, 19, 20, 21, 22, 23, 24, 25, 26, 48, 49, 50, 51, 12, 52, 13, 14, 15, 16, 17, 18, 53, 54, 55, 56, 57, 58, 59, 60, 61, 62, 63, 64, 65, 66, 67, 68, 69, 70, 71, 72, 73, 74, 75, 76, 77, 78, 79, 80, 81, 82, 83, 84, 85, 86, 87, 88, 89, 90, 91, 92, 93, 94, 95, 96, 97, 98, 99, 100, 101, 102, 103, 104, 105, 106, 107, 108, 109, 110, 111, 112, 113, 114, 115, 116, 117, 118, 119, 120, 121, 122, 123, 124, 125, 126, 127, 128, 129, 130, 131] (by decide +kernel) (by decide +kernel)
set_option maxRecDepth 20000 in
theorem gX9_mean_X9_meanNow : GoodIn wsX9_mean (wsV RX9 173 RX9 yX9_meanNow wsX9_meanNow) := goodIn_app (goodIn_of _ (by decide +kernel)) ggX9_mean_X9_meanNow
theorem dX9_mean_0 : decode cX9_mean 0 = .ok (.aload_n 0, 1) := by decide +kernel
theorem dX9_mean_1 : decode cX9_mean 1 = .ok (.invokevirtual 161, 3) := by decide +kernel
theorem dX9_mean_4 : decode cX9_mean 4 = .ok (.ifCond .eq 10, 3) := by decide +kernel
theorem dX9_mean_7 : decode cX9_mean 7 = .ok (.aload_n 0, 1) := by decide +kernel
theorem dX9_mean_8 : decode cX9_mean 8 = .ok (.invokevirtual 173, 3) := by decide +kernel
theorem dX9_mean_11 : decode cX9_mean 11 = .ok (.goto 6, 3) := by decide +kernel
theorem dX9_mean_14 : decode cX9_mean 14 = .ok (.ldc2_w 177, 3) := by decide +kernel
theorem dX9_mean_17 : decode cX9_mean 17 = .ok (.lreturn, 1) := by decide +kernel
set_option maxRecDepth 20000 in
theorem ggX9_ratioNow_X9_keptAll : GoodIn wsX9_ratioNow wsX9_keptAll := goodIn_r _ [5, 6, 7, 8, 9, 4, 10, 11, 12, 13, 14, 15, 16, 17, 18, 19, 20, 21, 22, 23, 24, 25, 26, 27, 28, 29, 30, 31, 32, 33, 34, 35, 36, 37, 38, 39, 40, 41, 42, 43, 44, 45, 46, 47, 48, 49, 50, 51, 52, 53, 54, 55, 56, 57, 58, 59, 60, 61, 62, 63, 64, 65, 66, 67, 68, 69, 70, 71, 72, 73, 74, 75, 76, 77, 78, 79, 80, 81, 82, 83, 100, 101, 102, 103, 104, 105, 106, 107, 108, 109, 110, 111, 112, 113, 114, 115, 116, 117, 118, 119, 120, 121, 122] (by decide +kernel) (by decide +kernel)
set_option maxRecDepth 20000 in
theorem gX9_ratioNow_X9_keptAll : GoodIn wsX9_ratioNow (wsV RX9 151 RX9 yX9_keptAll wsX9_keptAll) := goodIn_app (goodIn_of _ (by decide +kernel)) ggX9_ratioNow_X9_keptAll
set_option maxRecDepth 20000 in
theorem ggX9_ratioNow_X9_leastNow : GoodIn wsX9_ratioNow wsX9_leastNow := goodIn_r _ [87, 19, 13, 14, 15, 4, 16, 17, 18, 20, 21, 22, 23, 24, 25, 26, 27, 28, 29, 30, 31, 6, 12, 32, 11, 33, 34, 35, 36, 37, 38, 39, 40, 41, 42, 43, 44, 45, 46, 47, 48, 49, 50, 51, 52, 53, 54, 55, 56, 57, 58, 59, 60, 61, 62, 63, 64, 65, 66, 67, 68, 69, 70, 71, 72, 73, 74, 75, 76, 77, 78, 79, 80, 81, 82, 83, 100, 101, 102, 103, 104, 105, 106, 107, 108, 109, 110, 111, 112, 113, 114, 115, 116, 117, 118, 119, 120, 121, 122] (by decide +kernel) (by decide +kernel)
set_option maxRecDepth 20000 in
theorem gX9_ratioNow_X9_leastNow : GoodIn wsX9_ratioNow (wsV RX9 155 RX9 yX9_leastNow wsX9_leastNow) := goodIn_app (goodIn_of _ (by decide +kernel)) ggX9_ratioNow_X9_leastNow
set_option maxRecDepth 20000 in
theorem ggX9_ratioNow_Jxf58ca_floatToIntBits_5c35a : GoodIn wsX9_ratioNow wsJxf58ca_floatToIntBits_5c35a := goodIn_r _ [91, 92, 93, 94, 95, 96, 97, 98, 90, 99] (by decide +kernel) (by decide +kernel)
set_option maxRecDepth 20000 in
theorem gX9_ratioNow_Jxf58ca_floatToIntBits_5c35a : GoodIn wsX9_ratioNow (va_wsS RX9 179 yJxf58ca_floatToIntBits_5c35a wsJxf58ca_floatToIntBits_5c35a) := goodIn_app (goodIn_of _ (by decide +kernel)) ggX9_ratioNow_Jxf58ca_floatToIntBits_5c35a
theorem dX9_ratioNow_0 : decode cX9_ratioNow 0 = .ok (.aload_n 0, 1) := by decide +kernel
theorem dX9_ratioNow_1 : decode cX9_ratioNow 1 = .ok (.iconst 0, 1) := by decide +kernel
theorem dX9_ratioNow_2 : decode cX9_ratioNow 2 = .ok (.iconst 0, 1) := by decide +kernel
theorem dX9_ratioNow_3 : decode cX9_ratioNow 3 = .ok (.invokevirtual 151, 3) := by decide +kernel
theorem dX9_ratioNow_6 : decode cX9_ratioNow 6 = .ok (.i2f, 1) := by decide +kernel
theorem dX9_ratioNow_7 : decode cX9_ratioNow 7 = .ok (.aload_n 0, 1) := by decide +kernel
theorem dX9_ratioNow_8 : decode cX9_ratioNow 8 = .ok (.invokevirtual 155, 3) := by decide +kernel
theorem dX9_ratioNow_11 : decode cX9_ratioNow 11 = .ok (.i2f, 1) := by decide +kernel
theorem dX9_ratioNow_12 : decode cX9_ratioNow 12 = .ok (.fdiv, 1) := by decide +kernel
theorem dX9_ratioNow_13 : decode cX9_ratioNow 13 = .ok (.invokestatic 179, 3) := by decide +kernel
theorem dX9_ratioNow_16 : decode cX9_ratioNow 16 = .ok (.ireturn, 1) := by decide +kernel
set_option maxRecDepth 20000 in
theorem ggX9_ratio_X9_isReady : GoodIn wsX9_ratio wsX9_isReady := goodIn_r _ [5, 6, 7, 8, 9, 4, 10, 11, 12, 13, 14, 15, 16, 17, 18, 19, 20, 21, 22, 23, 24, 25, 112, 113, 114, 115, 116, 117, 118, 119, 120, 121, 122, 123, 124, 125, 126, 127, 128, 129, 130, 131, 132, 133, 134] (by decide +kernel) (by decide +kernel)
set_option maxRecDepth 20000 in
theorem gX9_ratio_X9_isReady : GoodIn wsX9_ratio (wsV RX9 161 RX9 yX9_isReady wsX9_isReady) := goodIn_app (goodIn_of _ (by decide +kernel)) ggX9_ratio_X9_isReady
set_option maxRecDepth 20000 in
theorem ggX9_ratio_X9_ratioNow : GoodIn wsX9_ratio wsX9_ratioNow := goodIn_r _ [29, 30, 31, 32, 4, 33, 6, 34, 35, 36, 37, 38, 39, 40, 41, 42, 43, 44, 45, 46, 18, 19, 20, 21, 22, 23, 24, 25, 47, 48, 49, 50, 11, 51, 12, 13, 14, 15, 16, 17, 52, 53, 54, 55, 56, 57, 58, 59, 60, 61, 62, 63, 64, 65, 66, 67, 68, 69, 70, 71, 72, 73, 74, 75, 76, 77, 78, 79, 80, 81, 82, 83, 84, 85, 86, 87, 88, 89, 90, 91, 92, 93, 94, 95, 96, 97, 98, 99, 100, 101, 102, 103, 104, 105, 106, 107, 108, 109, 110, 111, 112, 113, 114, 115, 116, 117, 118, 119, 120, 121, 122, 123, 124, 125, 126, 127, 128, 129, 130, 131, 132, 133, 134] (by decide +kernel) (by decide +kernel)
set_option maxRecDepth 20000 in
theorem gX9_ratio_X9_ratioNow : GoodIn wsX9_ratio (wsV RX9 185 RX9 yX9_ratioNow wsX9_ratioNow) := goodIn_app (goodIn_of _ (by decide +kernel)) ggX9_ratio_X9_ratioNow
theorem dX9_ratio_0 : decode cX9_ratio 0 = .ok (.aload_n 0, 1) := by decide +kernel
theorem dX9_ratio_1 : decode cX9_ratio 1 = .ok (.invokevirtual 161, 3) := by decide +kernel
theorem dX9_ratio_4 : decode cX9_ratio 4 = .ok (.ifCond .eq 10, 3) := by decide +kernel
theorem dX9_ratio_7 : decode cX9_ratio 7 = .ok (.aload_n 0, 1) := by decide +kernel
theorem dX9_ratio_8 : decode cX9_ratio 8 = .ok (.invokevirtual 185, 3) := by decide +kernel
theorem dX9_ratio_11 : decode cX9_ratio 11 = .ok (.goto 6, 3) := by decide +kernel
theorem dX9_ratio_14 : decode cX9_ratio 14 = .ok (.sipush (-1003), 3) := by decide +kernel
theorem dX9_ratio_17 : decode cX9_ratio 17 = .ok (.ireturn, 1) := by decide +kernel
set_option maxRecDepth 20000 in
theorem ggX9_layBetter_X9_layLeast : GoodIn wsX9_layBetter wsX9_layLeast := goodIn_r _ [9, 10, 4, 11, 12, 13, 14, 15, 16, 8, 17, 18, 19, 20, 21, 22, 23, 24, 25, 26, 27, 28, 33, 34, 35, 36, 37, 38, 39, 40, 41, 42, 43, 44, 45, 46, 47, 48, 49, 50, 51, 52, 53, 54, 55] (by decide +kernel) (by decide +kernel)
set_option maxRecDepth 20000 in
theorem gX9_layBetter_X9_layLeast : GoodIn wsX9_layBetter (wsV RX9 129 RX9 yX9_layLeast wsX9_layLeast) := goodIn_app (goodIn_of _ (by decide +kernel)) ggX9_layBetter_X9_layLeast
set_option maxRecDepth 20000 in
theorem ggX9_layBetter_X9_change : GoodIn wsX9_layBetter wsX9_change := goodIn_r _ [32, 23, 33, 34, 35, 36, 37, 38, 39, 40, 41, 42, 43, 44, 45, 46, 47, 48, 49, 50, 51, 52, 53, 54, 55] (by decide +kernel) (by decide +kernel)
set_option maxRecDepth 20000 in
theorem gX9_layBetter_X9_change : GoodIn wsX9_layBetter (wsV RX9 88 RX9 yX9_change wsX9_change) := goodIn_app (goodIn_of _ (by decide +kernel)) ggX9_layBetter_X9_change
theorem dX9_layBetter_0 : decode cX9_layBetter 0 = .ok (.aload_n 0, 1) := by decide +kernel
theorem dX9_layBetter_1 : decode cX9_layBetter 1 = .ok (.invokevirtual 129, 3) := by decide +kernel
theorem dX9_layBetter_4 : decode cX9_layBetter 4 = .ok (.istore_n 1, 1) := by decide +kernel
theorem dX9_layBetter_5 : decode cX9_layBetter 5 = .ok (.aload_n 0, 1) := by decide +kernel
theorem dX9_layBetter_6 : decode cX9_layBetter 6 = .ok (.iconst (-1), 1) := by decide +kernel
theorem dX9_layBetter_7 : decode cX9_layBetter 7 = .ok (.putfield 188, 3) := by decide +kernel
theorem dX9_layBetter_10 : decode cX9_layBetter 10 = .ok (.aload_n 0, 1) := by decide +kernel
theorem dX9_layBetter_11 : decode cX9_layBetter 11 = .ok (.iconst (-1), 1) := by decide +kernel
theorem dX9_layBetter_12 : decode cX9_layBetter 12 = .ok (.putfield 191, 3) := by decide +kernel
theorem dX9_layBetter_15 : decode cX9_layBetter 15 = .ok (.aload_n 0, 1) := by decide +kernel
theorem dX9_layBetter_16 : decode cX9_layBetter 16 = .ok (.iconst (-1), 1) := by decide +kernel
theorem dX9_layBetter_17 : decode cX9_layBetter 17 = .ok (.putfield 194, 3) := by decide +kernel
theorem dX9_layBetter_20 : decode cX9_layBetter 20 = .ok (.iconst 0, 1) := by decide +kernel
theorem dX9_layBetter_21 : decode cX9_layBetter 21 = .ok (.istore_n 2, 1) := by decide +kernel
theorem dX9_layBetter_22 : decode cX9_layBetter 22 = .ok (.iload_n 2, 1) := by decide +kernel
theorem dX9_layBetter_23 : decode cX9_layBetter 23 = .ok (.aload_n 0, 1) := by decide +kernel
theorem dX9_layBetter_24 : decode cX9_layBetter 24 = .ok (.getfield 69, 3) := by decide +kernel
theorem dX9_layBetter_27 : decode cX9_layBetter 27 = .ok (.if_icmp .ge 70, 3) := by decide +kernel
theorem dX9_layBetter_30 : decode cX9_layBetter 30 = .ok (.iload_n 2, 1) := by decide +kernel
theorem dX9_layBetter_31 : decode cX9_layBetter 31 = .ok (.iconst 1, 1) := by decide +kernel
theorem dX9_layBetter_32 : decode cX9_layBetter 32 = .ok (.iadd, 1) := by decide +kernel
theorem dX9_layBetter_33 : decode cX9_layBetter 33 = .ok (.istore_n 3, 1) := by decide +kernel
theorem dX9_layBetter_34 : decode cX9_layBetter 34 = .ok (.iload_n 3, 1) := by decide +kernel
theorem dX9_layBetter_35 : decode cX9_layBetter 35 = .ok (.aload_n 0, 1) := by decide +kernel
theorem dX9_layBetter_36 : decode cX9_layBetter 36 = .ok (.getfield 69, 3) := by decide +kernel
theorem dX9_layBetter_39 : decode cX9_layBetter 39 = .ok (.if_icmp .ge 52, 3) := by decide +kernel
theorem dX9_layBetter_42 : decode cX9_layBetter 42 = .ok (.aload_n 0, 1) := by decide +kernel
theorem dX9_layBetter_43 : decode cX9_layBetter 43 = .ok (.iload_n 2, 1) := by decide +kernel
theorem dX9_layBetter_44 : decode cX9_layBetter 44 = .ok (.iload_n 3, 1) := by decide +kernel
theorem dX9_layBetter_45 : decode cX9_layBetter 45 = .ok (.invokevirtual 88, 3) := by decide +kernel
theorem dX9_layBetter_48 : decode cX9_layBetter 48 = .ok (.aload_n 0, 1) := by decide +kernel
theorem dX9_layBetter_49 : decode cX9_layBetter 49 = .ok (.invokevirtual 129, 3) := by decide +kernel
theorem dX9_layBetter_52 : decode cX9_layBetter 52 = .ok (.istore 4, 2) := by decide +kernel
theorem dX9_layBetter_54 : decode cX9_layBetter 54 = .ok (.aload_n 0, 1) := by decide +kernel
theorem dX9_layBetter_55 : decode cX9_layBetter 55 = .ok (.iload_n 2, 1) := by decide +kernel
theorem dX9_layBetter_56 : decode cX9_layBetter 56 = .ok (.iload_n 3, 1) := by decide +kernel
theorem dX9_layBetter_57 : decode cX9_layBetter 57 = .ok (.invokevirtual 88, 3) := by decide +kernel
theorem dX9_layBetter_60 : decode cX9_layBetter 60 = .ok (.iload 4, 2) := by decide +kernel
theorem dX9_layBetter_62 : decode cX9_layBetter 62 = .ok (.iload_n 1, 1) := by decide +kernel
theorem dX9_layBetter_63 : decode cX9_layBetter 63 = .ok (.if_icmp .ge 22, 3) := by decide +kernel
theorem dX9_layBetter_66 : decode cX9_layBetter 66 = .ok (.iload 4, 2) := by decide +kernel
theorem dX9_layBetter_68 : decode cX9_layBetter 68 = .ok (.istore_n 1, 1) := by decide +kernel
theorem dX9_layBetter_69 : decode cX9_layBetter 69 = .ok (.aload_n 0, 1) := by decide +kernel
theorem dX9_layBetter_70 : decode cX9_layBetter 70 = .ok (.iload_n 2, 1) := by decide +kernel
theorem dX9_layBetter_71 : decode cX9_layBetter 71 = .ok (.putfield 188, 3) := by decide +kernel
theorem dX9_layBetter_74 : decode cX9_layBetter 74 = .ok (.aload_n 0, 1) := by decide +kernel
theorem dX9_layBetter_75 : decode cX9_layBetter 75 = .ok (.iload_n 3, 1) := by decide +kernel
theorem dX9_layBetter_76 : decode cX9_layBetter 76 = .ok (.putfield 191, 3) := by decide +kernel
theorem dX9_layBetter_79 : decode cX9_layBetter 79 = .ok (.aload_n 0, 1) := by decide +kernel
theorem dX9_layBetter_80 : decode cX9_layBetter 80 = .ok (.iload 4, 2) := by decide +kernel
theorem dX9_layBetter_82 : decode cX9_layBetter 82 = .ok (.putfield 194, 3) := by decide +kernel
theorem dX9_layBetter_85 : decode cX9_layBetter 85 = .ok (.iinc 3 1, 3) := by decide +kernel
theorem dX9_layBetter_88 : decode cX9_layBetter 88 = .ok (.goto (-54), 3) := by decide +kernel
theorem dX9_layBetter_91 : decode cX9_layBetter 91 = .ok (.iinc 2 1, 3) := by decide +kernel
theorem dX9_layBetter_94 : decode cX9_layBetter 94 = .ok (.goto (-72), 3) := by decide +kernel
theorem dX9_layBetter_97 : decode cX9_layBetter 97 = .ok (.return_, 1) := by decide +kernel
set_option maxRecDepth 20000 in
theorem ggX9_betterNow_X9_layAll : GoodIn wsX9_betterNow wsX9_layAll := goodIn_r _ [8, 9, 10, 11, 12, 13, 14, 7, 15, 16, 17, 18, 19, 20, 21, 22, 23, 24, 25, 26, 27, 28, 29, 30, 31, 32, 33, 34, 35, 36, 37, 38, 39, 40, 41, 42, 43, 44, 45, 46, 47, 48, 49, 50, 51, 52, 53, 1, 2, 3, 54, 55, 56, 57, 58, 59, 60, 61, 62, 63, 64, 65, 66, 67, 68, 69, 70, 71, 72, 73, 74, 75, 76, 77, 78, 79, 80, 81, 82, 83, 84, 85, 86, 87, 88, 89, 90, 91, 92, 93, 94, 95, 96, 97, 98] (by decide +kernel) (by decide +kernel)
set_option maxRecDepth 20000 in
theorem gX9_betterNow_X9_layAll : GoodIn wsX9_betterNow (wsV RX9 138 RX9 yX9_layAll wsX9_layAll) := goodIn_app (goodIn_of _ (by decide +kernel)) ggX9_betterNow_X9_layAll
theorem dX9_betterNow_0 : decode cX9_betterNow 0 = .ok (.aload_n 0, 1) := by decide +kernel
theorem dX9_betterNow_1 : decode cX9_betterNow 1 = .ok (.invokevirtual 138, 3) := by decide +kernel
theorem dX9_betterNow_4 : decode cX9_betterNow 4 = .ok (.iload_n 1, 1) := by decide +kernel
theorem dX9_betterNow_5 : decode cX9_betterNow 5 = .ok (.ifCond .ne 10, 3) := by decide +kernel
theorem dX9_betterNow_8 : decode cX9_betterNow 8 = .ok (.aload_n 0, 1) := by decide +kernel
theorem dX9_betterNow_9 : decode cX9_betterNow 9 = .ok (.getfield 188, 3) := by decide +kernel
theorem dX9_betterNow_12 : decode cX9_betterNow 12 = .ok (.goto 19, 3) := by decide +kernel
theorem dX9_betterNow_15 : decode cX9_betterNow 15 = .ok (.iload_n 1, 1) := by decide +kernel
theorem dX9_betterNow_16 : decode cX9_betterNow 16 = .ok (.iconst 1, 1) := by decide +kernel
theorem dX9_betterNow_17 : decode cX9_betterNow 17 = .ok (.if_icmp .ne 10, 3) := by decide +kernel
theorem dX9_betterNow_20 : decode cX9_betterNow 20 = .ok (.aload_n 0, 1) := by decide +kernel
theorem dX9_betterNow_21 : decode cX9_betterNow 21 = .ok (.getfield 191, 3) := by decide +kernel
theorem dX9_betterNow_24 : decode cX9_betterNow 24 = .ok (.goto 7, 3) := by decide +kernel
theorem dX9_betterNow_27 : decode cX9_betterNow 27 = .ok (.aload_n 0, 1) := by decide +kernel
theorem dX9_betterNow_28 : decode cX9_betterNow 28 = .ok (.getfield 194, 3) := by decide +kernel
theorem dX9_betterNow_31 : decode cX9_betterNow 31 = .ok (.ireturn, 1) := by decide +kernel
set_option maxRecDepth 20000 in
theorem ggX9_pair_X9_within : GoodIn wsX9_pair wsX9_within := goodIn_r _ [4] (by decide +kernel) (by decide +kernel)
set_option maxRecDepth 20000 in
theorem gX9_pair_X9_within : GoodIn wsX9_pair (va_wsS RX9 48 yX9_within wsX9_within) := goodIn_app (goodIn_of _ (by decide +kernel)) ggX9_pair_X9_within
set_option maxRecDepth 20000 in
theorem ggX9_pair_X9_isReady : GoodIn wsX9_pair wsX9_isReady := goodIn_r _ [8, 9, 10, 11, 12, 3, 13, 14, 15, 16, 17, 18, 19, 20, 21, 22, 23, 24, 25, 26, 27, 28, 91, 92, 93, 94, 95, 96, 97, 98, 99, 100, 101, 102, 103, 104, 105, 106, 107, 108, 109, 110, 111, 112, 113] (by decide +kernel) (by decide +kernel)
set_option maxRecDepth 20000 in
theorem gX9_pair_X9_isReady : GoodIn wsX9_pair (wsV RX9 161 RX9 yX9_isReady wsX9_isReady) := goodIn_app (goodIn_of _ (by decide +kernel)) ggX9_pair_X9_isReady
set_option maxRecDepth 20000 in
theorem ggX9_pair_X9_betterNow : GoodIn wsX9_pair wsX9_betterNow := goodIn_r _ [32, 33, 34, 35, 36, 37, 38, 3, 39, 40, 41, 42, 21, 22, 23, 24, 25, 26, 27, 28, 43, 44, 45, 46, 9, 47, 14, 48, 49, 15, 16, 17, 18, 19, 20, 50, 51, 52, 53, 54, 55, 56, 57, 58, 59, 60, 61, 62, 63, 64, 65, 66, 67, 68, 69, 70, 71, 72, 73, 74, 75, 76, 77, 78, 79, 80, 81, 82, 83, 84, 85, 86, 87, 88, 89, 90, 91, 92, 93, 94, 95, 96, 97, 98, 99, 100, 101, 102, 103, 104, 105, 106, 107, 108, 109, 110, 111, 112, 113] (by decide +kernel) (by decide +kernel)
set_option maxRecDepth 20000 in
theorem gX9_pair_X9_betterNow : GoodIn wsX9_pair (wsV RX9 197 RX9 yX9_betterNow wsX9_betterNow) := goodIn_app (goodIn_of _ (by decide +kernel)) ggX9_pair_X9_betterNow
theorem dX9_pair_0 : decode cX9_pair 0 = .ok (.iload_n 1, 1) := by decide +kernel
theorem dX9_pair_1 : decode cX9_pair 1 = .ok (.iconst 0, 1) := by decide +kernel
theorem dX9_pair_2 : decode cX9_pair 2 = .ok (.iconst 2, 1) := by decide +kernel
theorem dX9_pair_3 : decode cX9_pair 3 = .ok (.invokestatic 48, 3) := by decide +kernel
theorem dX9_pair_6 : decode cX9_pair 6 = .ok (.ifCond .ne 7, 3) := by decide +kernel
theorem dX9_pair_9 : decode cX9_pair 9 = .ok (.sipush (-1002), 3) := by decide +kernel
theorem dX9_pair_12 : decode cX9_pair 12 = .ok (.ireturn, 1) := by decide +kernel
theorem dX9_pair_13 : decode cX9_pair 13 = .ok (.aload_n 0, 1) := by decide +kernel
theorem dX9_pair_14 : decode cX9_pair 14 = .ok (.invokevirtual 161, 3) := by decide +kernel
theorem dX9_pair_17 : decode cX9_pair 17 = .ok (.ifCond .eq 11, 3) := by decide +kernel
theorem dX9_pair_20 : decode cX9_pair 20 = .ok (.aload_n 0, 1) := by decide +kernel
theorem dX9_pair_21 : decode cX9_pair 21 = .ok (.iload_n 1, 1) := by decide +kernel
theorem dX9_pair_22 : decode cX9_pair 22 = .ok (.invokevirtual 197, 3) := by decide +kernel
theorem dX9_pair_25 : decode cX9_pair 25 = .ok (.goto 6, 3) := by decide +kernel
theorem dX9_pair_28 : decode cX9_pair 28 = .ok (.sipush (-1003), 3) := by decide +kernel
theorem dX9_pair_31 : decode cX9_pair 31 = .ok (.ireturn, 1) := by decide +kernel
set_option maxRecDepth 20000 in
theorem ggX9_better_X9_isReady : GoodIn wsX9_better wsX9_isReady := goodIn_r _ [9, 10, 11, 12, 13, 8, 14, 15, 16, 17, 18, 19, 20, 21, 22, 23, 24, 25, 26, 27, 28, 29, 89, 90, 91, 92, 93, 94, 95, 96, 97, 98, 99, 100, 101, 102, 103, 104, 105, 106, 107, 108, 109, 110, 111] (by decide +kernel) (by decide +kernel)
set_option maxRecDepth 20000 in
theorem gX9_better_X9_isReady : GoodIn wsX9_better (wsV RX9 161 RX9 yX9_isReady wsX9_isReady) := goodIn_app (goodIn_of _ (by decide +kernel)) ggX9_better_X9_isReady
set_option maxRecDepth 20000 in
theorem ggX9_better_X9_betterNow : GoodIn wsX9_better wsX9_betterNow := goodIn_r _ [33, 1, 2, 34, 35, 36, 37, 8, 38, 4, 39, 40, 22, 23, 24, 25, 26, 27, 28, 29, 41, 42, 43, 44, 10, 45, 15, 46, 47, 16, 17, 18, 19, 20, 21, 48, 49, 50, 51, 52, 53, 54, 55, 56, 57, 58, 59, 60, 61, 62, 63, 64, 65, 66, 67, 68, 69, 70, 71, 72, 73, 74, 75, 76, 77, 78, 79, 80, 81, 82, 83, 84, 85, 86, 87, 88, 89, 90, 91, 92, 93, 94, 95, 96, 97, 98, 99, 100, 101, 102, 103, 104, 105, 106, 107, 108, 109, 110, 111] (by decide +kernel) (by decide +kernel)
set_option maxRecDepth 20000 in
theorem gX9_better_X9_betterNow : GoodIn wsX9_better (wsV RX9 197 RX9 yX9_betterNow wsX9_betterNow) := goodIn_app (goodIn_of _ (by decide +kernel)) ggX9_better_X9_betterNow
set_option maxRecDepth 20000 in
theorem ggX9_better_X9_change : GoodIn wsX9_better wsX9_change := goodIn_r _ [84, 21, 89, 90, 91, 92, 93, 94, 95, 96, 97, 98, 99, 100, 101, 102, 103, 104, 105, 106, 107, 108, 109, 110, 111] (by decide +kernel) (by decide +kernel)
set_option maxRecDepth 20000 in
theorem gX9_better_X9_change : GoodIn wsX9_better (wsV RX9 88 RX9 yX9_change wsX9_change) := goodIn_app (goodIn_of _ (by decide +kernel)) ggX9_better_X9_change
theorem dX9_better_0 : decode cX9_better 0 = .ok (.aload_n 0, 1) := by decide +kernel
theorem dX9_better_1 : decode cX9_better 1 = .ok (.invokevirtual 161, 3) := by decide +kernel
theorem dX9_better_4 : decode cX9_better 4 = .ok (.ifCond .ne 7, 3) := by decide +kernel
theorem dX9_better_7 : decode cX9_better 7 = .ok (.sipush (-1003), 3) := by decide +kernel
theorem dX9_better_10 : decode cX9_better 10 = .ok (.ireturn, 1) := by decide +kernel
theorem dX9_better_11 : decode cX9_better 11 = .ok (.aload_n 0, 1) := by decide +kernel
theorem dX9_better_12 : decode cX9_better 12 = .ok (.iconst 2, 1) := by decide +kernel
theorem dX9_better_13 : decode cX9_better 13 = .ok (.invokevirtual 197, 3) := by decide +kernel
theorem dX9_better_16 : decode cX9_better 16 = .ok (.istore_n 1, 1) := by decide +kernel
theorem dX9_better_17 : decode cX9_better 17 = .ok (.iload_n 1, 1) := by decide +kernel
theorem dX9_better_18 : decode cX9_better 18 = .ok (.iconst (-1), 1) := by decide +kernel
theorem dX9_better_19 : decode cX9_better 19 = .ok (.if_icmp .eq 30, 3) := by decide +kernel
theorem dX9_better_22 : decode cX9_better 22 = .ok (.aload_n 0, 1) := by decide +kernel
theorem dX9_better_23 : decode cX9_better 23 = .ok (.aload_n 0, 1) := by decide +kernel
theorem dX9_better_24 : decode cX9_better 24 = .ok (.getfield 188, 3) := by decide +kernel
theorem dX9_better_27 : decode cX9_better 27 = .ok (.aload_n 0, 1) := by decide +kernel
theorem dX9_better_28 : decode cX9_better 28 = .ok (.getfield 191, 3) := by decide +kernel
theorem dX9_better_31 : decode cX9_better 31 = .ok (.invokevirtual 88, 3) := by decide +kernel
theorem dX9_better_34 : decode cX9_better 34 = .ok (.aload_n 0, 1) := by decide +kernel
theorem dX9_better_35 : decode cX9_better 35 = .ok (.dup, 1) := by decide +kernel
theorem dX9_better_36 : decode cX9_better 36 = .ok (.getfield 72, 3) := by decide +kernel
theorem dX9_better_39 : decode cX9_better 39 = .ok (.iconst 1, 1) := by decide +kernel
theorem dX9_better_40 : decode cX9_better 40 = .ok (.iadd, 1) := by decide +kernel
theorem dX9_better_41 : decode cX9_better 41 = .ok (.putfield 72, 3) := by decide +kernel
theorem dX9_better_44 : decode cX9_better 44 = .ok (.aload_n 0, 1) := by decide +kernel
theorem dX9_better_45 : decode cX9_better 45 = .ok (.iconst 0, 1) := by decide +kernel
theorem dX9_better_46 : decode cX9_better 46 = .ok (.putfield 75, 3) := by decide +kernel
theorem dX9_better_49 : decode cX9_better 49 = .ok (.iload_n 1, 1) := by decide +kernel
theorem dX9_better_50 : decode cX9_better 50 = .ok (.ireturn, 1) := by decide +kernel
set_option maxRecDepth 20000 in
theorem ggX9_breaksMany_X9_ones : GoodIn wsX9_breaksMany wsX9_ones := goodIn_r _ [6] (by decide +kernel) (by decide +kernel)
set_option maxRecDepth 20000 in
theorem gX9_breaksMany_X9_ones : GoodIn wsX9_breaksMany (va_wsS RX9 41 yX9_ones wsX9_ones) := goodIn_app (goodIn_of _ (by decide +kernel)) ggX9_breaksMany_X9_ones
theorem dX9_breaksMany_0 : decode cX9_breaksMany 0 = .ok (.iconst 0, 1) := by decide +kernel
theorem dX9_breaksMany_1 : decode cX9_breaksMany 1 = .ok (.istore_n 1, 1) := by decide +kernel
theorem dX9_breaksMany_2 : decode cX9_breaksMany 2 = .ok (.iconst 0, 1) := by decide +kernel
theorem dX9_breaksMany_3 : decode cX9_breaksMany 3 = .ok (.istore_n 2, 1) := by decide +kernel
theorem dX9_breaksMany_4 : decode cX9_breaksMany 4 = .ok (.iload_n 2, 1) := by decide +kernel
theorem dX9_breaksMany_5 : decode cX9_breaksMany 5 = .ok (.aload_n 0, 1) := by decide +kernel
theorem dX9_breaksMany_6 : decode cX9_breaksMany 6 = .ok (.getfield 69, 3) := by decide +kernel
theorem dX9_breaksMany_9 : decode cX9_breaksMany 9 = .ok (.if_icmp .ge 21, 3) := by decide +kernel
theorem dX9_breaksMany_12 : decode cX9_breaksMany 12 = .ok (.iload_n 1, 1) := by decide +kernel
theorem dX9_breaksMany_13 : decode cX9_breaksMany 13 = .ok (.aload_n 0, 1) := by decide +kernel
theorem dX9_breaksMany_14 : decode cX9_breaksMany 14 = .ok (.getfield 19, 3) := by decide +kernel
theorem dX9_breaksMany_17 : decode cX9_breaksMany 17 = .ok (.iload_n 2, 1) := by decide +kernel
theorem dX9_breaksMany_18 : decode cX9_breaksMany 18 = .ok (.iaload, 1) := by decide +kernel
theorem dX9_breaksMany_19 : decode cX9_breaksMany 19 = .ok (.invokestatic 41, 3) := by decide +kernel
theorem dX9_breaksMany_22 : decode cX9_breaksMany 22 = .ok (.iadd, 1) := by decide +kernel
theorem dX9_breaksMany_23 : decode cX9_breaksMany 23 = .ok (.istore_n 1, 1) := by decide +kernel
theorem dX9_breaksMany_24 : decode cX9_breaksMany 24 = .ok (.iinc 2 1, 3) := by decide +kernel
theorem dX9_breaksMany_27 : decode cX9_breaksMany 27 = .ok (.goto (-23), 3) := by decide +kernel
theorem dX9_breaksMany_30 : decode cX9_breaksMany 30 = .ok (.iload_n 1, 1) := by decide +kernel
theorem dX9_breaksMany_31 : decode cX9_breaksMany 31 = .ok (.ireturn, 1) := by decide +kernel
set_option maxRecDepth 20000 in
theorem ggX9_howMany_X9_breaksMany : GoodIn wsX9_howMany wsX9_breaksMany := goodIn_r _ [11, 1, 12, 13, 14, 10, 15, 30, 31, 32, 33, 34, 35, 36, 37, 38, 39, 40, 41, 42, 43, 44, 45, 46, 47, 48, 49, 50, 51, 52] (by decide +kernel) (by decide +kernel)
set_option maxRecDepth 20000 in
theorem gX9_howMany_X9_breaksMany : GoodIn wsX9_howMany (wsV RX9 200 RX9 yX9_breaksMany wsX9_breaksMany) := goodIn_app (goodIn_of _ (by decide +kernel)) ggX9_howMany_X9_breaksMany
set_option maxRecDepth 20000 in
theorem ggX9_howMany_X9_isTooBig : GoodIn wsX9_howMany wsX9_isTooBig := goodIn_r _ [19, 1, 3, 20, 21, 22, 10, 23, 24, 25, 26, 27, 28, 29, 4, 13, 14, 15, 30, 31, 32, 33, 34, 35, 36, 37, 38, 39, 40, 41, 42, 43, 44, 45, 46, 47, 48, 49, 50, 51, 52] (by decide +kernel) (by decide +kernel)
set_option maxRecDepth 20000 in
theorem gX9_howMany_X9_isTooBig : GoodIn wsX9_howMany (wsV RX9 141 RX9 yX9_isTooBig wsX9_isTooBig) := goodIn_app (goodIn_of _ (by decide +kernel)) ggX9_howMany_X9_isTooBig
theorem dX9_howMany_0 : decode cX9_howMany 0 = .ok (.iload_n 1, 1) := by decide +kernel
theorem dX9_howMany_1 : decode cX9_howMany 1 = .ok (.tableswitch 95 0 7 #[47, 52, 57, 62, 67, 72, 77, 82], 47) := by decide +kernel
theorem dX9_howMany_48 : decode cX9_howMany 48 = .ok (.aload_n 0, 1) := by decide +kernel
theorem dX9_howMany_49 : decode cX9_howMany 49 = .ok (.getfield 69, 3) := by decide +kernel
theorem dX9_howMany_52 : decode cX9_howMany 52 = .ok (.ireturn, 1) := by decide +kernel
theorem dX9_howMany_53 : decode cX9_howMany 53 = .ok (.aload_n 0, 1) := by decide +kernel
theorem dX9_howMany_54 : decode cX9_howMany 54 = .ok (.getfield 52, 3) := by decide +kernel
theorem dX9_howMany_57 : decode cX9_howMany 57 = .ok (.ireturn, 1) := by decide +kernel
theorem dX9_howMany_58 : decode cX9_howMany 58 = .ok (.aload_n 0, 1) := by decide +kernel
theorem dX9_howMany_59 : decode cX9_howMany 59 = .ok (.getfield 22, 3) := by decide +kernel
theorem dX9_howMany_62 : decode cX9_howMany 62 = .ok (.ireturn, 1) := by decide +kernel
theorem dX9_howMany_63 : decode cX9_howMany 63 = .ok (.aload_n 0, 1) := by decide +kernel
theorem dX9_howMany_64 : decode cX9_howMany 64 = .ok (.getfield 45, 3) := by decide +kernel
theorem dX9_howMany_67 : decode cX9_howMany 67 = .ok (.ireturn, 1) := by decide +kernel
theorem dX9_howMany_68 : decode cX9_howMany 68 = .ok (.aload_n 0, 1) := by decide +kernel
theorem dX9_howMany_69 : decode cX9_howMany 69 = .ok (.invokevirtual 200, 3) := by decide +kernel
theorem dX9_howMany_72 : decode cX9_howMany 72 = .ok (.ireturn, 1) := by decide +kernel
theorem dX9_howMany_73 : decode cX9_howMany 73 = .ok (.aload_n 0, 1) := by decide +kernel
theorem dX9_howMany_74 : decode cX9_howMany 74 = .ok (.getfield 72, 3) := by decide +kernel
theorem dX9_howMany_77 : decode cX9_howMany 77 = .ok (.ireturn, 1) := by decide +kernel
theorem dX9_howMany_78 : decode cX9_howMany 78 = .ok (.aload_n 0, 1) := by decide +kernel
theorem dX9_howMany_79 : decode cX9_howMany 79 = .ok (.getfield 79, 3) := by decide +kernel
theorem dX9_howMany_82 : decode cX9_howMany 82 = .ok (.ireturn, 1) := by decide +kernel
theorem dX9_howMany_83 : decode cX9_howMany 83 = .ok (.aload_n 0, 1) := by decide +kernel
theorem dX9_howMany_84 : decode cX9_howMany 84 = .ok (.invokevirtual 141, 3) := by decide +kernel
theorem dX9_howMany_87 : decode cX9_howMany 87 = .ok (.ifCond .eq 7, 3) := by decide +kernel
theorem dX9_howMany_90 : decode cX9_howMany 90 = .ok (.iconst 1, 1) := by decide +kernel
theorem dX9_howMany_91 : decode cX9_howMany 91 = .ok (.goto 4, 3) := by decide +kernel
theorem dX9_howMany_94 : decode cX9_howMany 94 = .ok (.iconst 0, 1) := by decide +kernel
theorem dX9_howMany_95 : decode cX9_howMany 95 = .ok (.ireturn, 1) := by decide +kernel
theorem dX9_howMany_96 : decode cX9_howMany 96 = .ok (.sipush (-1002), 3) := by decide +kernel
theorem dX9_howMany_99 : decode cX9_howMany 99 = .ok (.ireturn, 1) := by decide +kernel
set_option maxRecDepth 20000 in
theorem ggX9_count_X9_howMany : GoodIn wsX9_count wsX9_howMany := goodIn_r _ [5, 6, 7, 8, 9, 10, 11, 12, 13, 14, 4, 15, 16, 17, 18, 19, 20, 21, 22, 23, 24, 25, 26, 27, 28, 29, 30, 31, 32, 33, 34, 35, 36, 37, 38, 39, 40, 41, 42, 43, 44, 45, 46, 47, 48, 49, 50, 51, 52, 53, 54, 55, 56] (by decide +kernel) (by decide +kernel)
set_option maxRecDepth 20000 in
theorem gX9_count_X9_howMany : GoodIn wsX9_count (wsV RX9 203 RX9 yX9_howMany wsX9_howMany) := goodIn_app (goodIn_of _ (by decide +kernel)) ggX9_count_X9_howMany
theorem dX9_count_0 : decode cX9_count 0 = .ok (.aload_n 0, 1) := by decide +kernel
theorem dX9_count_1 : decode cX9_count 1 = .ok (.iload_n 1, 1) := by decide +kernel
theorem dX9_count_2 : decode cX9_count 2 = .ok (.invokevirtual 203, 3) := by decide +kernel
theorem dX9_count_5 : decode cX9_count 5 = .ok (.ireturn, 1) := by decide +kernel
theorem dX9_mix_0 : decode cX9_mix 0 = .ok (.aload_n 0, 1) := by decide +kernel
theorem dX9_mix_1 : decode cX9_mix 1 = .ok (.ldc2_w 206, 3) := by decide +kernel
theorem dX9_mix_4 : decode cX9_mix 4 = .ok (.aload_n 0, 1) := by decide +kernel
theorem dX9_mix_5 : decode cX9_mix 5 = .ok (.getfield 208, 3) := by decide +kernel
theorem dX9_mix_8 : decode cX9_mix 8 = .ok (.lmul, 1) := by decide +kernel
theorem dX9_mix_9 : decode cX9_mix 9 = .ok (.lload_n 1, 1) := by decide +kernel
theorem dX9_mix_10 : decode cX9_mix 10 = .ok (.ladd, 1) := by decide +kernel
theorem dX9_mix_11 : decode cX9_mix 11 = .ok (.putfield 208, 3) := by decide +kernel
theorem dX9_mix_14 : decode cX9_mix 14 = .ok (.return_, 1) := by decide +kernel
set_option maxRecDepth 20000 in
theorem ggX9_mixKeeping_X9_keptNow : GoodIn wsX9_mixKeeping wsX9_keptNow := goodIn_r _ [6, 7, 8, 9, 10, 11, 5, 12, 13, 14, 15, 16, 17, 18, 19, 20, 21, 22, 23, 24, 25, 26, 27, 1, 28, 29, 30, 31, 32, 33, 34, 35, 36, 37, 38, 39, 40, 41, 42, 43, 44, 45, 46, 47, 48, 49, 50, 51, 52, 53, 54, 55, 56, 57, 58, 59, 60, 61, 62, 63, 64, 65, 66, 67, 68, 69, 70, 71, 72, 73, 74, 75, 76, 77, 78, 79, 138, 139, 140, 141, 142, 143, 144, 145, 146, 147, 148, 149, 150, 151, 152, 153, 154, 155, 156, 157, 158, 159, 160] (by decide +kernel) (by decide +kernel)
set_option maxRecDepth 20000 in
theorem gX9_mixKeeping_X9_keptNow : GoodIn wsX9_mixKeeping (wsV RX9 148 RX9 yX9_keptNow wsX9_keptNow) := goodIn_app (goodIn_of _ (by decide +kernel)) ggX9_mixKeeping_X9_keptNow
set_option maxRecDepth 20000 in
theorem ggX9_mixKeeping_X9_mix : GoodIn wsX9_mixKeeping wsX9_mix := goodIn_r _ [83, 84, 85, 138, 139, 140, 141, 142, 143, 144, 145, 146, 147, 148, 149, 150, 151, 152, 153, 154, 155, 156, 157, 158, 159, 160] (by decide +kernel) (by decide +kernel)
set_option maxRecDepth 20000 in
theorem gX9_mixKeeping_X9_mix : GoodIn wsX9_mixKeeping (wsV RX9 212 RX9 yX9_mix wsX9_mix) := goodIn_app (goodIn_of _ (by decide +kernel)) ggX9_mixKeeping_X9_mix
set_option maxRecDepth 20000 in
theorem ggX9_mixKeeping_X9_costNow : GoodIn wsX9_mixKeeping wsX9_costNow := goodIn_r _ [89, 90, 91, 92, 5, 93, 1, 2, 3, 4, 6, 7, 8, 9, 10, 11, 12, 13, 14, 15, 16, 17, 18, 19, 20, 21, 22, 23, 24, 25, 26, 27, 28, 29, 30, 31, 32, 33, 34, 35, 36, 37, 38, 39, 40, 41, 42, 43, 44, 45, 46, 47, 48, 49, 50, 51, 52, 53, 54, 55, 56, 57, 58, 59, 60, 61, 62, 63, 64, 65, 66, 67, 68, 69, 70, 71, 72, 73, 74, 75, 76, 77, 78, 79, 94, 95, 96, 97, 98, 99, 100, 101, 138, 139, 140, 141, 142, 143, 144, 145, 146, 147, 148, 149, 150, 151, 152, 153, 154, 155, 156, 157, 158, 159, 160] (by decide +kernel) (by decide +kernel)
set_option maxRecDepth 20000 in
theorem gX9_mixKeeping_X9_costNow : GoodIn wsX9_mixKeeping (wsV RX9 164 RX9 yX9_costNow wsX9_costNow) := goodIn_app (goodIn_of _ (by decide +kernel)) ggX9_mixKeeping_X9_costNow
set_option maxRecDepth 20000 in
theorem ggX9_mixKeeping_X9_meanNow : GoodIn wsX9_mixKeeping wsX9_meanNow := goodIn_r _ [105, 1, 90, 91, 92, 5, 93, 2, 3, 4, 6, 7, 8, 9, 10, 11, 12, 13, 14, 15, 16, 17, 18, 19, 20, 21, 22, 23, 24, 25, 26, 27, 28, 29, 30, 31, 32, 33, 34, 35, 36, 37, 38, 39, 40, 41, 42, 43, 44, 45, 46, 47, 48, 49, 50, 51, 52, 53, 54, 55, 56, 57, 58, 59, 60, 61, 62, 63, 64, 65, 66, 67, 68, 69, 70, 71, 72, 73, 74, 75, 76, 77, 78, 79, 106, 107, 108, 109, 110, 111, 112, 113, 114, 115, 116, 117, 138, 139, 140, 141, 142, 143, 144, 145, 146, 147, 148, 149, 150, 151, 152, 153, 154, 155, 156, 157, 158, 159, 160] (by decide +kernel) (by decide +kernel)
set_option maxRecDepth 20000 in
theorem gX9_mixKeeping_X9_meanNow : GoodIn wsX9_mixKeeping (wsV RX9 173 RX9 yX9_meanNow wsX9_meanNow) := goodIn_app (goodIn_of _ (by decide +kernel)) ggX9_mixKeeping_X9_meanNow
set_option maxRecDepth 20000 in
theorem ggX9_mixKeeping_X9_ratioNow : GoodIn wsX9_mixKeeping wsX9_ratioNow := goodIn_r _ [121, 90, 91, 92, 5, 93, 1, 2, 3, 4, 6, 7, 8, 9, 10, 11, 12, 13, 14, 15, 16, 17, 18, 19, 20, 21, 22, 23, 24, 25, 26, 27, 28, 29, 30, 31, 32, 33, 34, 35, 36, 37, 38, 39, 40, 41, 42, 43, 44, 45, 46, 47, 48, 49, 50, 51, 52, 53, 54, 55, 56, 57, 58, 59, 60, 61, 62, 63, 64, 65, 66, 67, 68, 69, 70, 71, 72, 73, 74, 75, 76, 77, 78, 79, 94, 95, 96, 97, 122, 123, 124, 125, 126, 127, 128, 129, 130, 131, 132, 133, 138, 139, 140, 141, 142, 143, 144, 145, 146, 147, 148, 149, 150, 151, 152, 153, 154, 155, 156, 157, 158, 159, 160] (by decide +kernel) (by decide +kernel)
set_option maxRecDepth 20000 in
theorem gX9_mixKeeping_X9_ratioNow : GoodIn wsX9_mixKeeping (wsV RX9 185 RX9 yX9_ratioNow wsX9_ratioNow) := goodIn_app (goodIn_of _ (by decide +kernel)) ggX9_mixKeeping_X9_ratioNow
set_option maxRecDepth 20000 in
theorem ggX9_mixKeeping_X9_betterNow : GoodIn wsX9_mixKeeping wsX9_betterNow := goodIn_r _ [137, 55, 56, 57, 9, 10, 11, 5, 12, 13, 14, 15, 16, 17, 18, 19, 20, 21, 22, 23, 24, 25, 26, 27, 1, 8, 28, 7, 29, 30, 31, 32, 33, 34, 35, 36, 37, 38, 39, 40, 41, 42, 43, 44, 45, 46, 47, 48, 49, 50, 51, 52, 53, 54, 58, 59, 60, 61, 62, 63, 64, 65, 66, 67, 68, 69, 70, 71, 72, 73, 74, 75, 76, 77, 78, 79, 138, 139, 140, 141, 142, 143, 144, 145, 146, 147, 148, 149, 150, 151, 152, 153, 154, 155, 156, 157, 158, 159, 160] (by decide +kernel) (by decide +kernel)
set_option maxRecDepth 20000 in
theorem gX9_mixKeeping_X9_betterNow : GoodIn wsX9_mixKeeping (wsV RX9 197 RX9 yX9_betterNow wsX9_betterNow) := goodIn_app (goodIn_of _ (by decide +kernel)) ggX9_mixKeeping_X9_betterNow
theorem dX9_mixKeeping_0 : decode cX9_mixKeeping 0 = .ok (.iconst 0, 1) := by decide +kernel
theorem dX9_mixKeeping_1 : decode cX9_mixKeeping 1 = .ok (.istore_n 1, 1) := by decide +kernel
theorem dX9_mixKeeping_2 : decode cX9_mixKeeping 2 = .ok (.iload_n 1, 1) := by decide +kernel
theorem dX9_mixKeeping_3 : decode cX9_mixKeeping 3 = .ok (.bipush 8, 2) := by decide +kernel
theorem dX9_mixKeeping_5 : decode cX9_mixKeeping 5 = .ok (.aload_n 0, 1) := by decide +kernel
theorem dX9_mixKeeping_6 : decode cX9_mixKeeping 6 = .ok (.getfield 69, 3) := by decide +kernel
theorem dX9_mixKeeping_9 : decode cX9_mixKeeping 9 = .ok (.imul, 1) := by decide +kernel
theorem dX9_mixKeeping_10 : decode cX9_mixKeeping 10 = .ok (.if_icmp .ge 40, 3) := by decide +kernel
theorem dX9_mixKeeping_13 : decode cX9_mixKeeping 13 = .ok (.aload_n 0, 1) := by decide +kernel
theorem dX9_mixKeeping_14 : decode cX9_mixKeeping 14 = .ok (.aload_n 0, 1) := by decide +kernel
theorem dX9_mixKeeping_15 : decode cX9_mixKeeping 15 = .ok (.iload_n 1, 1) := by decide +kernel
theorem dX9_mixKeeping_16 : decode cX9_mixKeeping 16 = .ok (.bipush 8, 2) := by decide +kernel
theorem dX9_mixKeeping_18 : decode cX9_mixKeeping 18 = .ok (.idiv, 1) := by decide +kernel
theorem dX9_mixKeeping_19 : decode cX9_mixKeeping 19 = .ok (.iload_n 1, 1) := by decide +kernel
theorem dX9_mixKeeping_20 : decode cX9_mixKeeping 20 = .ok (.bipush 8, 2) := by decide +kernel
theorem dX9_mixKeeping_22 : decode cX9_mixKeeping 22 = .ok (.irem, 1) := by decide +kernel
theorem dX9_mixKeeping_23 : decode cX9_mixKeeping 23 = .ok (.iconst 4, 1) := by decide +kernel
theorem dX9_mixKeeping_24 : decode cX9_mixKeeping 24 = .ok (.if_icmp .ge 7, 3) := by decide +kernel
theorem dX9_mixKeeping_27 : decode cX9_mixKeeping 27 = .ok (.iconst 0, 1) := by decide +kernel
theorem dX9_mixKeeping_28 : decode cX9_mixKeeping 28 = .ok (.goto 5, 3) := by decide +kernel
theorem dX9_mixKeeping_31 : decode cX9_mixKeeping 31 = .ok (.bipush 8, 2) := by decide +kernel
theorem dX9_mixKeeping_33 : decode cX9_mixKeeping 33 = .ok (.iadd, 1) := by decide +kernel
theorem dX9_mixKeeping_34 : decode cX9_mixKeeping 34 = .ok (.iload_n 1, 1) := by decide +kernel
theorem dX9_mixKeeping_35 : decode cX9_mixKeeping 35 = .ok (.iconst 4, 1) := by decide +kernel
theorem dX9_mixKeeping_36 : decode cX9_mixKeeping 36 = .ok (.irem, 1) := by decide +kernel
theorem dX9_mixKeeping_37 : decode cX9_mixKeeping 37 = .ok (.invokevirtual 148, 3) := by decide +kernel
theorem dX9_mixKeeping_40 : decode cX9_mixKeeping 40 = .ok (.i2l, 1) := by decide +kernel
theorem dX9_mixKeeping_41 : decode cX9_mixKeeping 41 = .ok (.invokevirtual 212, 3) := by decide +kernel
theorem dX9_mixKeeping_44 : decode cX9_mixKeeping 44 = .ok (.iinc 1 1, 3) := by decide +kernel
theorem dX9_mixKeeping_47 : decode cX9_mixKeeping 47 = .ok (.goto (-45), 3) := by decide +kernel
theorem dX9_mixKeeping_50 : decode cX9_mixKeeping 50 = .ok (.iconst 0, 1) := by decide +kernel
theorem dX9_mixKeeping_51 : decode cX9_mixKeeping 51 = .ok (.istore_n 1, 1) := by decide +kernel
theorem dX9_mixKeeping_52 : decode cX9_mixKeeping 52 = .ok (.iload_n 1, 1) := by decide +kernel
theorem dX9_mixKeeping_53 : decode cX9_mixKeeping 53 = .ok (.iconst 5, 1) := by decide +kernel
theorem dX9_mixKeeping_54 : decode cX9_mixKeeping 54 = .ok (.if_icmp .ge 19, 3) := by decide +kernel
theorem dX9_mixKeeping_57 : decode cX9_mixKeeping 57 = .ok (.aload_n 0, 1) := by decide +kernel
theorem dX9_mixKeeping_58 : decode cX9_mixKeeping 58 = .ok (.aload_n 0, 1) := by decide +kernel
theorem dX9_mixKeeping_59 : decode cX9_mixKeeping 59 = .ok (.iload_n 1, 1) := by decide +kernel
theorem dX9_mixKeeping_60 : decode cX9_mixKeeping 60 = .ok (.invokevirtual 164, 3) := by decide +kernel
theorem dX9_mixKeeping_63 : decode cX9_mixKeeping 63 = .ok (.i2l, 1) := by decide +kernel
theorem dX9_mixKeeping_64 : decode cX9_mixKeeping 64 = .ok (.invokevirtual 212, 3) := by decide +kernel
theorem dX9_mixKeeping_67 : decode cX9_mixKeeping 67 = .ok (.iinc 1 1, 3) := by decide +kernel
theorem dX9_mixKeeping_70 : decode cX9_mixKeeping 70 = .ok (.goto (-18), 3) := by decide +kernel
theorem dX9_mixKeeping_73 : decode cX9_mixKeeping 73 = .ok (.aload_n 0, 1) := by decide +kernel
theorem dX9_mixKeeping_74 : decode cX9_mixKeeping 74 = .ok (.aload_n 0, 1) := by decide +kernel
theorem dX9_mixKeeping_75 : decode cX9_mixKeeping 75 = .ok (.invokevirtual 173, 3) := by decide +kernel
theorem dX9_mixKeeping_78 : decode cX9_mixKeeping 78 = .ok (.invokevirtual 212, 3) := by decide +kernel
theorem dX9_mixKeeping_81 : decode cX9_mixKeeping 81 = .ok (.aload_n 0, 1) := by decide +kernel
theorem dX9_mixKeeping_82 : decode cX9_mixKeeping 82 = .ok (.aload_n 0, 1) := by decide +kernel
theorem dX9_mixKeeping_83 : decode cX9_mixKeeping 83 = .ok (.invokevirtual 185, 3) := by decide +kernel
theorem dX9_mixKeeping_86 : decode cX9_mixKeeping 86 = .ok (.i2l, 1) := by decide +kernel
theorem dX9_mixKeeping_87 : decode cX9_mixKeeping 87 = .ok (.invokevirtual 212, 3) := by decide +kernel
theorem dX9_mixKeeping_90 : decode cX9_mixKeeping 90 = .ok (.iconst 0, 1) := by decide +kernel
theorem dX9_mixKeeping_91 : decode cX9_mixKeeping 91 = .ok (.istore_n 1, 1) := by decide +kernel
theorem dX9_mixKeeping_92 : decode cX9_mixKeeping 92 = .ok (.iload_n 1, 1) := by decide +kernel
theorem dX9_mixKeeping_93 : decode cX9_mixKeeping 93 = .ok (.iconst 3, 1) := by decide +kernel
theorem dX9_mixKeeping_94 : decode cX9_mixKeeping 94 = .ok (.if_icmp .ge 19, 3) := by decide +kernel
theorem dX9_mixKeeping_97 : decode cX9_mixKeeping 97 = .ok (.aload_n 0, 1) := by decide +kernel
theorem dX9_mixKeeping_98 : decode cX9_mixKeeping 98 = .ok (.aload_n 0, 1) := by decide +kernel
theorem dX9_mixKeeping_99 : decode cX9_mixKeeping 99 = .ok (.iload_n 1, 1) := by decide +kernel
theorem dX9_mixKeeping_100 : decode cX9_mixKeeping 100 = .ok (.invokevirtual 197, 3) := by decide +kernel
theorem dX9_mixKeeping_103 : decode cX9_mixKeeping 103 = .ok (.i2l, 1) := by decide +kernel
theorem dX9_mixKeeping_104 : decode cX9_mixKeeping 104 = .ok (.invokevirtual 212, 3) := by decide +kernel
theorem dX9_mixKeeping_107 : decode cX9_mixKeeping 107 = .ok (.iinc 1 1, 3) := by decide +kernel
theorem dX9_mixKeeping_110 : decode cX9_mixKeeping 110 = .ok (.goto (-18), 3) := by decide +kernel
theorem dX9_mixKeeping_113 : decode cX9_mixKeeping 113 = .ok (.return_, 1) := by decide +kernel
set_option maxRecDepth 20000 in
theorem ggX9_digest_X9_jobNow : GoodIn wsX9_digest wsX9_jobNow := goodIn_r _ [10, 11, 12, 13, 14, 15, 9, 16, 17, 167, 168, 169, 170, 171, 172, 173, 174, 175, 176, 177, 178, 179, 180, 181, 182, 183, 184, 185, 186, 187, 188, 189] (by decide +kernel) (by decide +kernel)
set_option maxRecDepth 20000 in
theorem gX9_digest_X9_jobNow : GoodIn wsX9_digest (wsV RX9 99 RX9 yX9_jobNow wsX9_jobNow) := goodIn_app (goodIn_of _ (by decide +kernel)) ggX9_digest_X9_jobNow
set_option maxRecDepth 20000 in
theorem ggX9_digest_X9_mix : GoodIn wsX9_digest wsX9_mix := goodIn_r _ [21, 22, 2, 167, 168, 169, 170, 171, 172, 173, 174, 175, 176, 177, 178, 179, 180, 181, 182, 183, 184, 185, 186, 187, 188, 189] (by decide +kernel) (by decide +kernel)
set_option maxRecDepth 20000 in
theorem gX9_digest_X9_mix : GoodIn wsX9_digest (wsV RX9 212 RX9 yX9_mix wsX9_mix) := goodIn_app (goodIn_of _ (by decide +kernel)) ggX9_digest_X9_mix
set_option maxRecDepth 20000 in
theorem ggX9_digest_X9_nextOf : GoodIn wsX9_digest wsX9_nextOf := goodIn_r _ [26, 3, 12, 27, 28, 9, 29, 13, 14, 15, 16, 17, 11, 167, 168, 169, 170, 171, 172, 173, 174, 175, 176, 177, 178, 179, 180, 181, 182, 183, 184, 185, 186, 187, 188, 189] (by decide +kernel) (by decide +kernel)
set_option maxRecDepth 20000 in
theorem gX9_digest_X9_nextOf : GoodIn wsX9_digest (wsV RX9 103 RX9 yX9_nextOf wsX9_nextOf) := goodIn_app (goodIn_of _ (by decide +kernel)) ggX9_digest_X9_nextOf
set_option maxRecDepth 20000 in
theorem ggX9_digest_X9_isReady : GoodIn wsX9_digest wsX9_isReady := goodIn_r _ [33, 3, 34, 35, 36, 9, 37, 38, 13, 14, 15, 16, 17, 11, 39, 40, 41, 42, 43, 44, 45, 46, 167, 168, 169, 170, 171, 172, 173, 174, 175, 176, 177, 178, 179, 180, 181, 182, 183, 184, 185, 186, 187, 188, 189] (by decide +kernel) (by decide +kernel)
set_option maxRecDepth 20000 in
theorem gX9_digest_X9_isReady : GoodIn wsX9_digest (wsV RX9 161 RX9 yX9_isReady wsX9_isReady) := goodIn_app (goodIn_of _ (by decide +kernel)) ggX9_digest_X9_isReady
set_option maxRecDepth 20000 in
theorem ggX9_digest_X9_mixKeeping : GoodIn wsX9_digest wsX9_mixKeeping := goodIn_r _ [50, 3, 51, 52, 53, 9, 54, 55, 56, 57, 58, 59, 60, 61, 62, 63, 39, 40, 41, 42, 43, 44, 45, 46, 64, 65, 66, 67, 38, 12, 13, 14, 15, 16, 17, 11, 68, 69, 70, 71, 27, 28, 29, 72, 73, 74, 75, 23, 24, 25, 26, 76, 77, 78, 79, 80, 81, 82, 83, 84, 85, 86, 87, 88, 89, 90, 91, 92, 93, 94, 95, 96, 97, 98, 99, 100, 101, 102, 103, 104, 18, 19, 20, 21, 22, 2, 105, 106, 107, 108, 109, 110, 111, 112, 113, 114, 115, 116, 117, 118, 119, 120, 121, 122, 123, 124, 125, 126, 127, 128, 129, 130, 131, 132, 133, 134, 135, 136, 137, 138, 139, 140, 141, 142, 143, 144, 145, 146, 147, 148, 149, 150, 151, 152, 153, 154, 155, 156, 167, 168, 169, 170, 171, 172, 173, 174, 175, 176, 177, 178, 179, 180, 181, 182, 183, 184, 185, 186, 187, 188, 189] (by decide +kernel) (by decide +kernel)
set_option maxRecDepth 20000 in
theorem gX9_digest_X9_mixKeeping : GoodIn wsX9_digest (wsV RX9 218 RX9 yX9_mixKeeping wsX9_mixKeeping) := goodIn_app (goodIn_of _ (by decide +kernel)) ggX9_digest_X9_mixKeeping
set_option maxRecDepth 20000 in
theorem ggX9_digest_X9_howMany : GoodIn wsX9_digest wsX9_howMany := goodIn_r _ [160, 3, 4, 38, 43, 161, 162, 163, 164, 165, 9, 166, 12, 44, 45, 46, 34, 35, 36, 37, 13, 14, 15, 16, 17, 11, 39, 40, 41, 42, 167, 168, 169, 170, 171, 172, 173, 174, 175, 176, 177, 178, 179, 180, 181, 182, 183, 184, 185, 186, 187, 188, 189] (by decide +kernel) (by decide +kernel)
set_option maxRecDepth 20000 in
theorem gX9_digest_X9_howMany : GoodIn wsX9_digest (wsV RX9 203 RX9 yX9_howMany wsX9_howMany) := goodIn_app (goodIn_of _ (by decide +kernel)) ggX9_digest_X9_howMany
theorem dX9_digest_0 : decode cX9_digest 0 = .ok (.aload_n 0, 1) := by decide +kernel
theorem dX9_digest_1 : decode cX9_digest 1 = .ok (.ldc2_w 216, 3) := by decide +kernel
theorem dX9_digest_4 : decode cX9_digest 4 = .ok (.putfield 208, 3) := by decide +kernel
theorem dX9_digest_7 : decode cX9_digest 7 = .ok (.iconst 0, 1) := by decide +kernel
theorem dX9_digest_8 : decode cX9_digest 8 = .ok (.istore_n 1, 1) := by decide +kernel
theorem dX9_digest_9 : decode cX9_digest 9 = .ok (.iload_n 1, 1) := by decide +kernel
theorem dX9_digest_10 : decode cX9_digest 10 = .ok (.aload_n 0, 1) := by decide +kernel
theorem dX9_digest_11 : decode cX9_digest 11 = .ok (.getfield 69, 3) := by decide +kernel
theorem dX9_digest_14 : decode cX9_digest 14 = .ok (.if_icmp .ge 58, 3) := by decide +kernel
theorem dX9_digest_17 : decode cX9_digest 17 = .ok (.iconst 0, 1) := by decide +kernel
theorem dX9_digest_18 : decode cX9_digest 18 = .ok (.istore_n 2, 1) := by decide +kernel
theorem dX9_digest_19 : decode cX9_digest 19 = .ok (.iload_n 2, 1) := by decide +kernel
theorem dX9_digest_20 : decode cX9_digest 20 = .ok (.iconst 3, 1) := by decide +kernel
theorem dX9_digest_21 : decode cX9_digest 21 = .ok (.if_icmp .ge 20, 3) := by decide +kernel
theorem dX9_digest_24 : decode cX9_digest 24 = .ok (.aload_n 0, 1) := by decide +kernel
theorem dX9_digest_25 : decode cX9_digest 25 = .ok (.aload_n 0, 1) := by decide +kernel
theorem dX9_digest_26 : decode cX9_digest 26 = .ok (.iload_n 1, 1) := by decide +kernel
theorem dX9_digest_27 : decode cX9_digest 27 = .ok (.iload_n 2, 1) := by decide +kernel
theorem dX9_digest_28 : decode cX9_digest 28 = .ok (.invokevirtual 99, 3) := by decide +kernel
theorem dX9_digest_31 : decode cX9_digest 31 = .ok (.i2l, 1) := by decide +kernel
theorem dX9_digest_32 : decode cX9_digest 32 = .ok (.invokevirtual 212, 3) := by decide +kernel
theorem dX9_digest_35 : decode cX9_digest 35 = .ok (.iinc 2 1, 3) := by decide +kernel
theorem dX9_digest_38 : decode cX9_digest 38 = .ok (.goto (-19), 3) := by decide +kernel
theorem dX9_digest_41 : decode cX9_digest 41 = .ok (.iconst 0, 1) := by decide +kernel
theorem dX9_digest_42 : decode cX9_digest 42 = .ok (.istore_n 2, 1) := by decide +kernel
theorem dX9_digest_43 : decode cX9_digest 43 = .ok (.iload_n 2, 1) := by decide +kernel
theorem dX9_digest_44 : decode cX9_digest 44 = .ok (.bipush 8, 2) := by decide +kernel
theorem dX9_digest_46 : decode cX9_digest 46 = .ok (.if_icmp .ge 20, 3) := by decide +kernel
theorem dX9_digest_49 : decode cX9_digest 49 = .ok (.aload_n 0, 1) := by decide +kernel
theorem dX9_digest_50 : decode cX9_digest 50 = .ok (.aload_n 0, 1) := by decide +kernel
theorem dX9_digest_51 : decode cX9_digest 51 = .ok (.iload_n 1, 1) := by decide +kernel
theorem dX9_digest_52 : decode cX9_digest 52 = .ok (.iload_n 2, 1) := by decide +kernel
theorem dX9_digest_53 : decode cX9_digest 53 = .ok (.invokevirtual 103, 3) := by decide +kernel
theorem dX9_digest_56 : decode cX9_digest 56 = .ok (.i2l, 1) := by decide +kernel
theorem dX9_digest_57 : decode cX9_digest 57 = .ok (.invokevirtual 212, 3) := by decide +kernel
theorem dX9_digest_60 : decode cX9_digest 60 = .ok (.iinc 2 1, 3) := by decide +kernel
theorem dX9_digest_63 : decode cX9_digest 63 = .ok (.goto (-20), 3) := by decide +kernel
theorem dX9_digest_66 : decode cX9_digest 66 = .ok (.iinc 1 1, 3) := by decide +kernel
theorem dX9_digest_69 : decode cX9_digest 69 = .ok (.goto (-60), 3) := by decide +kernel
theorem dX9_digest_72 : decode cX9_digest 72 = .ok (.aload_n 0, 1) := by decide +kernel
theorem dX9_digest_73 : decode cX9_digest 73 = .ok (.invokevirtual 161, 3) := by decide +kernel
theorem dX9_digest_76 : decode cX9_digest 76 = .ok (.ifCond .eq 7, 3) := by decide +kernel
theorem dX9_digest_79 : decode cX9_digest 79 = .ok (.aload_n 0, 1) := by decide +kernel
theorem dX9_digest_80 : decode cX9_digest 80 = .ok (.invokevirtual 218, 3) := by decide +kernel
theorem dX9_digest_83 : decode cX9_digest 83 = .ok (.iconst 0, 1) := by decide +kernel
theorem dX9_digest_84 : decode cX9_digest 84 = .ok (.istore_n 1, 1) := by decide +kernel
theorem dX9_digest_85 : decode cX9_digest 85 = .ok (.iload_n 1, 1) := by decide +kernel
theorem dX9_digest_86 : decode cX9_digest 86 = .ok (.aload_n 0, 1) := by decide +kernel
theorem dX9_digest_87 : decode cX9_digest 87 = .ok (.getfield 52, 3) := by decide +kernel
theorem dX9_digest_90 : decode cX9_digest 90 = .ok (.if_icmp .ge 20, 3) := by decide +kernel
theorem dX9_digest_93 : decode cX9_digest 93 = .ok (.aload_n 0, 1) := by decide +kernel
theorem dX9_digest_94 : decode cX9_digest 94 = .ok (.aload_n 0, 1) := by decide +kernel
theorem dX9_digest_95 : decode cX9_digest 95 = .ok (.getfield 7, 3) := by decide +kernel
theorem dX9_digest_98 : decode cX9_digest 98 = .ok (.iload_n 1, 1) := by decide +kernel
theorem dX9_digest_99 : decode cX9_digest 99 = .ok (.iaload, 1) := by decide +kernel
theorem dX9_digest_100 : decode cX9_digest 100 = .ok (.i2l, 1) := by decide +kernel
theorem dX9_digest_101 : decode cX9_digest 101 = .ok (.invokevirtual 212, 3) := by decide +kernel
theorem dX9_digest_104 : decode cX9_digest 104 = .ok (.iinc 1 1, 3) := by decide +kernel
theorem dX9_digest_107 : decode cX9_digest 107 = .ok (.goto (-22), 3) := by decide +kernel
theorem dX9_digest_110 : decode cX9_digest 110 = .ok (.iconst 0, 1) := by decide +kernel
theorem dX9_digest_111 : decode cX9_digest 111 = .ok (.istore_n 1, 1) := by decide +kernel
theorem dX9_digest_112 : decode cX9_digest 112 = .ok (.iload_n 1, 1) := by decide +kernel
theorem dX9_digest_113 : decode cX9_digest 113 = .ok (.bipush 8, 2) := by decide +kernel
theorem dX9_digest_115 : decode cX9_digest 115 = .ok (.if_icmp .ge 19, 3) := by decide +kernel
theorem dX9_digest_118 : decode cX9_digest 118 = .ok (.aload_n 0, 1) := by decide +kernel
theorem dX9_digest_119 : decode cX9_digest 119 = .ok (.aload_n 0, 1) := by decide +kernel
theorem dX9_digest_120 : decode cX9_digest 120 = .ok (.iload_n 1, 1) := by decide +kernel
theorem dX9_digest_121 : decode cX9_digest 121 = .ok (.invokevirtual 203, 3) := by decide +kernel
theorem dX9_digest_124 : decode cX9_digest 124 = .ok (.i2l, 1) := by decide +kernel
theorem dX9_digest_125 : decode cX9_digest 125 = .ok (.invokevirtual 212, 3) := by decide +kernel
theorem dX9_digest_128 : decode cX9_digest 128 = .ok (.iinc 1 1, 3) := by decide +kernel
theorem dX9_digest_131 : decode cX9_digest 131 = .ok (.goto (-19), 3) := by decide +kernel
theorem dX9_digest_134 : decode cX9_digest 134 = .ok (.aload_n 0, 1) := by decide +kernel
theorem dX9_digest_135 : decode cX9_digest 135 = .ok (.getfield 208, 3) := by decide +kernel
theorem dX9_digest_138 : decode cX9_digest 138 = .ok (.lreturn, 1) := by decide +kernel
theorem dJxe99ae_isNaN_b9ae7_0 : decode cJxe99ae_isNaN_b9ae7 0 = .ok (.dload_n 0, 1) := by decide +kernel
theorem dJxe99ae_isNaN_b9ae7_1 : decode cJxe99ae_isNaN_b9ae7 1 = .ok (.dload_n 0, 1) := by decide +kernel
theorem dJxe99ae_isNaN_b9ae7_2 : decode cJxe99ae_isNaN_b9ae7 2 = .ok (.dcmp .l, 1) := by decide +kernel
theorem dJxe99ae_isNaN_b9ae7_3 : decode cJxe99ae_isNaN_b9ae7 3 = .ok (.ifCond .eq 7, 3) := by decide +kernel
theorem dJxe99ae_isNaN_b9ae7_6 : decode cJxe99ae_isNaN_b9ae7 6 = .ok (.iconst 1, 1) := by decide +kernel
theorem dJxe99ae_isNaN_b9ae7_7 : decode cJxe99ae_isNaN_b9ae7 7 = .ok (.goto 4, 3) := by decide +kernel
theorem dJxe99ae_isNaN_b9ae7_10 : decode cJxe99ae_isNaN_b9ae7 10 = .ok (.iconst 0, 1) := by decide +kernel
theorem dJxe99ae_isNaN_b9ae7_11 : decode cJxe99ae_isNaN_b9ae7 11 = .ok (.ireturn, 1) := by decide +kernel
set_option maxRecDepth 20000 in
theorem ggJxe99ae_doubleToLongBits_ccdee_Jxe99ae_isNaN_b9ae7 : GoodIn wsJxe99ae_doubleToLongBits_ccdee wsJxe99ae_isNaN_b9ae7 := goodIn_r _ [9] (by decide +kernel) (by decide +kernel)
set_option maxRecDepth 20000 in
theorem gJxe99ae_doubleToLongBits_ccdee_Jxe99ae_isNaN_b9ae7 : GoodIn wsJxe99ae_doubleToLongBits_ccdee (va_wsS RJxe99ae 122 yJxe99ae_isNaN_b9ae7 wsJxe99ae_isNaN_b9ae7) := goodIn_app (goodIn_of _ (by decide +kernel)) ggJxe99ae_doubleToLongBits_ccdee_Jxe99ae_isNaN_b9ae7
theorem dJxe99ae_doubleToLongBits_ccdee_0 : decode cJxe99ae_doubleToLongBits_ccdee 0 = .ok (.dload_n 0, 1) := by decide +kernel
theorem dJxe99ae_doubleToLongBits_ccdee_1 : decode cJxe99ae_doubleToLongBits_ccdee 1 = .ok (.invokestatic 122, 3) := by decide +kernel
theorem dJxe99ae_doubleToLongBits_ccdee_4 : decode cJxe99ae_doubleToLongBits_ccdee 4 = .ok (.ifCond .ne 8, 3) := by decide +kernel
theorem dJxe99ae_doubleToLongBits_ccdee_7 : decode cJxe99ae_doubleToLongBits_ccdee 7 = .ok (.dload_n 0, 1) := by decide +kernel
theorem dJxe99ae_doubleToLongBits_ccdee_8 : decode cJxe99ae_doubleToLongBits_ccdee 8 = .ok (.invokestatic 134, 3) := by decide +kernel
theorem dJxe99ae_doubleToLongBits_ccdee_11 : decode cJxe99ae_doubleToLongBits_ccdee 11 = .ok (.lreturn, 1) := by decide +kernel
theorem dJxe99ae_doubleToLongBits_ccdee_12 : decode cJxe99ae_doubleToLongBits_ccdee 12 = .ok (.ldc2_w 137, 3) := by decide +kernel
theorem dJxe99ae_doubleToLongBits_ccdee_15 : decode cJxe99ae_doubleToLongBits_ccdee 15 = .ok (.lreturn, 1) := by decide +kernel
theorem dJxf58ca_isNaN_12338_0 : decode cJxf58ca_isNaN_12338 0 = .ok (.fload_n 0, 1) := by decide +kernel
theorem dJxf58ca_isNaN_12338_1 : decode cJxf58ca_isNaN_12338 1 = .ok (.fload_n 0, 1) := by decide +kernel
theorem dJxf58ca_isNaN_12338_2 : decode cJxf58ca_isNaN_12338 2 = .ok (.fcmp .l, 1) := by decide +kernel
theorem dJxf58ca_isNaN_12338_3 : decode cJxf58ca_isNaN_12338 3 = .ok (.ifCond .eq 7, 3) := by decide +kernel
theorem dJxf58ca_isNaN_12338_6 : decode cJxf58ca_isNaN_12338 6 = .ok (.iconst 1, 1) := by decide +kernel
theorem dJxf58ca_isNaN_12338_7 : decode cJxf58ca_isNaN_12338 7 = .ok (.goto 4, 3) := by decide +kernel
theorem dJxf58ca_isNaN_12338_10 : decode cJxf58ca_isNaN_12338 10 = .ok (.iconst 0, 1) := by decide +kernel
theorem dJxf58ca_isNaN_12338_11 : decode cJxf58ca_isNaN_12338 11 = .ok (.ireturn, 1) := by decide +kernel
set_option maxRecDepth 20000 in
theorem ggJxf58ca_floatToIntBits_5c35a_Jxf58ca_isNaN_12338 : GoodIn wsJxf58ca_floatToIntBits_5c35a wsJxf58ca_isNaN_12338 := goodIn_r _ [9] (by decide +kernel) (by decide +kernel)
set_option maxRecDepth 20000 in
theorem gJxf58ca_floatToIntBits_5c35a_Jxf58ca_isNaN_12338 : GoodIn wsJxf58ca_floatToIntBits_5c35a (va_wsS RJxf58ca 59 yJxf58ca_isNaN_12338 wsJxf58ca_isNaN_12338) := goodIn_app (goodIn_of _ (by decide +kernel)) ggJxf58ca_floatToIntBits_5c35a_Jxf58ca_isNaN_12338
theorem dJxf58ca_floatToIntBits_5c35a_0 : decode cJxf58ca_floatToIntBits_5c35a 0 = .ok (.fload_n 0, 1) := by decide +kernel
theorem dJxf58ca_floatToIntBits_5c35a_1 : decode cJxf58ca_floatToIntBits_5c35a 1 = .ok (.invokestatic 59, 3) := by decide +kernel
theorem dJxf58ca_floatToIntBits_5c35a_4 : decode cJxf58ca_floatToIntBits_5c35a 4 = .ok (.ifCond .ne 8, 3) := by decide +kernel
theorem dJxf58ca_floatToIntBits_5c35a_7 : decode cJxf58ca_floatToIntBits_5c35a 7 = .ok (.fload_n 0, 1) := by decide +kernel
theorem dJxf58ca_floatToIntBits_5c35a_8 : decode cJxf58ca_floatToIntBits_5c35a 8 = .ok (.invokestatic 74, 3) := by decide +kernel
theorem dJxf58ca_floatToIntBits_5c35a_11 : decode cJxf58ca_floatToIntBits_5c35a 11 = .ok (.ireturn, 1) := by decide +kernel
theorem dJxf58ca_floatToIntBits_5c35a_12 : decode cJxf58ca_floatToIntBits_5c35a 12 = .ok (.ldc 77, 2) := by decide +kernel
theorem dJxf58ca_floatToIntBits_5c35a_14 : decode cJxf58ca_floatToIntBits_5c35a 14 = .ok (.ireturn, 1) := by decide +kernel
theorem dJ6_bitCount_0f7a4_0 : decode cJ6_bitCount_0f7a4 0 = .ok (.iload_n 0, 1) := by decide +kernel
theorem dJ6_bitCount_0f7a4_1 : decode cJ6_bitCount_0f7a4 1 = .ok (.iload_n 0, 1) := by decide +kernel
theorem dJ6_bitCount_0f7a4_2 : decode cJ6_bitCount_0f7a4 2 = .ok (.iconst 1, 1) := by decide +kernel
theorem dJ6_bitCount_0f7a4_3 : decode cJ6_bitCount_0f7a4 3 = .ok (.iushr, 1) := by decide +kernel
theorem dJ6_bitCount_0f7a4_4 : decode cJ6_bitCount_0f7a4 4 = .ok (.ldc_w 265, 3) := by decide +kernel
theorem dJ6_bitCount_0f7a4_7 : decode cJ6_bitCount_0f7a4 7 = .ok (.iand, 1) := by decide +kernel
theorem dJ6_bitCount_0f7a4_8 : decode cJ6_bitCount_0f7a4 8 = .ok (.isub, 1) := by decide +kernel
theorem dJ6_bitCount_0f7a4_9 : decode cJ6_bitCount_0f7a4 9 = .ok (.istore_n 0, 1) := by decide +kernel
theorem dJ6_bitCount_0f7a4_10 : decode cJ6_bitCount_0f7a4 10 = .ok (.iload_n 0, 1) := by decide +kernel
theorem dJ6_bitCount_0f7a4_11 : decode cJ6_bitCount_0f7a4 11 = .ok (.ldc_w 266, 3) := by decide +kernel
theorem dJ6_bitCount_0f7a4_14 : decode cJ6_bitCount_0f7a4 14 = .ok (.iand, 1) := by decide +kernel
theorem dJ6_bitCount_0f7a4_15 : decode cJ6_bitCount_0f7a4 15 = .ok (.iload_n 0, 1) := by decide +kernel
theorem dJ6_bitCount_0f7a4_16 : decode cJ6_bitCount_0f7a4 16 = .ok (.iconst 2, 1) := by decide +kernel
theorem dJ6_bitCount_0f7a4_17 : decode cJ6_bitCount_0f7a4 17 = .ok (.iushr, 1) := by decide +kernel
theorem dJ6_bitCount_0f7a4_18 : decode cJ6_bitCount_0f7a4 18 = .ok (.ldc_w 266, 3) := by decide +kernel
theorem dJ6_bitCount_0f7a4_21 : decode cJ6_bitCount_0f7a4 21 = .ok (.iand, 1) := by decide +kernel
theorem dJ6_bitCount_0f7a4_22 : decode cJ6_bitCount_0f7a4 22 = .ok (.iadd, 1) := by decide +kernel
theorem dJ6_bitCount_0f7a4_23 : decode cJ6_bitCount_0f7a4 23 = .ok (.istore_n 0, 1) := by decide +kernel
theorem dJ6_bitCount_0f7a4_24 : decode cJ6_bitCount_0f7a4 24 = .ok (.iload_n 0, 1) := by decide +kernel
theorem dJ6_bitCount_0f7a4_25 : decode cJ6_bitCount_0f7a4 25 = .ok (.iload_n 0, 1) := by decide +kernel
theorem dJ6_bitCount_0f7a4_26 : decode cJ6_bitCount_0f7a4 26 = .ok (.iconst 4, 1) := by decide +kernel
theorem dJ6_bitCount_0f7a4_27 : decode cJ6_bitCount_0f7a4 27 = .ok (.iushr, 1) := by decide +kernel
theorem dJ6_bitCount_0f7a4_28 : decode cJ6_bitCount_0f7a4 28 = .ok (.iadd, 1) := by decide +kernel
theorem dJ6_bitCount_0f7a4_29 : decode cJ6_bitCount_0f7a4 29 = .ok (.ldc_w 267, 3) := by decide +kernel
theorem dJ6_bitCount_0f7a4_32 : decode cJ6_bitCount_0f7a4 32 = .ok (.iand, 1) := by decide +kernel
theorem dJ6_bitCount_0f7a4_33 : decode cJ6_bitCount_0f7a4 33 = .ok (.istore_n 0, 1) := by decide +kernel
theorem dJ6_bitCount_0f7a4_34 : decode cJ6_bitCount_0f7a4 34 = .ok (.iload_n 0, 1) := by decide +kernel
theorem dJ6_bitCount_0f7a4_35 : decode cJ6_bitCount_0f7a4 35 = .ok (.iload_n 0, 1) := by decide +kernel
theorem dJ6_bitCount_0f7a4_36 : decode cJ6_bitCount_0f7a4 36 = .ok (.bipush 8, 2) := by decide +kernel
theorem dJ6_bitCount_0f7a4_38 : decode cJ6_bitCount_0f7a4 38 = .ok (.iushr, 1) := by decide +kernel
theorem dJ6_bitCount_0f7a4_39 : decode cJ6_bitCount_0f7a4 39 = .ok (.iadd, 1) := by decide +kernel
theorem dJ6_bitCount_0f7a4_40 : decode cJ6_bitCount_0f7a4 40 = .ok (.istore_n 0, 1) := by decide +kernel
theorem dJ6_bitCount_0f7a4_41 : decode cJ6_bitCount_0f7a4 41 = .ok (.iload_n 0, 1) := by decide +kernel
theorem dJ6_bitCount_0f7a4_42 : decode cJ6_bitCount_0f7a4 42 = .ok (.iload_n 0, 1) := by decide +kernel
theorem dJ6_bitCount_0f7a4_43 : decode cJ6_bitCount_0f7a4 43 = .ok (.bipush 16, 2) := by decide +kernel
theorem dJ6_bitCount_0f7a4_45 : decode cJ6_bitCount_0f7a4 45 = .ok (.iushr, 1) := by decide +kernel
theorem dJ6_bitCount_0f7a4_46 : decode cJ6_bitCount_0f7a4 46 = .ok (.iadd, 1) := by decide +kernel
theorem dJ6_bitCount_0f7a4_47 : decode cJ6_bitCount_0f7a4 47 = .ok (.istore_n 0, 1) := by decide +kernel
theorem dJ6_bitCount_0f7a4_48 : decode cJ6_bitCount_0f7a4 48 = .ok (.iload_n 0, 1) := by decide +kernel
theorem dJ6_bitCount_0f7a4_49 : decode cJ6_bitCount_0f7a4 49 = .ok (.bipush 63, 2) := by decide +kernel
theorem dJ6_bitCount_0f7a4_51 : decode cJ6_bitCount_0f7a4 51 = .ok (.iand, 1) := by decide +kernel
theorem dJ6_bitCount_0f7a4_52 : decode cJ6_bitCount_0f7a4 52 = .ok (.ireturn, 1) := by decide +kernel
theorem dJ9_min_7cf53_0 : decode cJ9_min_7cf53 0 = .ok (.iload_n 0, 1) := by decide +kernel
theorem dJ9_min_7cf53_1 : decode cJ9_min_7cf53 1 = .ok (.iload_n 1, 1) := by decide +kernel
theorem dJ9_min_7cf53_2 : decode cJ9_min_7cf53 2 = .ok (.if_icmp .gt 7, 3) := by decide +kernel
theorem dJ9_min_7cf53_5 : decode cJ9_min_7cf53 5 = .ok (.iload_n 0, 1) := by decide +kernel
theorem dJ9_min_7cf53_6 : decode cJ9_min_7cf53 6 = .ok (.goto 4, 3) := by decide +kernel
theorem dJ9_min_7cf53_9 : decode cJ9_min_7cf53 9 = .ok (.iload_n 1, 1) := by decide +kernel
theorem dJ9_min_7cf53_10 : decode cJ9_min_7cf53 10 = .ok (.ireturn, 1) := by decide +kernel
abbrev vwCl : List vw_C := [(RX0, TX0, 6), (RX2, TX2, 4), (RX3, TX3, 2), (RX4, TX4, 2), (RX5, TX5, 6), (RX6, TX6, 6), (RX7, TX7, 5), (RX8, TX8, 9), (RX9, TX9, 23)]
end
section
/-! numbers and rows of our own -/
def b2i (b : Bool) : Int32 := if b then 1 else 0
/-- what is in x and not in a -/
def sd (x a : Nat) : Nat := x ^^^ (x &&& a)
theorem b2i_t : b2i true = 1 := rfl
theorem b2i_f : b2i false = 0 := rfl
theorem b2i_nar (b : Bool) : narrow .boolean (.int (b2i b)) = .int (b2i b) := by cases b <;> rfl
theorem zz_ofNat_bv (n : Nat) : (nI n).toBitVec = BitVec.ofNat 32 n := rfl
theorem zz_and (a b : Nat) : nI a &&& nI b = nI (a &&& b) := by
  apply Int32.toBitVec_inj.mp
  rw [Int32.toBitVec_and, zz_ofNat_bv, zz_ofNat_bv, zz_ofNat_bv]
  apply BitVec.eq_of_toNat_eq
  simp [Nat.and_mod_two_pow]
theorem zz_or (a b : Nat) : nI a ||| nI b = nI (a ||| b) := by
  apply Int32.toBitVec_inj.mp
  rw [Int32.toBitVec_or, zz_ofNat_bv, zz_ofNat_bv, zz_ofNat_bv]
  apply BitVec.eq_of_toNat_eq
  simp [Nat.or_mod_two_pow]
theorem zz_xor (a b : Nat) : nI a ^^^ nI b = nI (a ^^^ b) := by
  apply Int32.toBitVec_inj.mp
  rw [Int32.toBitVec_xor, zz_ofNat_bv, zz_ofNat_bv, zz_ofNat_bv]
  apply BitVec.eq_of_toNat_eq
  simp [Nat.xor_mod_two_pow]
theorem zz_notand (x y : Int32) : x &&& (y ^^^ (-1)) = x ^^^ (x &&& y) := by
  apply Int32.toBitVec_inj.mp
  rw [Int32.toBitVec_and, Int32.toBitVec_xor, Int32.toBitVec_xor, Int32.toBitVec_and]
  have h : (-1 : Int32).toBitVec = BitVec.allOnes 32 := by decide
  rw [h]
  apply BitVec.eq_of_getLsbD_eq
  intro i hi
  rw [BitVec.getLsbD_and, BitVec.getLsbD_xor, BitVec.getLsbD_xor, BitVec.getLsbD_and, BitVec.getLsbD_allOnes, decide_eq_true hi]
  cases x.toBitVec.getLsbD i <;> cases y.toBitVec.getLsbD i <;> rfl
theorem zz_sd (x a : Nat) : nI x &&& (nI a ^^^ (-1)) = nI (sd x a) := by
  rw [zz_notand, zz_and, zz_xor]; rfl
theorem zz_shl {a b : Nat} (hb : b < 32) : nI a <<< (nI b &&& 31) = nI (a * 2 ^ b) := by
  have h31 : nI b &&& 31 = nI b := by
    have := zz_and b 31
    rw [show (31 : Int32) = nI 31 from rfl, this]
    congr 1
    rw [show 31 = 2 ^ 5 - 1 from rfl, Nat.and_two_pow_sub_one_eq_mod]
    exact Nat.mod_eq_of_lt hb
  rw [h31]
  apply Int32.toBitVec_inj.mp
  apply BitVec.eq_of_toNat_eq
  have hs : ((nI b).toBitVec.smod 32).toNat = b := by
    have : ∀ b : Nat, b < 32 → ((nI b).toBitVec.smod 32).toNat = b := by decide +kernel
    exact this b hb
  rw [pk_shl (nI a) (nI b) b hs, zz_ofNat_bv, zz_ofNat_bv]
  simp [Nat.mod_mul_mod]
theorem zz_shr {a b : Nat} (ha : a < 2 ^ 31) (hb : b < 32) : nI a >>> (nI b &&& 31) = nI (a / 2 ^ b) := by
  have h31 : nI b &&& 31 = nI b := by
    have := zz_and b 31
    rw [show (31 : Int32) = nI 31 from rfl, this]
    congr 1
    rw [show 31 = 2 ^ 5 - 1 from rfl, Nat.and_two_pow_sub_one_eq_mod]
    exact Nat.mod_eq_of_lt hb
  rw [h31]
  have hs : ((nI b).toBitVec.smod 32).toNat = b := by
    have : ∀ b : Nat, b < 32 → ((nI b).toBitVec.smod 32).toNat = b := by decide +kernel
    exact this b hb
  exact pk_shrN ha (nI b) b hs
section ZW
variable {p : Program} {l : Launch} {e : Env} {R : Room} {s : State} {m : MethodId} {args : Array Value} {below : List Frame} {meth : Method} {c : Code} {H : Heap} {locs : List Loc} {cells slots : Nat} {Q : State → Prop}
variable {cc : ByteArray} {pc : Nat} {ls : Array Slot} {rest : List Value}
theorem zw_set {x y : Int32} (h : x = y) (k : W p l e R s m args below meth c H locs cells slots Q (F0 m pc ls (.int y :: rest))) : W p l e R s m args below meth c H locs cells slots Q (F0 m pc ls (.int x :: rest)) := h ▸ k
theorem zw_iadd (hx : p.tables.exec = Jvm.exec) (hb : c.code = cc) {a b : Nat} (hd : decode cc pc = .ok (.iadd, 1)) (k : W p l e R s m args below meth c H locs cells slots Q (F0 m (pc + 1) ls (.int (nI (a + b)) :: rest))) : W p l e R s m args below meth c H locs cells slots Q (F0 m pc ls (.int (nI b) :: .int (nI a) :: rest)) := lv_iadd hx hb hd (zw_set (nI_add a b) k)
theorem zw_isub (hx : p.tables.exec = Jvm.exec) (hb : c.code = cc) {a b : Nat} (h : b ≤ a) (hd : decode cc pc = .ok (.isub, 1)) (k : W p l e R s m args below meth c H locs cells slots Q (F0 m (pc + 1) ls (.int (nI (a - b)) :: rest))) : W p l e R s m args below meth c H locs cells slots Q (F0 m pc ls (.int (nI b) :: .int (nI a) :: rest)) := lv_isub hx hb hd (zw_set (pk_sub h) k)
theorem zw_imul (hx : p.tables.exec = Jvm.exec) (hb : c.code = cc) {a b : Nat} (hd : decode cc pc = .ok (.imul, 1)) (k : W p l e R s m args below meth c H locs cells slots Q (F0 m (pc + 1) ls (.int (nI (a * b)) :: rest))) : W p l e R s m args below meth c H locs cells slots Q (F0 m pc ls (.int (nI b) :: .int (nI a) :: rest)) := lv_imul hx hb hd (zw_set (pk_mul a b) k)
theorem zw_iand (hx : p.tables.exec = Jvm.exec) (hb : c.code = cc) {a b : Nat} (hd : decode cc pc = .ok (.iand, 1)) (k : W p l e R s m args below meth c H locs cells slots Q (F0 m (pc + 1) ls (.int (nI (a &&& b)) :: rest))) : W p l e R s m args below meth c H locs cells slots Q (F0 m pc ls (.int (nI b) :: .int (nI a) :: rest)) := lv_iand hx hb hd (zw_set (zz_and a b) k)
theorem zw_ior (hx : p.tables.exec = Jvm.exec) (hb : c.code = cc) {a b : Nat} (hd : decode cc pc = .ok (.ior, 1)) (k : W p l e R s m args below meth c H locs cells slots Q (F0 m (pc + 1) ls (.int (nI (a ||| b)) :: rest))) : W p l e R s m args below meth c H locs cells slots Q (F0 m pc ls (.int (nI b) :: .int (nI a) :: rest)) := lv_ior hx hb hd (zw_set (zz_or a b) k)
theorem zw_sd (hx : p.tables.exec = Jvm.exec) (hb : c.code = cc) {a b : Nat} (hd : decode cc pc = .ok (.iand, 1)) (k : W p l e R s m args below meth c H locs cells slots Q (F0 m (pc + 1) ls (.int (nI (sd a b)) :: rest))) : W p l e R s m args below meth c H locs cells slots Q (F0 m pc ls (.int (nI b ^^^ (-1)) :: .int (nI a) :: rest)) := lv_iand hx hb hd (zw_set (zz_sd a b) k)
theorem zw_ishl (hx : p.tables.exec = Jvm.exec) (hb : c.code = cc) {a b : Nat} (h : b < 32) (hd : decode cc pc = .ok (.ishl, 1)) (k : W p l e R s m args below meth c H locs cells slots Q (F0 m (pc + 1) ls (.int (nI (a * 2 ^ b)) :: rest))) : W p l e R s m args below meth c H locs cells slots Q (F0 m pc ls (.int (nI b) :: .int (nI a) :: rest)) := lv_ishl hx hb hd (zw_set (zz_shl h) k)
theorem zw_ishr (hx : p.tables.exec = Jvm.exec) (hb : c.code = cc) {a b : Nat} (ha : a < 2 ^ 31) (h : b < 32) (hd : decode cc pc = .ok (.ishr, 1)) (k : W p l e R s m args below meth c H locs cells slots Q (F0 m (pc + 1) ls (.int (nI (a / 2 ^ b)) :: rest))) : W p l e R s m args below meth c H locs cells slots Q (F0 m pc ls (.int (nI b) :: .int (nI a) :: rest)) := lv_ishr hx hb hd (zw_set (zz_shr ha h) k)
theorem zw_icmp_eq (hx : p.tables.exec = Jvm.exec) (hb : c.code = cc) {a b : Nat} {off : Int} {tgt : Nat} (ha : a < 2 ^ 31) (hb2 : b < 2 ^ 31) (hd : decode cc pc = .ok (.if_icmp .eq off, 3)) (ht : (pc : Int) + off = (tgt : Int)) (kt : a = b → W p l e R s m args below meth c H locs cells slots Q (F0 m tgt ls rest)) (kf : a ≠ b → W p l e R s m args below meth c H locs cells slots Q (F0 m (pc + 3) ls rest)) : W p l e R s m args below meth c H locs cells slots Q (F0 m pc ls (.int (nI b) :: .int (nI a) :: rest)) := lv_icmp_eq hx hb hd ht (fun h => kt ((nI_eq ha hb2).mp h)) (fun h => kf (fun q => h ((nI_eq ha hb2).mpr q)))
theorem zw_icmp_ne (hx : p.tables.exec = Jvm.exec) (hb : c.code = cc) {a b : Nat} {off : Int} {tgt : Nat} (ha : a < 2 ^ 31) (hb2 : b < 2 ^ 31) (hd : decode cc pc = .ok (.if_icmp .ne off, 3)) (ht : (pc : Int) + off = (tgt : Int)) (kt : a ≠ b → W p l e R s m args below meth c H locs cells slots Q (F0 m tgt ls rest)) (kf : a = b → W p l e R s m args below meth c H locs cells slots Q (F0 m (pc + 3) ls rest)) : W p l e R s m args below meth c H locs cells slots Q (F0 m pc ls (.int (nI b) :: .int (nI a) :: rest)) := lv_icmp_ne hx hb hd ht (fun h => kt (fun q => h ((nI_eq ha hb2).mpr q))) (fun h => kf ((nI_eq ha hb2).mp h))
theorem zw_icmp_lt (hx : p.tables.exec = Jvm.exec) (hb : c.code = cc) {a b : Nat} {off : Int} {tgt : Nat} (ha : a < 2 ^ 31) (hb2 : b < 2 ^ 31) (hd : decode cc pc = .ok (.if_icmp .lt off, 3)) (ht : (pc : Int) + off = (tgt : Int)) (kt : a < b → W p l e R s m args below meth c H locs cells slots Q (F0 m tgt ls rest)) (kf : b ≤ a → W p l e R s m args below meth c H locs cells slots Q (F0 m (pc + 3) ls rest)) : W p l e R s m args below meth c H locs cells slots Q (F0 m pc ls (.int (nI b) :: .int (nI a) :: rest)) := lv_icmp_lt hx hb hd ht (fun h => kt ((nI_ltI ha hb2).mp h)) (fun h => kf (Nat.le_of_not_lt (fun q => h ((nI_ltI ha hb2).mpr q))))
theorem zw_icmp_ge (hx : p.tables.exec = Jvm.exec) (hb : c.code = cc) {a b : Nat} {off : Int} {tgt : Nat} (ha : a < 2 ^ 31) (hb2 : b < 2 ^ 31) (hd : decode cc pc = .ok (.if_icmp .ge off, 3)) (ht : (pc : Int) + off = (tgt : Int)) (kt : b ≤ a → W p l e R s m args below meth c H locs cells slots Q (F0 m tgt ls rest)) (kf : a < b → W p l e R s m args below meth c H locs cells slots Q (F0 m (pc + 3) ls rest)) : W p l e R s m args below meth c H locs cells slots Q (F0 m pc ls (.int (nI b) :: .int (nI a) :: rest)) := lv_icmp_ge hx hb hd ht (fun h => kt ((nI_leI hb2 ha).mp h)) (fun h => kf (Nat.lt_of_not_le (fun q => h ((nI_leI hb2 ha).mpr q))))
theorem zw_icmp_gt (hx : p.tables.exec = Jvm.exec) (hb : c.code = cc) {a b : Nat} {off : Int} {tgt : Nat} (ha : a < 2 ^ 31) (hb2 : b < 2 ^ 31) (hd : decode cc pc = .ok (.if_icmp .gt off, 3)) (ht : (pc : Int) + off = (tgt : Int)) (kt : b < a → W p l e R s m args below meth c H locs cells slots Q (F0 m tgt ls rest)) (kf : a ≤ b → W p l e R s m args below meth c H locs cells slots Q (F0 m (pc + 3) ls rest)) : W p l e R s m args below meth c H locs cells slots Q (F0 m pc ls (.int (nI b) :: .int (nI a) :: rest)) := lv_icmp_gt hx hb hd ht (fun h => kt ((nI_ltI hb2 ha).mp h)) (fun h => kf (Nat.le_of_not_lt (fun q => h ((nI_ltI hb2 ha).mpr q))))
theorem zw_icmp_le (hx : p.tables.exec = Jvm.exec) (hb : c.code = cc) {a b : Nat} {off : Int} {tgt : Nat} (ha : a < 2 ^ 31) (hb2 : b < 2 ^ 31) (hd : decode cc pc = .ok (.if_icmp .le off, 3)) (ht : (pc : Int) + off = (tgt : Int)) (kt : a ≤ b → W p l e R s m args below meth c H locs cells slots Q (F0 m tgt ls rest)) (kf : b < a → W p l e R s m args below meth c H locs cells slots Q (F0 m (pc + 3) ls rest)) : W p l e R s m args below meth c H locs cells slots Q (F0 m pc ls (.int (nI b) :: .int (nI a) :: rest)) := lv_icmp_le hx hb hd ht (fun h => kt ((nI_leI ha hb2).mp h)) (fun h => kf (Nat.lt_of_not_le (fun q => h ((nI_leI ha hb2).mpr q))))
theorem zz_eq0 {a : Nat} (ha : a < 2 ^ 31) : nI a = 0 ↔ a = 0 := by rw [← nI_0]; exact nI_eq ha (by omega)
theorem zw_if_eq (hx : p.tables.exec = Jvm.exec) (hb : c.code = cc) {a : Nat} {off : Int} {tgt : Nat} (ha : a < 2 ^ 31) (hd : decode cc pc = .ok (.ifCond .eq off, 3)) (ht : (pc : Int) + off = (tgt : Int)) (kt : a = 0 → W p l e R s m args below meth c H locs cells slots Q (F0 m tgt ls rest)) (kf : a ≠ 0 → W p l e R s m args below meth c H locs cells slots Q (F0 m (pc + 3) ls rest)) : W p l e R s m args below meth c H locs cells slots Q (F0 m pc ls (.int (nI a) :: rest)) := lv_if_eq hx hb hd ht (fun h => kt ((zz_eq0 ha).mp h)) (fun h => kf (fun q => h ((zz_eq0 ha).mpr q)))
theorem zw_if_ne (hx : p.tables.exec = Jvm.exec) (hb : c.code = cc) {a : Nat} {off : Int} {tgt : Nat} (ha : a < 2 ^ 31) (hd : decode cc pc = .ok (.ifCond .ne off, 3)) (ht : (pc : Int) + off = (tgt : Int)) (kt : a ≠ 0 → W p l e R s m args below meth c H locs cells slots Q (F0 m tgt ls rest)) (kf : a = 0 → W p l e R s m args below meth c H locs cells slots Q (F0 m (pc + 3) ls rest)) : W p l e R s m args below meth c H locs cells slots Q (F0 m pc ls (.int (nI a) :: rest)) := lv_if_ne hx hb hd ht (fun h => kt (fun q => h ((zz_eq0 ha).mpr q))) (fun h => kf ((zz_eq0 ha).mp h))
theorem zw_if_lt (hx : p.tables.exec = Jvm.exec) (hb : c.code = cc) {a : Nat} {off : Int} {tgt : Nat} (ha : a < 2 ^ 31) (hd : decode cc pc = .ok (.ifCond .lt off, 3)) (ht : (pc : Int) + off = (tgt : Int)) (kf : W p l e R s m args below meth c H locs cells slots Q (F0 m (pc + 3) ls rest)) : W p l e R s m args below meth c H locs cells slots Q (F0 m pc ls (.int (nI a) :: rest)) := lv_if_lt hx hb hd ht (fun h => absurd h (nI_pos ha)) (fun _ => kf)
theorem zw_if_ge (hx : p.tables.exec = Jvm.exec) (hb : c.code = cc) {a : Nat} {off : Int} {tgt : Nat} (ha : a < 2 ^ 31) (hd : decode cc pc = .ok (.ifCond .ge off, 3)) (ht : (pc : Int) + off = (tgt : Int)) (kt : W p l e R s m args below meth c H locs cells slots Q (F0 m tgt ls rest)) : W p l e R s m args below meth c H locs cells slots Q (F0 m pc ls (.int (nI a) :: rest)) := lv_if_ge hx hb hd ht (fun _ => kt) (fun h => absurd (nI_pos' ha) h)
theorem zw_if_gt (hx : p.tables.exec = Jvm.exec) (hb : c.code = cc) {a : Nat} {off : Int} {tgt : Nat} (ha : a < 2 ^ 31) (hd : decode cc pc = .ok (.ifCond .gt off, 3)) (ht : (pc : Int) + off = (tgt : Int)) (kt : 0 < a → W p l e R s m args below meth c H locs cells slots Q (F0 m tgt ls rest)) (kf : a = 0 → W p l e R s m args below meth c H locs cells slots Q (F0 m (pc + 3) ls rest)) : W p l e R s m args below meth c H locs cells slots Q (F0 m pc ls (.int (nI a) :: rest)) := by
  refine lv_if_gt hx hb hd ht (fun h => kt ?_) (fun h => kf ?_)
  · rw [← nI_0] at h; exact (nI_ltI (by omega) ha).mp h
  · rw [← nI_0] at h; exact Nat.eq_zero_of_not_pos (fun q => h ((nI_ltI (by omega) ha).mpr q))
theorem zw_if_le (hx : p.tables.exec = Jvm.exec) (hb : c.code = cc) {a : Nat} {off : Int} {tgt : Nat} (ha : a < 2 ^ 31) (hd : decode cc pc = .ok (.ifCond .le off, 3)) (ht : (pc : Int) + off = (tgt : Int)) (kt : a = 0 → W p l e R s m args below meth c H locs cells slots Q (F0 m tgt ls rest)) (kf : 0 < a → W p l e R s m args below meth c H locs cells slots Q (F0 m (pc + 3) ls rest)) : W p l e R s m args below meth c H locs cells slots Q (F0 m pc ls (.int (nI a) :: rest)) := by
  refine lv_if_le hx hb hd ht (fun h => kt ?_) (fun h => kf ?_)
  · rw [← nI_0] at h; exact Nat.le_zero.mp ((nI_leI ha (by omega)).mp h)
  · rw [← nI_0] at h; exact Nat.pos_of_ne_zero (fun q => h ((nI_leI ha (by omega)).mpr (by omega)))
theorem zw_ifb_eq (hx : p.tables.exec = Jvm.exec) (hb : c.code = cc) {b : Bool} {off : Int} {tgt : Nat} (hd : decode cc pc = .ok (.ifCond .eq off, 3)) (ht : (pc : Int) + off = (tgt : Int)) (kt : b = false → W p l e R s m args below meth c H locs cells slots Q (F0 m tgt ls rest)) (kf : b = true → W p l e R s m args below meth c H locs cells slots Q (F0 m (pc + 3) ls rest)) : W p l e R s m args below meth c H locs cells slots Q (F0 m pc ls (.int (b2i b) :: rest)) := by
  cases b with
  | false => exact lv_if_eq hx hb hd ht (fun _ => kt rfl) (fun h => absurd rfl h)
  | true => exact lv_if_eq hx hb hd ht (fun h => absurd h (by decide)) (fun _ => kf rfl)
theorem zw_ifb_ne (hx : p.tables.exec = Jvm.exec) (hb : c.code = cc) {b : Bool} {off : Int} {tgt : Nat} (hd : decode cc pc = .ok (.ifCond .ne off, 3)) (ht : (pc : Int) + off = (tgt : Int)) (kt : b = true → W p l e R s m args below meth c H locs cells slots Q (F0 m tgt ls rest)) (kf : b = false → W p l e R s m args below meth c H locs cells slots Q (F0 m (pc + 3) ls rest)) : W p l e R s m args below meth c H locs cells slots Q (F0 m pc ls (.int (b2i b) :: rest)) := by
  cases b with
  | false => exact lv_if_ne hx hb hd ht (fun h => absurd rfl h) (fun _ => kf rfl)
  | true => exact lv_if_ne hx hb hd ht (fun _ => kt rfl) (fun h => absurd h (by decide))
/-- a call that reads: its answer is T, the heap stays -/
theorem zw_call {T : Int32} {a : Array Value} {st0 : List Value} (hr : CallRun p l e R s m args below meth c H locs cells slots 0 0 (F0 m pc ls st0) rest (vp_Si (fun r => r = T) a) (fun _ => False)) (kk : W p l e R s m args below meth c H locs cells slots Q (F0 m (pc + 3) ls (.int T :: rest))) : W p l e R s m args below meth c H locs cells slots Q (F0 m pc ls st0) := vp_callSi hr (fun _ h => h ▸ kk)
theorem zw_callL {T : Int64} {a : Array Value} {st0 : List Value} (hr : CallRun p l e R s m args below meth c H locs cells slots 0 0 (F0 m pc ls st0) rest (vp_Sl (fun r => r = T) a) (fun _ => False)) (kk : W p l e R s m args below meth c H locs cells slots Q (F0 m (pc + 3) ls (.long T :: rest))) : W p l e R s m args below meth c H locs cells slots Q (F0 m pc ls st0) := vp_callSl hr (fun _ h => h ▸ kk)
/-- a loop that leaves the heap: any measure -/
theorem zw_loop {α : Type} {nL : Nat} (μ : α → Nat) (I : α → Prop) (lv : α → List (Nat × Value)) (step : ∀ (a : α) (ls : Array Slot), I a → lv_has ls nL (lv a) → (∀ (a' : α) (ls' : Array Slot), I a' → μ a' < μ a → lv_has ls' nL (lv a') → W p l e R s m args below meth c H locs cells slots Q (F0 m pc ls' [])) → W p l e R s m args below meth c H locs cells slots Q (F0 m pc ls [])) (a : α) (ls : Array Slot) (h : I a) (hl : lv_has ls nL (lv a)) : W p l e R s m args below meth c H locs cells slots Q (F0 m pc ls []) := by
  suffices K : ∀ (n : Nat) (a : α) (ls : Array Slot), μ a < n → I a → lv_has ls nL (lv a) → W p l e R s m args below meth c H locs cells slots Q (F0 m pc ls []) from K (μ a + 1) a ls (Nat.lt_succ_self _) h hl
  intro n
  induction n with
  | zero => intro a ls h; exact absurd h (Nat.not_lt_zero _)
  | succ n ih => intro a ls hn hI hl; exact step a ls hI hl (fun a' ls' hI' hm hl' => ih a' ls' (by omega) hI' hl')
/-- a loop that writes: P a is what the heap holds -/
theorem zw_loopH {α : Type} {nL : Nat} {A : Nat → Prop} {H0 : Heap} (μ : α → Nat) (I : α → Prop) (P : α → Heap → Prop) (lv : α → List (Nat × Value)) (step : ∀ (a : α) (H : Heap) (locs : List Loc) (ls : Array Slot), I a → P a H → va_S A H0 H locs → lv_has ls nL (lv a) → (∀ (a' : α) (H' : Heap) (locs' : List Loc) (ls' : Array Slot), I a' → μ a' < μ a → P a' H' → va_S A H0 H' locs' → lv_has ls' nL (lv a') → W p l e R s m args below meth c H' locs' cells slots Q (F0 m pc ls' [])) → W p l e R s m args below meth c H locs cells slots Q (F0 m pc ls [])) (a : α) (h : I a) (hP : P a H) (hS : va_S A H0 H locs) (hl : lv_has ls nL (lv a)) : W p l e R s m args below meth c H locs cells slots Q (F0 m pc ls []) := by
  suffices K : ∀ (n : Nat) (a : α) (H : Heap) (locs : List Loc) (ls : Array Slot), μ a < n → I a → P a H → va_S A H0 H locs → lv_has ls nL (lv a) → W p l e R s m args below meth c H locs cells slots Q (F0 m pc ls []) from K (μ a + 1) a H locs ls (Nat.lt_succ_self _) h hP hS hl
  intro n
  induction n with
  | zero => intro a H locs ls h; exact absurd h (Nat.not_lt_zero _)
  | succ n ih => intro a H locs ls hn hI hP hS hl; exact step a H locs ls hI hP hS hl (fun a' H' locs' ls' hI' hm hP' hS' hl' => ih a' H' locs' ls' (by omega) hI' hP' hS' hl')
end ZW
end
section
/-! the state's words, and numbers that the methods answer -/
def cOK (f : Nat → Int32) (g : Nat → Nat → Int32) (n : Nat) (nu nd bk : Nat → Nat) (bg rm : Nat) : Prop :=
  (n ≤ 8 ∧ bg < 256 ∧ (2 ≤ rm ∧ rm ≤ 12) ∧ (∀ j, nu j < 8) ∧ (∀ j, nd j < 256) ∧ (∀ j, bk j < 256)) ∧ f 5 = nI n ∧ f 3 = nI bg ∧ f 4 = nI rm ∧ (∀ j, j < 8 → g 1 j = nI (nd j)) ∧ (∀ j, j < 8 → g 2 j = nI (nu j)) ∧ (∀ j, j < 8 → g 3 j = nI (bk j))
def mOK (f : Nat → Int32) (g : Nat → Nat → Int32) (n : Nat) (nu nd bk : Nat → Nat) (bg rm : Nat) : Prop :=
  (n ≤ 8 ∧ bg < 256 ∧ (2 ≤ rm ∧ rm ≤ 12) ∧ (∀ j, nu j < 8) ∧ (∀ j, nd j < 256) ∧ (∀ j, bk j < 256)) ∧ f 1 = nI n ∧ f 2 = nI bg ∧ f 3 = nI rm ∧ (∀ j, j < 8 → g 1 j = nI (nd j)) ∧ (∀ j, j < 8 → g 2 j = nI (nu j)) ∧ (∀ j, j < 8 → g 3 j = nI (bk j))
def isIn (x : Int32) (n : Nat) : Bool := decide (0 ≤ x ∧ x < nI n)
theorem isIn_t {x : Int32} {n : Nat} (hn : n < 2 ^ 31) (h : isIn x n = true) : ∃ t, t < n ∧ x = nI t := by
  have h := of_decide_eq_true h
  rcases pk_ix x hn with h1 | h1 | h1
  · exact absurd h.1 (Int32.not_le.mpr h1)
  · exact absurd h.2 (Int32.not_lt.mpr h1)
  · exact h1
theorem isIn_nI {t n : Nat} (hn : n < 2 ^ 31) (h : t < n) : isIn (nI t) n = true := decide_eq_true ⟨nI_pos' (by omega), nI_lt h hn⟩
theorem zz_b1 {b : Bool} (h : b = true) : nI 1 = b2i b := by rw [h]; rfl
theorem zz_b0 {b : Bool} (h : b = false) : nI 0 = b2i b := by rw [h]; rfl
theorem zz_in1 {x : Int32} {n : Nat} (h1 : ¬ x < 0) (h2 : ¬ nI n ≤ x) : isIn x n = true := decide_eq_true ⟨Int32.not_lt.mp h1, Int32.not_le.mp h2⟩
theorem zz_in0 {x : Int32} {n : Nat} (h1 : x < 0) : isIn x n = false := decide_eq_false (fun h => absurd h.1 (Int32.not_le.mpr h1))
theorem zz_in2 {x : Int32} {n : Nat} (h1 : nI n ≤ x) : isIn x n = false := decide_eq_false (fun h => absurd h.2 (Int32.not_lt.mpr h1))
theorem zz_tb (a t : Nat) : (a / 2 ^ t) &&& 1 = 1 ↔ a.testBit t = true := by
  rw [Nat.testBit_eq_decide_div_mod_eq]
  simp [Nat.and_one_is_mod]
theorem zz_tbt {a t : Nat} (h : (a / 2 ^ t) &&& 1 = 1) : a.testBit t = true := (zz_tb a t).mp h
theorem zz_tbf {a t : Nat} (h : (a / 2 ^ t) &&& 1 ≠ 1) : a.testBit t = false := by
  cases e : a.testBit t with
  | false => rfl
  | true => exact absurd ((zz_tb a t).mpr e) h
theorem zz_and1 (a : Nat) : a &&& 1 < 2 ^ 31 := Nat.lt_of_le_of_lt Nat.and_le_right (by omega)
theorem zz_dec {a k : Nat} {n : Int} (h : k ≤ a) (hn : Int32.ofInt n = -nI k := by decide) : nI a + Int32.ofInt n = nI (a - k) := by
  rw [hn, ← Int32.sub_eq_add_neg]; exact pk_sub h
theorem zz_min {a b : Nat} (ha : a < 2 ^ 31) (hb : b < 2 ^ 31) : (if nI b < nI a then nI b else nI a) = nI (min a b) := by
  by_cases h : b < a
  · rw [if_pos ((nI_ltI hb ha).mpr h), Nat.min_eq_right (by omega)]
  · rw [if_neg (fun q => h ((nI_ltI hb ha).mp q)), Nat.min_eq_left (by omega)]
/-- with a tool, or without it -/
def wt (a t : Nat) (b : Bool) : Nat := if b then a ||| 2 ^ t else sd a (2 ^ t)
/-- how many of eight -/
def pc (a : Nat) : Nat := a % 2 + a / 2 % 2 + a / 4 % 2 + a / 8 % 2 + a / 16 % 2 + a / 32 % 2 + a / 64 % 2 + a / 128 % 2
/-- the SIZES of tools, together -/
def sz (bg a : Nat) : Nat := pc a + pc (a &&& bg)
theorem pc_le (a : Nat) : pc a ≤ 8 := by unfold pc; omega
theorem sz_le (bg a : Nat) : sz bg a ≤ 16 := by have := pc_le a; have := pc_le (a &&& bg); unfold sz; omega
theorem zz_lt_and {a b : Nat} (h : a < 256) : a &&& b < 256 := Nat.lt_of_le_of_lt Nat.and_le_left h
theorem zz_lt_and' {a b : Nat} (h : b < 256) : a &&& b < 256 := Nat.lt_of_le_of_lt Nat.and_le_right h
theorem zz_lt_or {a b : Nat} (h : a < 256) (h2 : b < 256) : a ||| b < 256 := Nat.or_lt_two_pow (n := 8) h h2
theorem zz_lt_sd {a b : Nat} (h : a < 256) : sd a b < 256 := Nat.xor_lt_two_pow (n := 8) h (zz_lt_and h)
theorem sd_tb (a b i : Nat) : (sd a b).testBit i = (a.testBit i && !b.testBit i) := by
  unfold sd
  rw [Nat.testBit_xor, Nat.testBit_and]
  cases a.testBit i <;> cases b.testBit i <;> rfl
/-- NEXT: the place, or 8 for never -/
def nxF (n : Nat) (N bk : Nat → Nat) (t : Nat) : Nat → Nat → Nat
  | 0, _ => 8
  | k + 1, p => if p + 1 < n then (if (bk p).testBit t then 8 else if (N (p + 1)).testBit t then p + 1 else nxF n N bk t k (p + 1)) else 8
def nx (n : Nat) (N bk : Nat → Nat) (t p : Nat) : Nat := nxF n N bk t (n - p) p
theorem nx_eq (n : Nat) (N bk : Nat → Nat) (t p : Nat) : nx n N bk t p = if p + 1 < n then (if (bk p).testBit t then 8 else if (N (p + 1)).testBit t then p + 1 else nx n N bk t (p + 1)) else 8 := by
  unfold nx
  by_cases h : p + 1 < n
  · rw [show n - p = (n - (p + 1)) + 1 by omega, nxF]
  · rw [if_neg h]
    rcases (show n - p = 0 ∨ n - p = 1 by omega) with e | e
    · rw [e, nxF]
    · rw [e, nxF, if_neg h]
theorem nx_le {n : Nat} (hn : n ≤ 8) (N bk : Nat → Nat) (t : Nat) : ∀ k p, nxF n N bk t k p ≤ 8 := by
  intro k
  induction k with
  | zero => intro p; exact Nat.le_refl 8
  | succ k ih =>
    intro p
    rw [nxF]
    split
    · split
      · exact Nat.le_refl 8
      · split
        · omega
        · exact ih _
    · exact Nat.le_refl 8
/-- a number as it is answered: NONE for 8 -/
def nn (k : Nat) : Int32 := if k < 8 then nI k else -1
/-- what the job at a place needs -/
def nN (nd nu : Nat → Nat) (j : Nat) : Nat := nd (nu j)
theorem nN_lt {nd : Nat → Nat} (h : ∀ j, nd j < 256) (nu : Nat → Nat) (j : Nat) : nN nd nu j < 256 := h _
theorem nx_le8 {n : Nat} (hn : n ≤ 8) (N bk : Nat → Nat) (t p : Nat) : nx n N bk t p ≤ 8 := nx_le hn N bk t _ _
theorem nn_eq {k : Nat} (h : k < 8) : nn k = nI k := if_pos h
theorem nn_8 {k : Nat} (h : nn k = -1) : 8 ≤ k := by
  rcases Nat.lt_or_ge k 8 with q | q
  · rw [nn_eq q] at h
    have := nI_pos' (n := k) (by omega)
    rw [h] at this
    exact absurd this (by decide)
  · exact q
theorem nn_ne {k : Nat} (h : ¬ nn k = -1) : k < 8 := by
  rcases Nat.lt_or_ge k 8 with q | q
  · exact q
  · exact absurd (if_neg (by omega)) h
/-- one less, from 0 on -/
def m1 (k : Nat) : Int32 := nI k + Int32.ofInt (-1)
theorem m1_succ (k : Nat) : m1 (k + 1) = nI k := pk_m1 k
theorem m1_pos {k : Nat} (h : 0 < k) : m1 k = nI (k - 1) := by
  obtain ⟨j, rfl⟩ : ∃ j, k = j + 1 := ⟨k - 1, by omega⟩
  exact m1_succ j
theorem m1_0 : m1 0 = -1 := rfl
theorem m1_le {a b : Nat} (ha : a < 2 ^ 31) (hb : b < 2 ^ 31) : m1 a ≤ nI b ↔ a ≤ b + 1 := by
  rcases Nat.eq_zero_or_pos a with h | h
  · subst h
    have h1 := nI_pos' hb
    exact ⟨fun _ => by omega, fun _ => Int32.le_trans (by decide) h1⟩
  · rw [m1_pos h, nI_leI (by omega) hb]
    omega
/-- in which order tools go: the greater first -/
def rk (n : Nat) (N bk : Nat → Nat) (bg p t : Nat) : Nat := 2 * nx n N bk t p + (if bg.testBit t then 1 else 0)
theorem rk_le {n : Nat} (hn : n ≤ 8) (N bk : Nat → Nat) (bg p t : Nat) : rk n N bk bg p t ≤ 17 := by
  have := nx_le8 hn N bk t p
  unfold rk
  split <;> omega
/-- of some the one that goes first: after k tools, with its rank and one -/
def fgF (r : Nat → Nat) (S : Nat) : Nat → Nat × Nat
  | 0 => (0, 0)
  | k + 1 => if S.testBit k = true ∧ (fgF r S k).2 ≤ r k + 1 then (k, r k + 1) else fgF r S k
def fg (r : Nat → Nat) (S : Nat) : Nat := (fgF r S 8).1
theorem fgF_lt (r : Nat → Nat) (S : Nat) : ∀ k, k ≤ 8 → (fgF r S k).1 < 8 := by
  intro k
  induction k with
  | zero => intro _; exact (by decide : 0 < 8)
  | succ k ih =>
    intro h
    rw [fgF]
    split
    · show k < 8
      omega
    · exact ih (by omega)
theorem fg_lt (r : Nat → Nat) (S : Nat) : fg r S < 8 := fgF_lt r S 8 (Nat.le_refl 8)
theorem fgF_le {r : Nat → Nat} (hr : ∀ t, r t ≤ 17) (S : Nat) : ∀ k, (fgF r S k).2 ≤ 18 := by
  intro k
  induction k with
  | zero => exact (by decide : 0 ≤ 18)
  | succ k ih =>
    rw [fgF]
    split
    · show r k + 1 ≤ 18
      have := hr k
      omega
    · exact ih
/-- what stays, if those go that go first, as long as there is too much -/
def evF (r : Nat → Nat) (bg rm M : Nat) : Nat → Nat → Nat
  | 0, S => S
  | k + 1, S => if sz bg (M ||| S) ≤ rm then S else evF r bg rm M k (sd S (2 ^ fg r S))
def ev (r : Nat → Nat) (bg rm M S : Nat) : Nat := evF r bg rm M 8 S
theorem evF_lt (r : Nat → Nat) (bg rm M : Nat) : ∀ k S, S < 256 → evF r bg rm M k S < 256 := by
  intro k
  induction k with
  | zero => intro S h; exact h
  | succ k ih =>
    intro S h
    rw [evF]
    split
    · exact h
    · exact ih _ (zz_lt_sd h)
/-- a keeping by what stays: what is there ahead of a place, and at it -/
def ahK (st : Nat → Nat → Nat) (N bk : Nat → Nat) : Nat → Nat
  | 0 => 0
  | p + 1 => sd (N p ||| st p (sd (ahK st N bk p) (N p))) (bk p)
def thK (st : Nat → Nat → Nat) (N bk : Nat → Nat) (p : Nat) : Nat := N p ||| st p (sd (ahK st N bk p) (N p))
theorem ahK_s (st : Nat → Nat → Nat) (N bk : Nat → Nat) (p : Nat) : ahK st N bk (p + 1) = sd (thK st N bk p) (bk p) := rfl
theorem ahK_lt {st : Nat → Nat → Nat} {N : Nat → Nat} (bk : Nat → Nat) (hN : ∀ j, N j < 256) (hs : ∀ p U, U < 256 → st p U < 256) : ∀ p, ahK st N bk p < 256 := by
  intro p
  induction p with
  | zero => exact (by decide : 0 < 256)
  | succ p ih => exact zz_lt_sd (zz_lt_or (hN p) (hs p _ (zz_lt_sd ih)))
/-- SOONEST: what stays -/
def stS (n : Nat) (N bk : Nat → Nat) (bg rm p U : Nat) : Nat := ev (rk n N bk bg p) bg rm (N p) U
theorem stS_lt (n : Nat) (N bk : Nat → Nat) (bg rm p U : Nat) (h : U < 256) : stS n N bk bg rm p U < 256 := evF_lt _ _ _ _ _ _ h
end
section
/-! subsets in their order, least values, the least cost -/
theorem zz_ext {G T : Nat → Int32} {p : Nat} {v : Int32} (h : ∀ j, j < p → G j = T j) (hv : v = T p) : ∀ j, j < p + 1 → upd G p v j = T j := by
  intro j hj
  by_cases e : j = p
  · subst e
    simp [upd, hv]
  · simp only [upd, if_neg e]
    exact h j (by omega)
def upS (T : Nat) : Nat → Nat → Nat
  | 0, k => k
  | f + 1, k => if k &&& T = k then k else upS T f (k + 1)
/-- the next greater subset -/
def nxs (T S : Nat) : Nat := upS T 256 (S + 1)
theorem upS_ge (T : Nat) : ∀ f k, k ≤ upS T f k := by
  intro f
  induction f with
  | zero => intro k; exact Nat.le_refl k
  | succ f ih =>
    intro k
    rw [upS]
    split
    · exact Nat.le_refl k
    · exact Nat.le_trans (Nat.le_succ k) (ih (k + 1))
theorem upS_gap (T : Nat) : ∀ f k K, k ≤ K → K < upS T f k → ¬ K &&& T = K := by
  intro f
  induction f with
  | zero => intro k K h1 h2; rw [upS] at h2; omega
  | succ f ih =>
    intro k K h1 h2
    rw [upS] at h2
    split at h2
    · omega
    · rename_i hk
      by_cases e : K = k
      · subst e; exact hk
      · exact ih (k + 1) K (by omega) h2
theorem nxs_gt (T S : Nat) : S < nxs T S := upS_ge T 256 (S + 1)
theorem nxs_gap {T S K : Nat} (h1 : S < K) (h2 : K < nxs T S) : ¬ K &&& T = K := upS_gap T 256 (S + 1) K h1 h2
set_option maxRecDepth 100000 in
theorem nxs_all : ∀ T, T < 256 → ∀ S, S < 256 → S &&& T = S → S ≠ T → (nI S - nI T) &&& nI T = nI (nxs T S) ∧ nxs T S < 256 ∧ nxs T S &&& T = nxs T S := by decide +kernel
/-- how many subsets are less than k -/
def cnt (T : Nat) : Nat → Nat
  | 0 => 0
  | k + 1 => if k &&& T = k then cnt T k + 1 else cnt T k
theorem cnt_gap {T a : Nat} : ∀ b, a ≤ b → (∀ K, a ≤ K → K < b → ¬ K &&& T = K) → cnt T b = cnt T a := by
  intro b
  induction b with
  | zero => intro h _; rw [Nat.le_zero.mp h]
  | succ b ih =>
    intro h hg
    by_cases e : a = b + 1
    · rw [e]
    · rw [cnt, if_neg (hg b (by omega) (by omega))]
      exact ih (by omega) (fun K h1 h2 => hg K h1 (by omega))
theorem cnt_next {T S : Nat} (hS : S &&& T = S) : cnt T (nxs T S) = cnt T S + 1 := by
  rw [cnt_gap (a := S + 1) (nxs T S) (nxs_gt T S) (fun K h1 h2 => nxs_gap h1 h2), cnt, if_pos hS]
set_option maxRecDepth 100000 in
theorem cnt_256 : ∀ T, T < 256 → cnt T 256 = 2 ^ pc T := by decide +kernel
theorem cnt_mono (T : Nat) {a : Nat} : ∀ b, a ≤ b → cnt T a ≤ cnt T b := by
  intro b
  induction b with
  | zero => intro h; rw [Nat.le_zero.mp h]; exact Nat.le_refl _
  | succ b ih =>
    intro h
    by_cases e : a = b + 1
    · rw [e]; exact Nat.le_refl _
    · have := ih (by omega)
      rw [cnt]
      split <;> omega
theorem cnt_self {T : Nat} (hT : T < 256) : cnt T T + 1 = 2 ^ pc T := by
  rw [← cnt_256 T hT]
  have h1 : cnt T (T + 1) = cnt T T + 1 := by rw [cnt, if_pos (Nat.and_self T)]
  rw [← h1]
  exact (cnt_gap (a := T + 1) 256 hT (fun K h1 h2 h3 => absurd (Nat.and_le_right (n := K) (m := T)) (by rw [h3]; omega))).symm
/-- the least of v over those below k that P takes -/
def mn (P : Nat → Bool) (v : Nat → Nat) : Nat → Nat
  | 0 => 1048576
  | k + 1 => if P k = true then min (mn P v k) (v k) else mn P v k
def fit (bg rm M K : Nat) : Bool := decide (sz bg (M ||| K) ≤ rm)
def isub (K T : Nat) : Bool := decide (K &&& T = K)
/-- the least that is to come, from a place on, with a magazine ahead of it -/
def Vf (n : Nat) (N bk : Nat → Nat) (bg rm : Nat) : Nat → Nat → Nat → Nat
  | 0, _, _ => 0
  | k + 1, p, m => mn (fun K => isub K (sd m (N p)) && fit bg rm (N p) K) (fun K => sz bg (sd (N p) m) + Vf n N bk bg rm k (p + 1) (sd (N p ||| K) (bk p))) 256
def Vv (n : Nat) (N bk : Nat → Nat) (bg rm p m : Nat) : Nat := Vf n N bk bg rm (n - p) p m
/-- LEAST -/
def lea (n : Nat) (N bk : Nat → Nat) (bg rm : Nat) : Nat := Vv n N bk bg rm 0 0
def thr (N bk : Nat → Nat) : Nat → Nat
  | 0 => 0
  | p + 1 => sd (thr N bk p ||| N p) (bk p)
def wanF (n : Nat) (N bk : Nat → Nat) : Nat → Nat → Nat
  | 0, _ => 0
  | k + 1, p => if p + 1 < n then sd (wanF n N bk k (p + 1)) (bk (p + 1)) ||| N (p + 1) else 0
def wan (n : Nat) (N bk : Nat → Nat) (p : Nat) : Nat := wanF n N bk (n - p) p
theorem wan_eq (n : Nat) (N bk : Nat → Nat) (p : Nat) : wan n N bk p = if p + 1 < n then sd (wan n N bk (p + 1)) (bk (p + 1)) ||| N (p + 1) else 0 := by
  unfold wan
  by_cases h : p + 1 < n
  · rw [show n - p = (n - (p + 1)) + 1 by omega, wanF]
  · rw [if_neg h]
    rcases (show n - p = 0 ∨ n - p = 1 by omega) with e | e
    · rw [e, wanF]
    · rw [e, wanF, if_neg h]
/-- what is worth keeping at a place -/
def wk (n : Nat) (N bk : Nat → Nat) (p : Nat) : Nat := sd (thr N bk p) (N p) &&& sd (wan n N bk p) (bk p)
theorem thr_lt {N : Nat → Nat} (bk : Nat → Nat) (hN : ∀ j, N j < 256) : ∀ p, thr N bk p < 256 := by
  intro p
  induction p with
  | zero => exact (by decide : 0 < 256)
  | succ p ih => exact zz_lt_sd (zz_lt_or ih (hN p))
theorem wk_lt {N : Nat → Nat} (n : Nat) (bk : Nat → Nat) (hN : ∀ j, N j < 256) (p : Nat) : wk n N bk p < 256 := zz_lt_and (zz_lt_sd (thr_lt bk hN p))
/-- the least that places behind p cost, if of K at p no more is kept than fits -/
def Cf (n : Nat) (N bk : Nat → Nat) (bg rm : Nat) : Nat → Nat → Nat → Nat
  | 0, _, _ => 0
  | k + 1, p, K => mn (fun J => isub J K && fit bg rm (N p) J) (fun J => if p + 1 < n then sz bg (sd (N (p + 1)) (sd (N p ||| J) (bk p))) + Cf n N bk bg rm k (p + 1) (sd (N p ||| J) (bk p) &&& wk n N bk (p + 1)) else 0) 256
def Cc (n : Nat) (N bk : Nat → Nat) (bg rm p K : Nat) : Nat := Cf n N bk bg rm (n - p) p K
def Dd (n : Nat) (N bk : Nat → Nat) (bg rm p J : Nat) : Nat := if p + 1 < n then sz bg (sd (N (p + 1)) (sd (N p ||| J) (bk p))) + Cc n N bk bg rm (p + 1) (sd (N p ||| J) (bk p) &&& wk n N bk (p + 1)) else 0
theorem Cc_eq {n : Nat} (N bk : Nat → Nat) (bg rm : Nat) {p : Nat} (hp : p < n) (K : Nat) : Cc n N bk bg rm p K = mn (fun J => isub J K && fit bg rm (N p) J) (Dd n N bk bg rm p) 256 := by
  unfold Cc Dd
  rw [show n - p = (n - (p + 1)) + 1 by omega, Cf]
  rfl
theorem Vv_eq {n : Nat} (N bk : Nat → Nat) (bg rm : Nat) {p : Nat} (hp : p < n) (m : Nat) : Vv n N bk bg rm p m = mn (fun K => isub K (sd m (N p)) && fit bg rm (N p) K) (fun K => sz bg (sd (N p) m) + Vv n N bk bg rm (p + 1) (sd (N p ||| K) (bk p))) 256 := by
  unfold Vv
  rw [show n - p = (n - (p + 1)) + 1 by omega, Vf]
theorem Vv_end (n : Nat) (N bk : Nat → Nat) (bg rm m : Nat) : Vv n N bk bg rm n m = 0 := by
  unfold Vv
  rw [Nat.sub_self, Vf]
theorem mn_le {P : Nat → Bool} {v : Nat → Nat} : ∀ (k K : Nat), K < k → P K = true → mn P v k ≤ v K := by
  intro k
  induction k with
  | zero => intro K h; exact absurd h (Nat.not_lt_zero K)
  | succ k ih =>
    intro K h hP
    rw [mn]
    by_cases e : K = k
    · subst e; rw [if_pos hP]; exact Nat.min_le_right _ _
    · have := ih K (by omega) hP
      split
      · exact Nat.le_trans (Nat.min_le_left _ _) this
      · exact this
theorem mn_far {P : Nat → Bool} {v : Nat → Nat} : ∀ k, mn P v k ≤ 1048576 := by
  intro k
  induction k with
  | zero => exact Nat.le_refl _
  | succ k ih =>
    rw [mn]
    split
    · exact Nat.le_trans (Nat.min_le_left _ _) ih
    · exact ih
theorem mn_get {P : Nat → Bool} {v : Nat → Nat} : ∀ k, mn P v k = 1048576 ∨ ∃ K, K < k ∧ P K = true ∧ mn P v k = v K := by
  intro k
  induction k with
  | zero => exact Or.inl rfl
  | succ k ih =>
    by_cases hP : P k = true
    · rw [mn, if_pos hP]
      rcases Nat.le_total (mn P v k) (v k) with h | h
      · rw [Nat.min_eq_left h]
        rcases ih with e | ⟨K, h1, h2, h3⟩
        · exact Or.inl e
        · exact Or.inr ⟨K, by omega, h2, h3⟩
      · rw [Nat.min_eq_right h]
        exact Or.inr ⟨k, by omega, hP, rfl⟩
    · rw [mn, if_neg hP]
      rcases ih with e | ⟨K, h1, h2, h3⟩
      · exact Or.inl e
      · exact Or.inr ⟨K, by omega, h2, h3⟩
theorem le_mn {P : Nat → Bool} {v : Nat → Nat} {k x : Nat} (hx : x ≤ 1048576) (h : ∀ K, K < k → P K = true → x ≤ v K) : x ≤ mn P v k := by
  rcases mn_get (P := P) (v := v) k with e | ⟨K, h1, h2, h3⟩
  · rw [e]; exact hx
  · rw [h3]; exact h K h1 h2
theorem mn_congr {P P' : Nat → Bool} {v v' : Nat → Nat} : ∀ k, (∀ K, K < k → P K = P' K) → (∀ K, K < k → P K = true → v K = v' K) → mn P v k = mn P' v' k := by
  intro k
  induction k with
  | zero => intro _ _; rfl
  | succ k ih =>
    intro h1 h2
    rw [mn, mn, ← h1 k (by omega), ih (fun K h => h1 K (by omega)) (fun K h => h2 K (by omega))]
    by_cases hP : P k = true
    · rw [if_pos hP, if_pos hP, h2 k (by omega) hP]
    · rw [if_neg hP, if_neg hP]
end
section
/-! rows of the search's table -/
def nsb (T S : Nat) : Nat := if S = T then 0 else nxs T S
theorem nsb_eq {T S : Nat} (hT : T < 256) (hS : S &&& T = S) : (nI S - nI T) &&& nI T = nI (nsb T S) := by
  unfold nsb
  by_cases e : S = T
  · rw [if_pos e, e, pk_sub (Nat.le_refl T), Nat.sub_self, zz_and, Nat.zero_and]
  · rw [if_neg e]
    have h1 : S < 256 := Nat.lt_of_le_of_lt (by rw [← hS]; exact Nat.and_le_right) hT
    exact (nxs_all T hT S h1 hS e).1
def cfF (C : Nat → Nat) (S : Nat) : Nat → Nat
  | 0 => 2147483647
  | t + 1 => if S.testBit t = true then min (cfF C S t) (C (sd S (2 ^ t))) else cfF C S t
theorem cfF_le (C : Nat → Nat) (S : Nat) : ∀ t, cfF C S t ≤ 2147483647 := by
  intro t
  induction t with
  | zero => exact Nat.le_refl _
  | succ t ih =>
    rw [cfF]
    split
    · exact Nat.le_trans (Nat.min_le_left _ _) ih
    · exact ih
theorem Cc_far {n : Nat} (N bk : Nat → Nat) (bg rm : Nat) {p : Nat} (hp : p < n) (K : Nat) : Cc n N bk bg rm p K ≤ 1048576 := by
  rw [Cc_eq N bk bg rm hp]
  exact mn_far _
theorem sd_le (a b : Nat) : sd a b ≤ a := by
  have h : sd a b = sd a b &&& a := by
    apply Nat.eq_of_testBit_eq
    intro i
    rw [Nat.testBit_and, sd_tb]
    cases a.testBit i <;> cases b.testBit i <;> rfl
  rw [h]
  exact Nat.and_le_right
theorem sd_and {a b w : Nat} (h : a &&& w = a) : sd a b &&& w = sd a b := by
  apply Nat.eq_of_testBit_eq
  intro i
  have h1 := congrArg (fun z => z.testBit i) h
  simp only [Nat.testBit_and] at h1
  rw [Nat.testBit_and, sd_tb]
  cases h2 : a.testBit i
  · rfl
  · rw [h2, Bool.true_and] at h1
    rw [h1]
    cases b.testBit i <;> rfl
theorem sd_lt {a t : Nat} (h : a.testBit t = true) : sd a (2 ^ t) < a := by
  rcases Nat.lt_or_ge (sd a (2 ^ t)) a with h1 | h1
  · exact h1
  · have h2 : sd a (2 ^ t) = a := Nat.le_antisymm (sd_le _ _) h1
    have h3 := sd_tb a (2 ^ t) t
    rw [h2, h, Nat.testBit_two_pow_self] at h3
    cases h3
/-- the table's row of a place is right below m -/
def rowOK (T : Nat → Int32) (n : Nat) (N bk : Nat → Nat) (bg rm p m : Nat) : Prop := ∀ J, J < m → J &&& wk n N bk p = J → T (p * 256 + J) = nI (Cc n N bk bg rm p J)
theorem rowOK_of {T T' : Nat → Int32} {n : Nat} {N bk : Nat → Nat} {bg rm p m : Nat} (h : rowOK T n N bk bg rm p m) (he : ∀ J, J < m → T' (p * 256 + J) = T (p * 256 + J)) : rowOK T' n N bk bg rm p m := fun J h1 h2 => (he J h1).trans (h J h1 h2)
/-- where the filling of a row stands: c sets are left, S is next -/
def fillI (T T0 : Nat → Int32) (n : Nat) (N bk : Nat → Nat) (bg rm p c S : Nat) : Prop :=
  c ≤ 256 ∧ (∀ j, ¬ (p * 256 ≤ j ∧ j < p * 256 + 256) → T j = T0 j) ∧ (0 < c → S &&& wk n N bk p = S ∧ c + cnt (wk n N bk p) S = 2 ^ pc (wk n N bk p) ∧ rowOK T n N bk bg rm p S) ∧ (c = 0 → rowOK T n N bk bg rm p 256)
theorem pc_pow {w : Nat} : 2 ^ pc w ≤ 256 := by
  have := pc_le w
  calc 2 ^ pc w ≤ 2 ^ 8 := Nat.pow_le_pow_right (by decide) this
    _ = 256 := rfl
theorem fillI_0 {T0 : Nat → Int32} {n : Nat} {N bk : Nat → Nat} {bg rm p : Nat} : fillI T0 T0 n N bk bg rm p (2 ^ pc (wk n N bk p)) 0 := by
  refine ⟨pc_pow, fun _ _ => rfl, fun _ => ⟨Nat.zero_and _, rfl, fun J h => absurd h (Nat.not_lt_zero J)⟩, fun h => ?_⟩
  have := Nat.two_pow_pos (pc (wk n N bk p))
  omega
theorem fillI_s {T T0 : Nat → Int32} {n : Nat} {N bk : Nat → Nat} {bg rm p c S : Nat} (hN : ∀ j, N j < 256) (hc : 0 < c) (h : fillI T T0 n N bk bg rm p c S) : fillI (upd T (p * 256 + S) (nI (Cc n N bk bg rm p S))) T0 n N bk bg rm p (c - 1) (nsb (wk n N bk p) S) := by
  obtain ⟨h1, h2, h3, -⟩ := h
  obtain ⟨h4, h5, h6⟩ := h3 hc
  have hw := wk_lt n bk hN p
  have hS : S < 256 := Nat.lt_of_le_of_lt (by rw [← h4]; exact Nat.and_le_right) hw
  have hput : ∀ m, (∀ J, J < m → J &&& wk n N bk p = J → J ≤ S) → rowOK (upd T (p * 256 + S) (nI (Cc n N bk bg rm p S))) n N bk bg rm p m := by
    intro m hm J hJ hJw
    by_cases e : J = S
    · subst e; simp [upd]
    · have : ¬ p * 256 + J = p * 256 + S := by omega
      simp only [upd, if_neg this]
      exact h6 J (by have := hm J hJ hJw; omega) hJw
  refine ⟨by omega, fun j hj => ?_, fun hc1 => ?_, fun hc1 => ?_⟩
  · have : ¬ j = p * 256 + S := by omega
    simp only [upd, if_neg this]
    exact h2 j hj
  · have hne : S ≠ wk n N bk p := by
      intro e
      have := cnt_self hw
      rw [← e] at this h5
      omega
    unfold nsb
    rw [if_neg hne]
    refine ⟨(nxs_all _ hw S hS h4 hne).2.2, ?_, hput _ (fun J hJ hJw => ?_)⟩
    · rw [cnt_next h4]; omega
    · rcases Nat.lt_or_ge S J with q | q
      · exact absurd hJw (nxs_gap q hJ)
      · exact q
  · refine hput _ (fun J hJ hJw => ?_)
    have h7 := cnt_self hw
    have h8 : S = wk n N bk p := by
      rcases Nat.lt_or_ge S (wk n N bk p) with q | q
      · have h9 := cnt_mono (wk n N bk p) (wk n N bk p) (show nxs (wk n N bk p) S ≤ wk n N bk p from by
          rcases Nat.lt_or_ge (wk n N bk p) (nxs (wk n N bk p) S) with z | z
          · exact absurd (Nat.and_self _) (nxs_gap q z)
          · exact z)
        rw [cnt_next h4] at h9
        omega
      · exact Nat.le_antisymm (by rw [← h4]; exact Nat.and_le_right) q
    rw [h8, ← hJw]
    exact Nat.and_le_right
theorem zz_wkstep {n k0 : Nat} {N bk : Nat → Nat} {w : Nat} {GG : Nat → Int32} (hk : 0 < k0) (hw : 0 < k0 → w = wan n N bk (k0 - 1)) (h : ∀ j, j < n → GG j = if k0 ≤ j then nI (wk n N bk j) else nI (sd (thr N bk j) (N j))) : ∀ j, j < n → upd GG (k0 - 1) (nI (sd (thr N bk (k0 - 1)) (N (k0 - 1)) &&& sd w (bk (k0 - 1)))) j = if k0 - 1 ≤ j then nI (wk n N bk j) else nI (sd (thr N bk j) (N j)) := by
  intro j hj
  by_cases e : j = k0 - 1
  · subst e
    simp only [upd, if_pos, Nat.le_refl, hw hk]
    rfl
  · simp only [upd, if_neg e]
    rw [h j hj]
    by_cases e2 : k0 ≤ j
    · rw [if_pos e2, if_pos (by omega)]
    · rw [if_neg e2, if_neg (by omega)]
theorem zz_wanstep {n k0 : Nat} {N bk : Nat → Nat} {w : Nat} (hk : 0 < k0) (hkn : k0 ≤ n) (hw : 0 < k0 → w = wan n N bk (k0 - 1)) : 0 < k0 - 1 → sd w (bk (k0 - 1)) ||| N (k0 - 1) = wan n N bk (k0 - 1 - 1) := by
  intro h
  rw [wan_eq n N bk (k0 - 1 - 1), show k0 - 1 - 1 + 1 = k0 - 1 by omega, if_pos (by omega), hw hk]
/-- the first that P takes, from k on -/
def fnd (P : Nat → Bool) : Nat → Nat → Nat
  | 0, k => k
  | f + 1, k => if P k = true then k else fnd P f (k + 1)
theorem fnd_eq {P : Nat → Bool} : ∀ (f k S : Nat), k ≤ S → S < k + f → P S = true → (∀ J, k ≤ J → J < S → ¬ P J = true) → fnd P f k = S := by
  intro f
  induction f with
  | zero => intro k S h1 h2; omega
  | succ f ih =>
    intro k S h1 h2 hP hn
    rw [fnd]
    by_cases e : k = S
    · subst e; rw [if_pos hP]
    · rw [if_neg (hn k (Nat.le_refl k) (by omega))]
      exact ih (k + 1) S (by omega) (by omega) hP (fun J h3 h4 => hn J (by omega) h4)
/-- THE PLAN: what stays -/
def stP (n : Nat) (N bk : Nat → Nat) (bg rm p U : Nat) : Nat := fnd (fun K => isub K (U &&& wk n N bk p) && decide (Cc n N bk bg rm p K = Cc n N bk bg rm p (U &&& wk n N bk p))) 256 0
/-- where the search for the least set stands -/
def findI (n : Nat) (N bk : Nat → Nat) (bg rm p w c S : Nat) : Prop := c ≤ 256 ∧ 0 < c ∧ S &&& w = S ∧ c + cnt w S = 2 ^ pc w ∧ ∀ J, J < S → J &&& w = J → ¬ Cc n N bk bg rm p J = Cc n N bk bg rm p w
theorem findI_0 {n : Nat} {N bk : Nat → Nat} {bg rm p w : Nat} : findI n N bk bg rm p w (2 ^ pc w) 0 := ⟨pc_pow, Nat.two_pow_pos _, Nat.zero_and _, rfl, fun J h => absurd h (Nat.not_lt_zero J)⟩
theorem findI_s {n : Nat} {N bk : Nat → Nat} {bg rm p w c S : Nat} (hw : w < 256) (h : findI n N bk bg rm p w c S) (hne : ¬ Cc n N bk bg rm p S = Cc n N bk bg rm p w) : findI n N bk bg rm p w (c - 1) (nsb w S) := by
  obtain ⟨h1, h2, h4, h5, h6⟩ := h
  have hS : S < 256 := Nat.lt_of_le_of_lt (by rw [← h4]; exact Nat.and_le_right) hw
  have hn : S ≠ w := fun e => hne (by rw [e])
  have hlt : S < w := Nat.lt_of_le_of_ne (by rw [← h4]; exact Nat.and_le_right) hn
  have h7 := cnt_self hw
  have h9 := cnt_mono w w (show nxs w S ≤ w from by
    rcases Nat.lt_or_ge w (nxs w S) with z | z
    · exact absurd (Nat.and_self _) (nxs_gap hlt z)
    · exact z)
  rw [cnt_next h4] at h9
  unfold nsb
  rw [if_neg hn]
  refine ⟨by omega, by omega, (nxs_all w hw S hS h4 hn).2.2, by rw [cnt_next h4]; omega, fun J hJ hJw => ?_⟩
  rcases Nat.lt_or_ge S J with q | q
  · exact absurd hJw (nxs_gap q hJ)
  · by_cases e : J = S
    · rw [e]; exact hne
    · exact h6 J (by omega) hJw
theorem findI_e {n : Nat} {N bk : Nat → Nat} {bg rm p U c S : Nat} (hw : U &&& wk n N bk p < 256) (h : findI n N bk bg rm p (U &&& wk n N bk p) c S) (he : Cc n N bk bg rm p S = Cc n N bk bg rm p (U &&& wk n N bk p)) : S = stP n N bk bg rm p U := by
  obtain ⟨h1, h2, h4, h5, h6⟩ := h
  have hS : S < 256 := Nat.lt_of_le_of_lt (by rw [← h4]; exact Nat.and_le_right) hw
  refine (fnd_eq 256 0 S (Nat.zero_le S) (by omega) ?_ (fun J _ hJ hP => ?_)).symm
  · simp [isub, h4, he]
  · simp only [isub, Bool.and_eq_true, decide_eq_true_eq] at hP
    exact h6 J hJ hP.1 hP.2
end
section
/-! sizes; the least cost: of what fits, and of what doesn't; tools that aren't worth keeping -/
theorem pc_bits (a : Nat) : pc a = (a.testBit 0).toNat + (a.testBit 1).toNat + (a.testBit 2).toNat + (a.testBit 3).toNat + (a.testBit 4).toNat + (a.testBit 5).toNat + (a.testBit 6).toNat + (a.testBit 7).toNat := by
  have h : ∀ i, (a.testBit i).toNat = a / 2 ^ i % 2 := by
    intro i
    rw [Nat.testBit_eq_decide_div_mod_eq]
    rcases Nat.mod_two_eq_zero_or_one (a / 2 ^ i) with e | e <;> rw [e] <;> rfl
  rw [h, h, h, h, h, h, h, h]
  simp only [pc, Nat.pow_zero, Nat.div_one]
  try rfl
/-- a is in b, bit by bit -/
theorem sub_bit {a b : Nat} (h : a &&& b = a) (i : Nat) (hi : a.testBit i = true) : b.testBit i = true := by
  have h1 := congrArg (fun z => z.testBit i) h
  simp only [Nat.testBit_and] at h1
  rw [hi, Bool.true_and] at h1
  exact h1
theorem sub_of {a b : Nat} (h : ∀ i, a.testBit i = true → b.testBit i = true) : a &&& b = a := by
  apply Nat.eq_of_testBit_eq
  intro i
  rw [Nat.testBit_and]
  cases h2 : a.testBit i
  · rfl
  · rw [h i h2]; rfl
theorem bit_le {a b : Nat} (h : a &&& b = a) (i : Nat) : (a.testBit i).toNat ≤ (b.testBit i).toNat := by
  cases h2 : a.testBit i
  · exact Nat.zero_le _
  · rw [sub_bit h i h2]; exact Nat.le_refl _
theorem pc_mono {a b : Nat} (h : a &&& b = a) : pc a ≤ pc b := by
  rw [pc_bits, pc_bits]
  have := bit_le h 0; have := bit_le h 1; have := bit_le h 2; have := bit_le h 3
  have := bit_le h 4; have := bit_le h 5; have := bit_le h 6; have := bit_le h 7
  omega
theorem and_tb {a b i : Nat} (h : (a &&& b).testBit i = true) : a.testBit i = true ∧ b.testBit i = true := by
  rw [Nat.testBit_and, Bool.and_eq_true] at h; exact h
theorem sd_t {a b i : Nat} (h : (sd a b).testBit i = true) : a.testBit i = true ∧ b.testBit i = false := by
  rw [sd_tb, Bool.and_eq_true, Bool.not_eq_true'] at h; exact h
theorem sd_i {a b i : Nat} (h1 : a.testBit i = true) (h2 : b.testBit i = false) : (sd a b).testBit i = true := by
  rw [sd_tb, h1, h2]; rfl
theorem or_t {a b i : Nat} (h : (a ||| b).testBit i = true) : a.testBit i = true ∨ b.testBit i = true := by
  rw [Nat.testBit_or, Bool.or_eq_true] at h; exact h
theorem or_l {a b i : Nat} (h : a.testBit i = true) : (a ||| b).testBit i = true := by rw [Nat.testBit_or, h]; rfl
theorem or_r {a b i : Nat} (h : b.testBit i = true) : (a ||| b).testBit i = true := by rw [Nat.testBit_or, h, Bool.or_true]
theorem and_i {a b i : Nat} (h1 : a.testBit i = true) (h2 : b.testBit i = true) : (a &&& b).testBit i = true := by rw [Nat.testBit_and, h1, h2]; rfl
theorem bit_f {b : Bool} (h : ¬ b = true) : b = false := by cases b <;> first | rfl | exact absurd rfl h
theorem sz_mono {bg a b : Nat} (h : a &&& b = a) : sz bg a ≤ sz bg b := by
  unfold sz
  have h1 := pc_mono h
  have h2 := pc_mono (a := a &&& bg) (b := b &&& bg) (sub_of (fun i hi => and_i (sub_bit h i (and_tb hi).1) (and_tb hi).2))
  omega
theorem sd_sub (a b : Nat) : sd a b &&& a = sd a b := sub_of (fun _ hi => (sd_t hi).1)
theorem sz_sd {bg a b : Nat} : sz bg (sd a b) ≤ sz bg a := sz_mono (sd_sub a b)
theorem isub_t {K T : Nat} (h : isub K T = true) : K &&& T = K := of_decide_eq_true h
theorem sub_le {a b : Nat} (h : a &&& b = a) : a ≤ b := by rw [← h]; exact Nat.and_le_right
section CC
variable {n : Nat} {N bk : Nat → Nat} {bg rm : Nat}
/-- one more tool never costs more -/
theorem Cc_mono {p K K' : Nat} (hp : p < n) (h : K &&& K' = K) : Cc n N bk bg rm p K' ≤ Cc n N bk bg rm p K := by
  rw [Cc_eq N bk bg rm hp K, Cc_eq N bk bg rm hp K']
  refine le_mn (mn_far _) (fun J hJ hP => mn_le 256 J hJ ?_)
  rw [Bool.and_eq_true] at hP ⊢
  exact ⟨decide_eq_true (sub_of (fun i hi => sub_bit h i (sub_bit (isub_t hP.1) i hi))), hP.2⟩
theorem Dd_mono {p J S : Nat} (h : J &&& S = J) : Dd n N bk bg rm p S ≤ Dd n N bk bg rm p J := by
  unfold Dd
  by_cases hp : p + 1 < n
  · rw [if_pos hp, if_pos hp]
    have ha : sd (N p ||| J) (bk p) &&& sd (N p ||| S) (bk p) = sd (N p ||| J) (bk p) := sub_of (fun i hi => sd_i ((or_t (sd_t hi).1).elim or_l (fun q => or_r (sub_bit h i q))) (sd_t hi).2)
    have h1 : sz bg (sd (N (p + 1)) (sd (N p ||| S) (bk p))) ≤ sz bg (sd (N (p + 1)) (sd (N p ||| J) (bk p))) := sz_mono (sub_of (fun i hi => sd_i (sd_t hi).1 (bit_f (fun q => by have := sub_bit ha i q; rw [(sd_t hi).2] at this; cases this))))
    have h2 := Cc_mono (n := n) (N := N) (bk := bk) (bg := bg) (rm := rm) (K := sd (N p ||| J) (bk p) &&& wk n N bk (p + 1)) (K' := sd (N p ||| S) (bk p) &&& wk n N bk (p + 1)) hp (sub_of (fun i hi => and_i (sub_bit ha i (and_tb hi).1) (and_tb hi).2))
    omega
  · rw [if_neg hp, if_neg hp]; exact Nat.le_refl 0
theorem fit_0 {p : Nat} (hf : sz bg (N p) ≤ rm) : fit bg rm (N p) 0 = true := by
  unfold fit
  rw [Nat.or_zero]
  exact decide_eq_true hf
theorem Cc_bd (hfit : ∀ j, j < n → sz bg (N j) ≤ rm) : ∀ (k p K : Nat), n - p ≤ k → p < n → Cc n N bk bg rm p K ≤ 16 * k ∧ Dd n N bk bg rm p K ≤ 16 * k := by
  intro k
  induction k with
  | zero => intro p K h1 h2; omega
  | succ k ih =>
    intro p K h1 hp
    have hD : ∀ J, Dd n N bk bg rm p J ≤ 16 * (k + 1) := by
      intro J
      unfold Dd
      by_cases h3 : p + 1 < n
      · rw [if_pos h3]
        have h4 := sz_le bg (sd (N (p + 1)) (sd (N p ||| J) (bk p)))
        have h5 := (ih (p + 1) (sd (N p ||| J) (bk p) &&& wk n N bk (p + 1)) (by omega) h3).1
        omega
      · rw [if_neg h3]; exact Nat.zero_le _
    refine ⟨?_, hD K⟩
    rw [Cc_eq N bk bg rm hp]
    refine Nat.le_trans (mn_le 256 0 (by decide) ?_) (hD 0)
    rw [Bool.and_eq_true]
    exact ⟨decide_eq_true (Nat.zero_and _), fit_0 (hfit p hp)⟩
theorem Dd_128 (hn8 : n ≤ 8) (hfit : ∀ j, j < n → sz bg (N j) ≤ rm) {p K : Nat} (hp : p < n) : Dd n N bk bg rm p K ≤ 128 := by
  have := (Cc_bd (bk := bk) hfit 8 p K (by omega) hp).2; omega
theorem Cc_128 (hn8 : n ≤ 8) (hfit : ∀ j, j < n → sz bg (N j) ≤ rm) {p K : Nat} (hp : p < n) : Cc n N bk bg rm p K ≤ 128 := by
  have := (Cc_bd (bk := bk) hfit 8 p K (by omega) hp).1; omega
/-- what is kept at the least cost -/
theorem Cc_get (hn8 : n ≤ 8) (hfit : ∀ j, j < n → sz bg (N j) ≤ rm) {p K : Nat} (hp : p < n) : ∃ J, J < 256 ∧ J &&& K = J ∧ sz bg (N p ||| J) ≤ rm ∧ Cc n N bk bg rm p K = Dd n N bk bg rm p J := by
  have h1 := Cc_128 (bk := bk) hn8 hfit (K := K) hp
  rcases mn_get (P := fun J => isub J K && fit bg rm (N p) J) (v := Dd n N bk bg rm p) 256 with e | ⟨J, h2, h3, h4⟩
  · rw [← Cc_eq N bk bg rm hp] at e; omega
  · rw [Bool.and_eq_true] at h3
    exact ⟨J, h2, isub_t h3.1, of_decide_eq_true h3.2, (Cc_eq N bk bg rm hp K).trans h4⟩
theorem Cc_le {p J K : Nat} (hp : p < n) (hJ : J < 256) (h : J &&& K = J) (hf : sz bg (N p ||| J) ≤ rm) : Cc n N bk bg rm p K ≤ Dd n N bk bg rm p J := by
  rw [Cc_eq N bk bg rm hp]
  exact mn_le 256 J hJ (by rw [Bool.and_eq_true]; exact ⟨decide_eq_true h, decide_eq_true hf⟩)
end CC
theorem Cc_fit {n : Nat} (N bk : Nat → Nat) (bg rm : Nat) {p S : Nat} (hn8 : n ≤ 8) (hp : p < n) (hfit : ∀ j, j < n → sz bg (N j) ≤ rm) (hS : S < 256) (hf : sz bg (N p ||| S) ≤ rm) : Cc n N bk bg rm p S = Dd n N bk bg rm p S := by
  apply Nat.le_antisymm
  · exact Cc_le hp hS (Nat.and_self S) hf
  · obtain ⟨J, h1, h2, h3, h4⟩ := Cc_get (bk := bk) hn8 hfit (K := S) hp
    rw [h4]
    exact Dd_mono h2
theorem cfF_le2 (C : Nat → Nat) (S : Nat) : ∀ k t, t < k → S.testBit t = true → cfF C S k ≤ C (sd S (2 ^ t)) := by
  intro k
  induction k with
  | zero => intro t h; omega
  | succ k ih =>
    intro t h hb
    rw [cfF]
    by_cases e : t = k
    · subst e; rw [if_pos hb]; exact Nat.min_le_right _ _
    · have := ih t (by omega) hb
      split
      · exact Nat.le_trans (Nat.min_le_left _ _) this
      · exact this
theorem le_cfF {C : Nat → Nat} {S x : Nat} (hx : x ≤ 2147483647) (h : ∀ t, S.testBit t = true → x ≤ C (sd S (2 ^ t))) : ∀ k, x ≤ cfF C S k := by
  intro k
  induction k with
  | zero => exact hx
  | succ k ih =>
    rw [cfF]
    split
    · rename_i hb
      exact Nat.le_min.mpr ⟨ih, h k hb⟩
    · exact ih
theorem bit_8 {S i : Nat} (h : S < 256) (hi : S.testBit i = true) : i < 8 := by
  rcases Nat.lt_or_ge i 8 with q | q
  · exact q
  · have h2 : S < 2 ^ i := Nat.lt_of_lt_of_le h (show 2 ^ 8 ≤ 2 ^ i from Nat.pow_le_pow_right (by decide) q)
    rw [Nat.testBit_lt_two_pow h2] at hi
    cases hi
/-- of what doesn't fit one goes, and it costs no more -/
theorem Cc_one {n : Nat} (N bk : Nat → Nat) (bg rm : Nat) {p S : Nat} (hn8 : n ≤ 8) (hp : p < n) (hfit : ∀ j, j < n → sz bg (N j) ≤ rm) (hS : S < 256) (hf : ¬ sz bg (N p ||| S) ≤ rm) : ∃ t, t < 8 ∧ S.testBit t = true ∧ Cc n N bk bg rm p (sd S (2 ^ t)) = Cc n N bk bg rm p S := by
  obtain ⟨J, h1, h2, h3, h4⟩ := Cc_get (bk := bk) hn8 hfit (K := S) hp
  have hne : J ≠ S := fun e => hf (by rw [← e]; exact h3)
  obtain ⟨t, ht1, ht2⟩ : ∃ t, S.testBit t = true ∧ J.testBit t = false := by
    by_cases hx : ∃ t, S.testBit t = true ∧ J.testBit t = false
    · exact hx
    · exfalso
      apply hne
      have hs : S &&& J = S := sub_of (fun i hi => by
        cases e : J.testBit i
        · exact absurd ⟨i, hi, e⟩ hx
        · rfl)
      exact Nat.le_antisymm (sub_le h2) (sub_le hs)
  have hb : ∀ i, (2 ^ t).testBit i = true → i = t := by
    intro i hi
    rw [Nat.testBit_two_pow] at hi
    exact (of_decide_eq_true hi).symm
  have hJ : J &&& sd S (2 ^ t) = J := sub_of (fun i hi => sd_i (sub_bit h2 i hi) (bit_f (fun q => by have := hb i q; subst this; rw [ht2] at hi; cases hi)))
  refine ⟨t, bit_8 hS ht1, ht1, Nat.le_antisymm ?_ (Cc_mono hp (sd_sub _ _))⟩
  rw [h4]
  exact Cc_le hp h1 hJ h3
theorem Cc_cut {n : Nat} (N bk : Nat → Nat) (bg rm : Nat) {p S : Nat} (hn8 : n ≤ 8) (hp : p < n) (hfit : ∀ j, j < n → sz bg (N j) ≤ rm) (hS : S < 256) (hf : ¬ sz bg (N p ||| S) ≤ rm) : cfF (Cc n N bk bg rm p) S 8 = Cc n N bk bg rm p S := by
  obtain ⟨t, h1, h2, h3⟩ := Cc_one N bk bg rm hn8 hp hfit hS hf
  apply Nat.le_antisymm
  · rw [← h3]; exact cfF_le2 _ S 8 t h1 h2
  · exact le_cfF (by have := Cc_far N bk bg rm hp S; omega) (fun t _ => Cc_mono hp (sd_sub _ _)) 8
/-- tools that aren't worth keeping change nothing -/
theorem Dd_wk {n : Nat} (N bk : Nat → Nat) (bg rm : Nat) {p K : Nat} (hT : K &&& thr N bk p = K) (hK : ∀ i, K.testBit i = true → (N p).testBit i = false) : Dd n N bk bg rm p (K &&& wk n N bk p) = Dd n N bk bg rm p K := by
  unfold Dd
  by_cases hp : p + 1 < n
  · rw [if_pos hp, if_pos hp]
    have key : ∀ i, K.testBit i = true → (bk p).testBit i = false → (wk n N bk p).testBit i = false → (N (p + 1)).testBit i = false ∧ (wk n N bk (p + 1)).testBit i = false := by
      intro i hi hb hw
      have hwan : (wan n N bk p).testBit i = false := by
        refine bit_f (fun q => ?_)
        have h9 : (wk n N bk p).testBit i = true := and_i (sd_i (sub_bit hT i hi) (hK i hi)) (sd_i q hb)
        rw [hw] at h9; cases h9
      rw [wan_eq, if_pos hp, Nat.testBit_or] at hwan
      have h1 := Bool.or_eq_false_iff.mp hwan
      refine ⟨h1.2, bit_f (fun q => ?_)⟩
      have h2 := sd_t (and_tb q).2
      have h3 := sd_i h2.1 h2.2
      rw [h1.1] at h3; cases h3
    have hA : ∀ i, (sd (N p ||| (K &&& wk n N bk p)) (bk p)).testBit i = true → (sd (N p ||| K) (bk p)).testBit i = true := fun i hi => sd_i ((or_t (sd_t hi).1).elim or_l (fun q => or_r (and_tb q).1)) (sd_t hi).2
    have hB : ∀ i, (sd (N p ||| K) (bk p)).testBit i = true → (sd (N p ||| (K &&& wk n N bk p)) (bk p)).testBit i = true ∨ ((N (p + 1)).testBit i = false ∧ (wk n N bk (p + 1)).testBit i = false) := by
      intro i hi
      rcases or_t (sd_t hi).1 with q | q
      · exact Or.inl (sd_i (or_l q) (sd_t hi).2)
      · cases hw : (wk n N bk p).testBit i
        · exact Or.inr (key i q (sd_t hi).2 hw)
        · exact Or.inl (sd_i (or_r (and_i q hw)) (sd_t hi).2)
    have e1 : sd (N (p + 1)) (sd (N p ||| (K &&& wk n N bk p)) (bk p)) = sd (N (p + 1)) (sd (N p ||| K) (bk p)) := by
      apply Nat.eq_of_testBit_eq
      intro i
      rw [sd_tb (N (p + 1)), sd_tb (N (p + 1))]
      cases h1 : (N (p + 1)).testBit i
      · rfl
      · cases h2 : (sd (N p ||| (K &&& wk n N bk p)) (bk p)).testBit i
        · cases h3 : (sd (N p ||| K) (bk p)).testBit i
          · rfl
          · rcases hB i h3 with q | q
            · rw [h2] at q; cases q
            · rw [h1] at q; cases q.1
        · rw [hA i h2]
    have e2 : sd (N p ||| (K &&& wk n N bk p)) (bk p) &&& wk n N bk (p + 1) = sd (N p ||| K) (bk p) &&& wk n N bk (p + 1) := by
      apply Nat.eq_of_testBit_eq
      intro i
      rw [Nat.testBit_and, Nat.testBit_and]
      cases h1 : (wk n N bk (p + 1)).testBit i
      · rw [Bool.and_false, Bool.and_false]
      · cases h2 : (sd (N p ||| (K &&& wk n N bk p)) (bk p)).testBit i
        · cases h3 : (sd (N p ||| K) (bk p)).testBit i
          · rfl
          · rcases hB i h3 with q | q
            · rw [h2] at q; cases q
            · rw [h1] at q; cases q.2
        · rw [hA i h2]
    rw [e1, e2]
  · rw [if_neg hp, if_neg hp]
theorem wk_not {n : Nat} {N bk : Nat → Nat} {p i : Nat} (h : (wk n N bk p).testBit i = true) : (N p).testBit i = false := (sd_t (and_tb h).1).2
/-- LEAST, from a place on: what comes there, and the least behind it -/
theorem Vv_Cc {n : Nat} (N bk : Nat → Nat) (bg rm : Nat) (hn8 : n ≤ 8) (hN : ∀ j, N j < 256) (hfit : ∀ j, j < n → sz bg (N j) ≤ rm) : ∀ (k p m : Nat), n - p ≤ k → p < n → m < 256 → m &&& thr N bk p = m → Vv n N bk bg rm p m = sz bg (sd (N p) m) + Cc n N bk bg rm p (sd m (N p) &&& wk n N bk p) ∧ ∀ K, K < 256 → K &&& sd m (N p) = K → sz bg (sd (N p) m) + Vv n N bk bg rm (p + 1) (sd (N p ||| K) (bk p)) = sz bg (sd (N p) m) + Dd n N bk bg rm p K := by
  intro k
  induction k with
  | zero => intro p m h1 h2; omega
  | succ k ih =>
    intro p m h1 hp hm hT
    have hD : ∀ K, K < 256 → K &&& sd m (N p) = K → Vv n N bk bg rm (p + 1) (sd (N p ||| K) (bk p)) = Dd n N bk bg rm p K := by
      intro K hK hKm
      unfold Dd
      by_cases h3 : p + 1 < n
      · rw [if_pos h3]
        have ha : sd (N p ||| K) (bk p) &&& thr N bk (p + 1) = sd (N p ||| K) (bk p) := sub_of (fun i hi => by
          refine sd_i ?_ (sd_t hi).2
          rcases or_t (sd_t hi).1 with q | q
          · exact or_r q
          · exact or_l (sub_bit hT i (sd_t (sub_bit hKm i q)).1))
        have h4 := (ih (p + 1) (sd (N p ||| K) (bk p)) (by omega) h3 (zz_lt_sd (zz_lt_or (hN p) hK)) ha).1
        rw [h4]
        have e : sd (sd (N p ||| K) (bk p)) (N (p + 1)) &&& wk n N bk (p + 1) = sd (N p ||| K) (bk p) &&& wk n N bk (p + 1) := by
          apply Nat.eq_of_testBit_eq
          intro i
          rw [Nat.testBit_and, Nat.testBit_and, sd_tb (sd (N p ||| K) (bk p))]
          cases h5 : (wk n N bk (p + 1)).testBit i
          · rw [Bool.and_false, Bool.and_false]
          · rw [wk_not h5]; simp
        rw [e]
      · rw [if_neg h3, show p + 1 = n by omega, Vv_end]
    refine ⟨?_, fun K hK hKm => by rw [hD K hK hKm]⟩
    rw [Vv_eq N bk bg rm hp]
    have hU : ∀ i, (sd m (N p)).testBit i = true → (thr N bk p).testBit i = true ∧ (N p).testBit i = false := fun i hi => ⟨sub_bit hT i (sd_t hi).1, (sd_t hi).2⟩
    apply Nat.le_antisymm
    · obtain ⟨J, j1, j2, j3, j4⟩ := Cc_get (bk := bk) hn8 hfit (K := sd m (N p) &&& wk n N bk p) hp
      have j5 : J &&& sd m (N p) = J := sub_of (fun i hi => (and_tb (sub_bit j2 i hi)).1)
      rw [j4, ← hD J j1 j5]
      exact mn_le (P := fun K => isub K (sd m (N p)) && fit bg rm (N p) K) (v := fun K => sz bg (sd (N p) m) + Vv n N bk bg rm (p + 1) (sd (N p ||| K) (bk p))) 256 J j1 (by rw [Bool.and_eq_true]; exact ⟨decide_eq_true j5, decide_eq_true j3⟩)
    · refine le_mn ?_ (fun K hK hP => ?_)
      · have := sz_le bg (sd (N p) m)
        have := Cc_128 (bk := bk) hn8 hfit (K := sd m (N p) &&& wk n N bk p) hp
        omega
      · rw [Bool.and_eq_true] at hP
        have k1 := isub_t hP.1
        have k2 : sz bg (N p ||| K) ≤ rm := of_decide_eq_true hP.2
        show sz bg (sd (N p) m) + Cc n N bk bg rm p (sd m (N p) &&& wk n N bk p) ≤ sz bg (sd (N p) m) + Vv n N bk bg rm (p + 1) (sd (N p ||| K) (bk p))
        rw [hD K hK k1, ← Dd_wk N bk bg rm (sub_of (fun i hi => (hU i (sub_bit k1 i hi)).1)) (fun i hi => (hU i (sub_bit k1 i hi)).2)]
        have k3 : Cc n N bk bg rm p (sd m (N p) &&& wk n N bk p) ≤ Dd n N bk bg rm p (K &&& wk n N bk p) := Cc_le hp (zz_lt_and hK) (sub_of (fun i hi => and_i (sub_bit k1 i (and_tb hi).1) (and_tb hi).2)) (Nat.le_trans (sz_mono (sub_of (fun i hi => (or_t hi).elim or_l (fun q => or_r (and_tb q).1)))) k2)
        omega
theorem lea_eq {n : Nat} (N bk : Nat → Nat) (bg rm : Nat) (hn8 : n ≤ 8) (hn : 0 < n) (hN : ∀ j, N j < 256) (hfit : ∀ j, j < n → sz bg (N j) ≤ rm) : lea n N bk bg rm = sz bg (N 0) + Cc n N bk bg rm 0 0 := by
  have h := (Vv_Cc N bk bg rm hn8 hN hfit n 0 0 (by omega) hn (by decide) (Nat.zero_and _)).1
  unfold lea
  rw [h]
  have e1 : sd (N 0) 0 = N 0 := by unfold sd; rw [Nat.and_zero, Nat.xor_zero]
  have e2 : sd 0 (N 0) &&& wk n N bk 0 = 0 := by unfold sd; rw [Nat.zero_and, Nat.xor_self, Nat.zero_and]
  rw [e1, e2]
theorem fnd_le2 {P : Nat → Bool} : ∀ (f k S : Nat), k ≤ S → S < k + f → P S = true → fnd P f k ≤ S := by
  intro f
  induction f with
  | zero => intro k S h1 h2; omega
  | succ f ih =>
    intro k S h1 h2 hP
    rw [fnd]
    split
    · exact h1
    · rename_i hk
      have : k ≠ S := fun e => hk (by rw [e]; exact hP)
      exact ih (k + 1) S (by omega) (by omega) hP
theorem stP_le (n : Nat) (N bk : Nat → Nat) (bg rm p U : Nat) (h : U < 256) : stP n N bk bg rm p U ≤ U &&& wk n N bk p := fnd_le2 256 0 _ (Nat.zero_le _) (by have := zz_lt_and (b := wk n N bk p) h; omega) (by rw [Bool.and_eq_true]; exact ⟨decide_eq_true (Nat.and_self _), decide_eq_true rfl⟩)
theorem stP_lt (n : Nat) (N bk : Nat → Nat) (bg rm p U : Nat) (h : U < 256) : stP n N bk bg rm p U < 256 := Nat.lt_of_le_of_lt (Nat.le_trans (stP_le n N bk bg rm p U h) Nat.and_le_left) h
end
