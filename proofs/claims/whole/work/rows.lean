section
-- ===== PART A: goes FIRST, ahead of the names: the tables' words, and 'selects' of the private methods out of them =====
/-- a private method of a class that the tables say can be made, by its rows of tables_1 -/
def lw_okq (q : MethodName × Nat) : Prop := (q.1.cls ≠ "java/lang/invoke/MethodHandle" ∧ q.1.cls ≠ "java/lang/invoke/VarHandle") ∧ Cond.instantiable q.1.cls q.2 ∈ tables_1 ∧ Cond.privateMethod q.1 ∈ tables_1 ∧ Cond.instanceMethod q.1 ∈ tables_1
theorem lw_p0 : lw_okq (⟨"TrusteeDesk", "allReserved", "()J"⟩, 10) := ⟨⟨by decide +kernel, by decide +kernel⟩, List.mem_of_getElem? (i := 15) (by decide +kernel), List.mem_of_getElem? (i := 87) (by decide +kernel), List.mem_of_getElem? (i := 88) (by decide +kernel)⟩
theorem lw_p1 : lw_okq (⟨"TrusteeDesk", "allGot", "()J"⟩, 10) := ⟨⟨by decide +kernel, by decide +kernel⟩, List.mem_of_getElem? (i := 15) (by decide +kernel), List.mem_of_getElem? (i := 91) (by decide +kernel), List.mem_of_getElem? (i := 92) (by decide +kernel)⟩
theorem lw_p2 : lw_okq (⟨"TrusteeDesk", "allPaid", "()J"⟩, 10) := ⟨⟨by decide +kernel, by decide +kernel⟩, List.mem_of_getElem? (i := 15) (by decide +kernel), List.mem_of_getElem? (i := 95) (by decide +kernel), List.mem_of_getElem? (i := 96) (by decide +kernel)⟩
theorem lw_p3 : lw_okq (⟨"java/lang/Throwable", "fillInStackTrace", "(I)Ljava/lang/Throwable;"⟩, 6) := ⟨⟨by decide +kernel, by decide +kernel⟩, List.mem_of_getElem? (i := 156) (by decide +kernel), List.mem_of_getElem? (i := 154) (by decide +kernel), List.mem_of_getElem? (i := 155) (by decide +kernel)⟩
theorem lw_p4 : lw_okq (⟨"TrusteeDesk", "requireNotEnded", "()V"⟩, 10) := ⟨⟨by decide +kernel, by decide +kernel⟩, List.mem_of_getElem? (i := 15) (by decide +kernel), List.mem_of_getElem? (i := 207) (by decide +kernel), List.mem_of_getElem? (i := 208) (by decide +kernel)⟩
theorem lw_p5 : lw_okq (⟨"TrusteeDesk", "claimAt", "(I)LTrusteeDesk$Claim;"⟩, 10) := ⟨⟨by decide +kernel, by decide +kernel⟩, List.mem_of_getElem? (i := 15) (by decide +kernel), List.mem_of_getElem? (i := 278) (by decide +kernel), List.mem_of_getElem? (i := 279) (by decide +kernel)⟩
theorem lw_p6 : lw_okq (⟨"TrusteeDesk", "assetAt", "(I)LTrusteeDesk$Asset;"⟩, 10) := ⟨⟨by decide +kernel, by decide +kernel⟩, List.mem_of_getElem? (i := 15) (by decide +kernel), List.mem_of_getElem? (i := 340) (by decide +kernel), List.mem_of_getElem? (i := 341) (by decide +kernel)⟩
theorem lw_p7 : lw_okq (⟨"TrusteeDesk", "giveToSecurities", "(LTrusteeDesk$Asset;J)J"⟩, 10) := ⟨⟨by decide +kernel, by decide +kernel⟩, List.mem_of_getElem? (i := 15) (by decide +kernel), List.mem_of_getElem? (i := 371) (by decide +kernel), List.mem_of_getElem? (i := 372) (by decide +kernel)⟩
theorem lw_p8 : lw_okq (⟨"TrusteeDesk", "resolveReserve", "(LTrusteeDesk$Claim;)J"⟩, 10) := ⟨⟨by decide +kernel, by decide +kernel⟩, List.mem_of_getElem? (i := 15) (by decide +kernel), List.mem_of_getElem? (i := 385) (by decide +kernel), List.mem_of_getElem? (i := 386) (by decide +kernel)⟩
theorem lw_p9 : lw_okq (⟨"TrusteeDesk", "dueOf", "(LTrusteeDesk$Claim;)J"⟩, 10) := ⟨⟨by decide +kernel, by decide +kernel⟩, List.mem_of_getElem? (i := 15) (by decide +kernel), List.mem_of_getElem? (i := 393) (by decide +kernel), List.mem_of_getElem? (i := 394) (by decide +kernel)⟩
theorem lw_p10 : lw_okq (⟨"TrusteeDesk", "release", "(LTrusteeDesk$Claim;J)V"⟩, 10) := ⟨⟨by decide +kernel, by decide +kernel⟩, List.mem_of_getElem? (i := 15) (by decide +kernel), List.mem_of_getElem? (i := 404) (by decide +kernel), List.mem_of_getElem? (i := 405) (by decide +kernel)⟩
theorem lw_p11 : lw_okq (⟨"TrusteeDesk", "isBlocked", "(I)Z"⟩, 10) := ⟨⟨by decide +kernel, by decide +kernel⟩, List.mem_of_getElem? (i := 15) (by decide +kernel), List.mem_of_getElem? (i := 441) (by decide +kernel), List.mem_of_getElem? (i := 442) (by decide +kernel)⟩
theorem lw_p12 : lw_okq (⟨"TrusteeDesk", "needFor", "(II)J"⟩, 10) := ⟨⟨by decide +kernel, by decide +kernel⟩, List.mem_of_getElem? (i := 15) (by decide +kernel), List.mem_of_getElem? (i := 446) (by decide +kernel), List.mem_of_getElem? (i := 447) (by decide +kernel)⟩
theorem lw_p13 : lw_okq (⟨"TrusteeDesk", "serveThrough", "(I)J"⟩, 10) := ⟨⟨by decide +kernel, by decide +kernel⟩, List.mem_of_getElem? (i := 15) (by decide +kernel), List.mem_of_getElem? (i := 455) (by decide +kernel), List.mem_of_getElem? (i := 456) (by decide +kernel)⟩
theorem lw_p14 : lw_okq (⟨"TrusteeDesk", "serve", "(LTrusteeDesk$Claim;J)V"⟩, 10) := ⟨⟨by decide +kernel, by decide +kernel⟩, List.mem_of_getElem? (i := 15) (by decide +kernel), List.mem_of_getElem? (i := 459) (by decide +kernel), List.mem_of_getElem? (i := 460) (by decide +kernel)⟩
theorem lw_p15 : lw_okq (⟨"TrusteeDesk", "dropContested", "()V"⟩, 10) := ⟨⟨by decide +kernel, by decide +kernel⟩, List.mem_of_getElem? (i := 15) (by decide +kernel), List.mem_of_getElem? (i := 485) (by decide +kernel), List.mem_of_getElem? (i := 486) (by decide +kernel)⟩
def lw_privs_1 : List (MethodName × Nat) := [(⟨"TrusteeDesk", "allReserved", "()J"⟩, 10), (⟨"TrusteeDesk", "allGot", "()J"⟩, 10), (⟨"TrusteeDesk", "allPaid", "()J"⟩, 10), (⟨"java/lang/Throwable", "fillInStackTrace", "(I)Ljava/lang/Throwable;"⟩, 6), (⟨"TrusteeDesk", "requireNotEnded", "()V"⟩, 10), (⟨"TrusteeDesk", "claimAt", "(I)LTrusteeDesk$Claim;"⟩, 10), (⟨"TrusteeDesk", "assetAt", "(I)LTrusteeDesk$Asset;"⟩, 10), (⟨"TrusteeDesk", "giveToSecurities", "(LTrusteeDesk$Asset;J)J"⟩, 10), (⟨"TrusteeDesk", "resolveReserve", "(LTrusteeDesk$Claim;)J"⟩, 10), (⟨"TrusteeDesk", "dueOf", "(LTrusteeDesk$Claim;)J"⟩, 10), (⟨"TrusteeDesk", "release", "(LTrusteeDesk$Claim;J)V"⟩, 10), (⟨"TrusteeDesk", "isBlocked", "(I)Z"⟩, 10), (⟨"TrusteeDesk", "needFor", "(II)J"⟩, 10), (⟨"TrusteeDesk", "serveThrough", "(I)J"⟩, 10), (⟨"TrusteeDesk", "serve", "(LTrusteeDesk$Claim;J)V"⟩, 10), (⟨"TrusteeDesk", "dropContested", "()V"⟩, 10)]
theorem lw_r1 : ∀ q ∈ lw_privs_1, lw_okq q := List.forall_mem_cons.mpr ⟨lw_p0, List.forall_mem_cons.mpr ⟨lw_p1, List.forall_mem_cons.mpr ⟨lw_p2, List.forall_mem_cons.mpr ⟨lw_p3, List.forall_mem_cons.mpr ⟨lw_p4, List.forall_mem_cons.mpr ⟨lw_p5, List.forall_mem_cons.mpr ⟨lw_p6, List.forall_mem_cons.mpr ⟨lw_p7, List.forall_mem_cons.mpr ⟨lw_p8, List.forall_mem_cons.mpr ⟨lw_p9, List.forall_mem_cons.mpr ⟨lw_p10, List.forall_mem_cons.mpr ⟨lw_p11, List.forall_mem_cons.mpr ⟨lw_p12, List.forall_mem_cons.mpr ⟨lw_p13, List.forall_mem_cons.mpr ⟨lw_p14, List.forall_mem_cons.mpr ⟨lw_p15, fun _ h => absurd h List.not_mem_nil⟩⟩⟩⟩⟩⟩⟩⟩⟩⟩⟩⟩⟩⟩⟩⟩
theorem lw_p16 : lw_okq (⟨"TrusteeDesk", "payUnpaidNets", "(I)V"⟩, 10) := ⟨⟨by decide +kernel, by decide +kernel⟩, List.mem_of_getElem? (i := 15) (by decide +kernel), List.mem_of_getElem? (i := 489) (by decide +kernel), List.mem_of_getElem? (i := 490) (by decide +kernel)⟩
theorem lw_p17 : lw_okq (⟨"TrusteeDesk", "shareCash", "(IJ)V"⟩, 10) := ⟨⟨by decide +kernel, by decide +kernel⟩, List.mem_of_getElem? (i := 15) (by decide +kernel), List.mem_of_getElem? (i := 497) (by decide +kernel), List.mem_of_getElem? (i := 498) (by decide +kernel)⟩
theorem lw_p18 : lw_okq (⟨"TrusteeDesk", "payAtEnd", "(LTrusteeDesk$Claim;J)V"⟩, 10) := ⟨⟨by decide +kernel, by decide +kernel⟩, List.mem_of_getElem? (i := 15) (by decide +kernel), List.mem_of_getElem? (i := 504) (by decide +kernel), List.mem_of_getElem? (i := 505) (by decide +kernel)⟩
theorem lw_p19 : lw_okq (⟨"TrusteeDeskModel", "isClaim", "(I)Z"⟩, 26) := ⟨⟨by decide +kernel, by decide +kernel⟩, List.mem_of_getElem? (i := 536) (by decide +kernel), List.mem_of_getElem? (i := 642) (by decide +kernel), List.mem_of_getElem? (i := 643) (by decide +kernel)⟩
theorem lw_p20 : lw_okq (⟨"TrusteeDeskModel", "isFresh", "(I)Z"⟩, 26) := ⟨⟨by decide +kernel, by decide +kernel⟩, List.mem_of_getElem? (i := 536) (by decide +kernel), List.mem_of_getElem? (i := 646) (by decide +kernel), List.mem_of_getElem? (i := 647) (by decide +kernel)⟩
theorem lw_p21 : lw_okq (⟨"TrusteeDeskModel", "isAsset", "(I)Z"⟩, 26) := ⟨⟨by decide +kernel, by decide +kernel⟩, List.mem_of_getElem? (i := 536) (by decide +kernel), List.mem_of_getElem? (i := 658) (by decide +kernel), List.mem_of_getElem? (i := 659) (by decide +kernel)⟩
theorem lw_p22 : lw_okq (⟨"TrusteeDeskModel", "hasSecurityIn", "(II)Z"⟩, 26) := ⟨⟨by decide +kernel, by decide +kernel⟩, List.mem_of_getElem? (i := 536) (by decide +kernel), List.mem_of_getElem? (i := 662) (by decide +kernel), List.mem_of_getElem? (i := 663) (by decide +kernel)⟩
theorem lw_p23 : lw_okq (⟨"TrusteeDeskModel", "isContestedIn", "(I)Z"⟩, 26) := ⟨⟨by decide +kernel, by decide +kernel⟩, List.mem_of_getElem? (i := 536) (by decide +kernel), List.mem_of_getElem? (i := 670) (by decide +kernel), List.mem_of_getElem? (i := 671) (by decide +kernel)⟩
theorem lw_p24 : lw_okq (⟨"TrusteeDeskModel", "note", "(IIJ)V"⟩, 26) := ⟨⟨by decide +kernel, by decide +kernel⟩, List.mem_of_getElem? (i := 536) (by decide +kernel), List.mem_of_getElem? (i := 674) (by decide +kernel), List.mem_of_getElem? (i := 675) (by decide +kernel)⟩
theorem lw_p25 : lw_okq (⟨"TrusteeDeskModel", "net", "(I)J"⟩, 26) := ⟨⟨by decide +kernel, by decide +kernel⟩, List.mem_of_getElem? (i := 536) (by decide +kernel), List.mem_of_getElem? (i := 678) (by decide +kernel), List.mem_of_getElem? (i := 679) (by decide +kernel)⟩
theorem lw_p26 : lw_okq (⟨"TrusteeDeskModel", "settled", "(I)J"⟩, 26) := ⟨⟨by decide +kernel, by decide +kernel⟩, List.mem_of_getElem? (i := 536) (by decide +kernel), List.mem_of_getElem? (i := 682) (by decide +kernel), List.mem_of_getElem? (i := 683) (by decide +kernel)⟩
theorem lw_p27 : lw_okq (⟨"TrusteeDeskModel", "isOpen", "(I)Z"⟩, 26) := ⟨⟨by decide +kernel, by decide +kernel⟩, List.mem_of_getElem? (i := 536) (by decide +kernel), List.mem_of_getElem? (i := 686) (by decide +kernel), List.mem_of_getElem? (i := 687) (by decide +kernel)⟩
theorem lw_p28 : lw_okq (⟨"TrusteeDeskModel", "dueNow", "(I)J"⟩, 26) := ⟨⟨by decide +kernel, by decide +kernel⟩, List.mem_of_getElem? (i := 536) (by decide +kernel), List.mem_of_getElem? (i := 690) (by decide +kernel), List.mem_of_getElem? (i := 691) (by decide +kernel)⟩
theorem lw_p29 : lw_okq (⟨"TrusteeDeskModel", "due", "(II)J"⟩, 26) := ⟨⟨by decide +kernel, by decide +kernel⟩, List.mem_of_getElem? (i := 536) (by decide +kernel), List.mem_of_getElem? (i := 694) (by decide +kernel), List.mem_of_getElem? (i := 695) (by decide +kernel)⟩
theorem lw_p30 : lw_okq (⟨"TrusteeDeskModel", "release", "(IJ)V"⟩, 26) := ⟨⟨by decide +kernel, by decide +kernel⟩, List.mem_of_getElem? (i := 536) (by decide +kernel), List.mem_of_getElem? (i := 699) (by decide +kernel), List.mem_of_getElem? (i := 700) (by decide +kernel)⟩
theorem lw_p31 : lw_okq (⟨"TrusteeDeskModel", "isBarred", "(I)Z"⟩, 26) := ⟨⟨by decide +kernel, by decide +kernel⟩, List.mem_of_getElem? (i := 536) (by decide +kernel), List.mem_of_getElem? (i := 719) (by decide +kernel), List.mem_of_getElem? (i := 720) (by decide +kernel)⟩
def lw_privs_2 : List (MethodName × Nat) := [(⟨"TrusteeDesk", "payUnpaidNets", "(I)V"⟩, 10), (⟨"TrusteeDesk", "shareCash", "(IJ)V"⟩, 10), (⟨"TrusteeDesk", "payAtEnd", "(LTrusteeDesk$Claim;J)V"⟩, 10), (⟨"TrusteeDeskModel", "isClaim", "(I)Z"⟩, 26), (⟨"TrusteeDeskModel", "isFresh", "(I)Z"⟩, 26), (⟨"TrusteeDeskModel", "isAsset", "(I)Z"⟩, 26), (⟨"TrusteeDeskModel", "hasSecurityIn", "(II)Z"⟩, 26), (⟨"TrusteeDeskModel", "isContestedIn", "(I)Z"⟩, 26), (⟨"TrusteeDeskModel", "note", "(IIJ)V"⟩, 26), (⟨"TrusteeDeskModel", "net", "(I)J"⟩, 26), (⟨"TrusteeDeskModel", "settled", "(I)J"⟩, 26), (⟨"TrusteeDeskModel", "isOpen", "(I)Z"⟩, 26), (⟨"TrusteeDeskModel", "dueNow", "(I)J"⟩, 26), (⟨"TrusteeDeskModel", "due", "(II)J"⟩, 26), (⟨"TrusteeDeskModel", "release", "(IJ)V"⟩, 26), (⟨"TrusteeDeskModel", "isBarred", "(I)Z"⟩, 26)]
theorem lw_r2 : ∀ q ∈ lw_privs_2, lw_okq q := List.forall_mem_cons.mpr ⟨lw_p16, List.forall_mem_cons.mpr ⟨lw_p17, List.forall_mem_cons.mpr ⟨lw_p18, List.forall_mem_cons.mpr ⟨lw_p19, List.forall_mem_cons.mpr ⟨lw_p20, List.forall_mem_cons.mpr ⟨lw_p21, List.forall_mem_cons.mpr ⟨lw_p22, List.forall_mem_cons.mpr ⟨lw_p23, List.forall_mem_cons.mpr ⟨lw_p24, List.forall_mem_cons.mpr ⟨lw_p25, List.forall_mem_cons.mpr ⟨lw_p26, List.forall_mem_cons.mpr ⟨lw_p27, List.forall_mem_cons.mpr ⟨lw_p28, List.forall_mem_cons.mpr ⟨lw_p29, List.forall_mem_cons.mpr ⟨lw_p30, List.forall_mem_cons.mpr ⟨lw_p31, fun _ h => absurd h List.not_mem_nil⟩⟩⟩⟩⟩⟩⟩⟩⟩⟩⟩⟩⟩⟩⟩⟩
theorem lw_p32 : lw_okq (⟨"TrusteeDeskModel", "lacks", "(II)J"⟩, 26) := ⟨⟨by decide +kernel, by decide +kernel⟩, List.mem_of_getElem? (i := 536) (by decide +kernel), List.mem_of_getElem? (i := 723) (by decide +kernel), List.mem_of_getElem? (i := 724) (by decide +kernel)⟩
theorem lw_p33 : lw_okq (⟨"TrusteeDeskModel", "lack", "(II)J"⟩, 26) := ⟨⟨by decide +kernel, by decide +kernel⟩, List.mem_of_getElem? (i := 536) (by decide +kernel), List.mem_of_getElem? (i := 727) (by decide +kernel), List.mem_of_getElem? (i := 728) (by decide +kernel)⟩
theorem lw_p34 : lw_okq (⟨"TrusteeDeskModel", "serveAll", "(I)J"⟩, 26) := ⟨⟨by decide +kernel, by decide +kernel⟩, List.mem_of_getElem? (i := 536) (by decide +kernel), List.mem_of_getElem? (i := 731) (by decide +kernel), List.mem_of_getElem? (i := 732) (by decide +kernel)⟩
theorem lw_p35 : lw_okq (⟨"TrusteeDeskModel", "serve", "(IJ)V"⟩, 26) := ⟨⟨by decide +kernel, by decide +kernel⟩, List.mem_of_getElem? (i := 536) (by decide +kernel), List.mem_of_getElem? (i := 735) (by decide +kernel), List.mem_of_getElem? (i := 736) (by decide +kernel)⟩
theorem lw_p36 : lw_okq (⟨"TrusteeDeskModel", "isAllRealised", "()Z"⟩, 26) := ⟨⟨by decide +kernel, by decide +kernel⟩, List.mem_of_getElem? (i := 536) (by decide +kernel), List.mem_of_getElem? (i := 751) (by decide +kernel), List.mem_of_getElem? (i := 752) (by decide +kernel)⟩
theorem lw_p37 : lw_okq (⟨"TrusteeDeskModel", "share", "(IJ)V"⟩, 26) := ⟨⟨by decide +kernel, by decide +kernel⟩, List.mem_of_getElem? (i := 536) (by decide +kernel), List.mem_of_getElem? (i := 755) (by decide +kernel), List.mem_of_getElem? (i := 756) (by decide +kernel)⟩
theorem lw_p38 : lw_okq (⟨"TrusteeDeskModel", "takeGreatest", "(I)I"⟩, 26) := ⟨⟨by decide +kernel, by decide +kernel⟩, List.mem_of_getElem? (i := 536) (by decide +kernel), List.mem_of_getElem? (i := 759) (by decide +kernel), List.mem_of_getElem? (i := 760) (by decide +kernel)⟩
theorem lw_p39 : lw_okq (⟨"TrusteeDeskModel", "pay", "(IJ)V"⟩, 26) := ⟨⟨by decide +kernel, by decide +kernel⟩, List.mem_of_getElem? (i := 536) (by decide +kernel), List.mem_of_getElem? (i := 764) (by decide +kernel), List.mem_of_getElem? (i := 765) (by decide +kernel)⟩
def lw_privs_3 : List (MethodName × Nat) := [(⟨"TrusteeDeskModel", "lacks", "(II)J"⟩, 26), (⟨"TrusteeDeskModel", "lack", "(II)J"⟩, 26), (⟨"TrusteeDeskModel", "serveAll", "(I)J"⟩, 26), (⟨"TrusteeDeskModel", "serve", "(IJ)V"⟩, 26), (⟨"TrusteeDeskModel", "isAllRealised", "()Z"⟩, 26), (⟨"TrusteeDeskModel", "share", "(IJ)V"⟩, 26), (⟨"TrusteeDeskModel", "takeGreatest", "(I)I"⟩, 26), (⟨"TrusteeDeskModel", "pay", "(IJ)V"⟩, 26)]
theorem lw_r3 : ∀ q ∈ lw_privs_3, lw_okq q := List.forall_mem_cons.mpr ⟨lw_p32, List.forall_mem_cons.mpr ⟨lw_p33, List.forall_mem_cons.mpr ⟨lw_p34, List.forall_mem_cons.mpr ⟨lw_p35, List.forall_mem_cons.mpr ⟨lw_p36, List.forall_mem_cons.mpr ⟨lw_p37, List.forall_mem_cons.mpr ⟨lw_p38, List.forall_mem_cons.mpr ⟨lw_p39, fun _ h => absurd h List.not_mem_nil⟩⟩⟩⟩⟩⟩⟩⟩
def lw_privs : List (MethodName × Nat) := lw_privs_1 ++ (lw_privs_2 ++ (lw_privs_3))
def lw_tbl : List Cond := k2_sels lw_privs ++ tables_1
theorem lw_privs_ok : ∀ q ∈ lw_privs, lw_okq q := by
  show ∀ q ∈ lw_privs_1 ++ (lw_privs_2 ++ (lw_privs_3)), lw_okq q
  exact List.forall_mem_append.mpr ⟨lw_r1, List.forall_mem_append.mpr ⟨lw_r2, lw_r3⟩⟩
end
section
/-! THE MINI MACHINE, pure part: known locals as a list, the operand stack as a list; one function a kind of instruction; each is sound for the machine (W) by the kit's rows. -/
abbrev mm_L : Type := List (Nat × Value)
def mm_get : mm_L → Nat → Option Value
  | [], _ => none
  | (j, v) :: r, i => cond (Nat.beq j i) (some v) (mm_get r i)
def mm_del1 (i : Nat) : mm_L → mm_L
  | [] => []
  | (j, w) :: r => cond (Nat.beq j i || (Nat.beq (j + 1) i && Nat.beq w.category 2)) (mm_del1 i r) ((j, w) :: mm_del1 i r)
def mm_del2 (i : Nat) : mm_L → mm_L
  | [] => []
  | (j, w) :: r => cond (Nat.beq j i || (Nat.beq j (i + 1) || (Nat.beq (j + 1) i && Nat.beq w.category 2))) (mm_del2 i r) ((j, w) :: mm_del2 i r)
theorem mm_beq (a b : Nat) : Nat.beq a b = (a == b) := by
  cases h : Nat.beq a b with
  | true =>
    have e := Nat.eq_of_beq_eq_true h
    subst e
    simp
  | false =>
    have e := Nat.ne_of_beq_eq_false h
    simp [e]
theorem mm_get_mem : ∀ (lv : mm_L) (i : Nat) (v : Value), mm_get lv i = some v → (i, v) ∈ lv
  | [], i, v, h => by cases h
  | (j, w) :: r, i, v, h => by
    unfold mm_get at h
    cases hb : Nat.beq j i with
    | true =>
      rw [hb] at h
      have e : j = i := Nat.eq_of_beq_eq_true hb
      subst e
      cases h
      exact List.mem_cons_self
    | false =>
      rw [hb] at h
      exact List.mem_cons_of_mem _ (mm_get_mem r i v h)
theorem mm_del1_eq (i : Nat) : ∀ lv : mm_L, lv.filter (fun q => !(q.1 == i) && !(q.1 + 1 == i && q.2.category == 2)) = mm_del1 i lv
  | [] => rfl
  | (j, w) :: r => by
    unfold mm_del1
    rw [List.filter_cons, mm_del1_eq i r]
    simp only [mm_beq]
    cases h1 : (j == i) <;> cases h2 : (j + 1 == i && w.category == 2) <;> rfl
theorem mm_del2_eq (i : Nat) : ∀ lv : mm_L, lv.filter (fun q => !(q.1 == i) && (!(q.1 == i + 1) && !(q.1 + 1 == i && q.2.category == 2))) = mm_del2 i lv
  | [] => rfl
  | (j, w) :: r => by
    unfold mm_del2
    rw [List.filter_cons, mm_del2_eq i r]
    simp only [mm_beq]
    cases h1 : (j == i) <;> cases h3 : (j == i + 1) <;> cases h2 : (j + 1 == i && w.category == 2) <;> rfl
def mm_isInt : Value → Option Value
  | .int x => some (.int x)
  | _ => none
def mm_isLong : Value → Option Value
  | .long x => some (.long x)
  | _ => none
def mm_isRef : Value → Option Value
  | .ref x => some (.ref x)
  | _ => none
/-- what a constant or a load pushes -/
def mm_load (lv : mm_L) (i : Instr) (len : Nat) : Option Value :=
  match i, len with
  | .iconst n, 1 => some (.int (Int32.ofInt n))
  | .bipush n, 2 => some (.int (Int8.ofInt n).toInt32)
  | .sipush n, 3 => some (.int (Int16.ofInt n).toInt32)
  | .lconst n, 1 => some (.long (Int64.ofNat (n : Nat)))
  | .iload_n k, 1 => (mm_get lv k).bind mm_isInt
  | .iload k, 2 => (mm_get lv k).bind mm_isInt
  | .lload_n k, 1 => (mm_get lv k).bind mm_isLong
  | .lload k, 2 => (mm_get lv k).bind mm_isLong
  | .aload_n k, 1 => (mm_get lv k).bind mm_isRef
  | .aload k, 2 => (mm_get lv k).bind mm_isRef
  | _, _ => none
/-- stores: the new locals, the stack below -/
def mm_store (nl : Nat) (lv : mm_L) (i : Instr) (len : Nat) (st : List Value) : Option (mm_L × List Value) :=
  match i, len, st with
  | .istore_n k, 1, .int x :: r => cond (Nat.ble ((k : Nat) + 1) nl) (some (((k : Nat), .int x) :: mm_del1 k lv, r)) none
  | .istore k, 2, .int x :: r => cond (Nat.ble (k + 1) nl) (some ((k, .int x) :: mm_del1 k lv, r)) none
  | .lstore_n k, 1, .long x :: r => cond (Nat.ble ((k : Nat) + 2) nl) (some (((k : Nat), .long x) :: mm_del2 k lv, r)) none
  | .lstore k, 2, .long x :: r => cond (Nat.ble (k + 2) nl) (some ((k, .long x) :: mm_del2 k lv, r)) none
  | .astore_n k, 1, .ref x :: r => cond (Nat.ble ((k : Nat) + 1) nl) (some (((k : Nat), .ref x) :: mm_del1 k lv, r)) none
  | .astore k, 2, .ref x :: r => cond (Nat.ble (k + 1) nl) (some ((k, .ref x) :: mm_del1 k lv, r)) none
  | .iinc k n, 3, r => match mm_get lv k with
    | some (.int x) => cond (Nat.ble (k + 1) nl) (some ((k, .int (x + Int32.ofInt n)) :: mm_del1 k lv, r)) none
    | _ => none
  | _, _, _ => none
/-- arithmetic and the operand stack -/
def mm_arith (i : Instr) (len : Nat) (st : List Value) : Option (List Value) :=
  match i, len, st with
  | .iadd, 1, .int y :: .int x :: r => some (.int (x + y) :: r)
  | .isub, 1, .int y :: .int x :: r => some (.int (x - y) :: r)
  | .imul, 1, .int y :: .int x :: r => some (.int (x * y) :: r)
  | .iand, 1, .int y :: .int x :: r => some (.int (x &&& y) :: r)
  | .idiv, 1, .int y :: .int x :: r => if y = 0 then none else some (.int (x / y) :: r)
  | .ladd, 1, .long y :: .long x :: r => some (.long (x + y) :: r)
  | .lsub, 1, .long y :: .long x :: r => some (.long (x - y) :: r)
  | .lmul, 1, .long y :: .long x :: r => some (.long (x * y) :: r)
  | .land, 1, .long y :: .long x :: r => some (.long (x &&& y) :: r)
  | .lor, 1, .long y :: .long x :: r => some (.long (x ||| y) :: r)
  | .ldiv, 1, .long y :: .long x :: r => if y = 0 then none else some (.long (x / y) :: r)
  | .lrem, 1, .long y :: .long x :: r => if y = 0 then none else some (.long (x - x / y * y) :: r)
  | .lcmp, 1, .long y :: .long x :: r => some (.int (lg_cmp x y) :: r)
  | .i2l, 1, .int x :: r => some (.long x.toInt64 :: r)
  | .l2i, 1, .long x :: r => some (.int x.toInt32 :: r)
  | .lshl, 1, .int y :: .long x :: r => some (.long (x <<< (y.toInt64 &&& 63)) :: r)
  | _, _, _ => none
def mm_stack (i : Instr) (len : Nat) (st : List Value) : Option (List Value) :=
  match i, len, st with
  | .dup, 1, a :: r => cond (Nat.beq a.category 1) (some (a :: a :: r)) none
  | .pop, 1, a :: r => cond (Nat.beq a.category 1) (some r) none
  | .dup_x1, 1, a :: b :: r => cond (Nat.beq a.category 1 && Nat.beq b.category 1) (some (a :: b :: a :: r)) none
  | .dup_x2, 1, a :: b :: d :: r => cond (Nat.beq a.category 1 && (Nat.beq b.category 1 && Nat.beq d.category 1)) (some (a :: b :: d :: a :: r)) none
  | .pop2, 1, a :: r => cond (Nat.beq a.category 2) (some r) none
  | .dup2_x1, 1, a :: b :: r => cond (Nat.beq a.category 2 && Nat.beq b.category 1) (some (a :: b :: a :: r)) none
  | .dup2_x2, 1, a :: b :: d :: r => cond (Nat.beq a.category 2 && (Nat.beq b.category 1 && Nat.beq d.category 1)) (some (a :: b :: d :: a :: r)) none
  | .dup2, 1, .int a :: b :: r => cond (Nat.beq b.category 1) (some (.int a :: b :: .int a :: b :: r)) none
  | .dup2, 1, .ref a :: b :: r => cond (Nat.beq b.category 1) (some (.ref a :: b :: .ref a :: b :: r)) none
  | .dup2, 1, .long a :: r => some (.long a :: .long a :: r)
  | _, _, _ => none
def mm_tgt (pc : Nat) (off : Int) : Option Nat := match (pc : Int) + off with
  | .ofNat t => some t
  | .negSucc _ => none
theorem mm_tgt_ok {pc t : Nat} {off : Int} (h : mm_tgt pc off = some t) : (pc : Int) + off = (t : Int) := by
  unfold mm_tgt at h
  split at h
  · rename_i t' e
    cases h
    rw [e]
    rfl
  · cases h
def mm_br (b : Bool) (pc : Nat) (off : Int) (r : List Value) : Option (Nat × List Value) := (mm_tgt pc off).map (fun t => (cond b t (pc + 3), r))
/-- branches: the next pc, the stack below -/
def mm_jump (pc : Nat) (i : Instr) (len : Nat) (st : List Value) : Option (Nat × List Value) :=
  match i, len, st with
  | .goto off, 3, r => (mm_tgt pc off).map (fun t => (t, r))
  | .ifCond .eq off, 3, .int x :: r => mm_br (decide (x = 0)) pc off r
  | .ifCond .ne off, 3, .int x :: r => mm_br (decide (¬ x = 0)) pc off r
  | .ifCond .lt off, 3, .int x :: r => mm_br (decide (x < 0)) pc off r
  | .ifCond .ge off, 3, .int x :: r => mm_br (decide (0 ≤ x)) pc off r
  | .ifCond .gt off, 3, .int x :: r => mm_br (decide (0 < x)) pc off r
  | .ifCond .le off, 3, .int x :: r => mm_br (decide (x ≤ 0)) pc off r
  | .if_icmp .eq off, 3, .int y :: .int x :: r => mm_br (decide (x = y)) pc off r
  | .if_icmp .ne off, 3, .int y :: .int x :: r => mm_br (decide (¬ x = y)) pc off r
  | .if_icmp .lt off, 3, .int y :: .int x :: r => mm_br (decide (x < y)) pc off r
  | .if_icmp .ge off, 3, .int y :: .int x :: r => mm_br (decide (y ≤ x)) pc off r
  | .if_icmp .gt off, 3, .int y :: .int x :: r => mm_br (decide (y < x)) pc off r
  | .if_icmp .le off, 3, .int y :: .int x :: r => mm_br (decide (x ≤ y)) pc off r
  | .if_acmp .eq off, 3, .ref y :: .ref x :: r => mm_br (decide (x = y)) pc off r
  | .if_acmp .ne off, 3, .ref y :: .ref x :: r => mm_br (decide (¬ x = y)) pc off r
  | .tableswitch dflt lo hi offs, _, .int x :: r =>
    if x.toInt < lo ∨ hi < x.toInt then (mm_tgt pc dflt).map (fun t => (t, r)) else (match offs[(x.toInt - lo).toNat]? with | some off => (mm_tgt pc off).map (fun t => (t, r)) | none => none)
  | _, _, _ => none
end
section
theorem mm_cond {α : Type} {b : Bool} {x y : α} (h : cond b (some x) none = some y) : b = true ∧ x = y := by
  cases b with
  | true => exact ⟨rfl, Option.some.inj h⟩
  | false => cases h
theorem mm_getI {lv : mm_L} {k : Nat} {v : Value} (h : (mm_get lv k).bind mm_isInt = some v) : ∃ x, v = .int x ∧ (k, Value.int x) ∈ lv := by
  cases hg : mm_get lv k with
  | none => rw [hg] at h; cases h
  | some w =>
    rw [hg] at h
    cases w with
    | int x => cases h; exact ⟨x, rfl, mm_get_mem _ _ _ hg⟩
    | _ => cases h
theorem mm_getL {lv : mm_L} {k : Nat} {v : Value} (h : (mm_get lv k).bind mm_isLong = some v) : ∃ x, v = .long x ∧ (k, Value.long x) ∈ lv := by
  cases hg : mm_get lv k with
  | none => rw [hg] at h; cases h
  | some w =>
    rw [hg] at h
    cases w with
    | long x => cases h; exact ⟨x, rfl, mm_get_mem _ _ _ hg⟩
    | _ => cases h
theorem mm_getR {lv : mm_L} {k : Nat} {v : Value} (h : (mm_get lv k).bind mm_isRef = some v) : ∃ x, v = .ref x ∧ (k, Value.ref x) ∈ lv := by
  cases hg : mm_get lv k with
  | none => rw [hg] at h; cases h
  | some w =>
    rw [hg] at h
    cases w with
    | ref x => cases h; exact ⟨x, rfl, mm_get_mem _ _ _ hg⟩
    | _ => cases h
theorem mm_br_ok {b : Bool} {pc pc' : Nat} {off : Int} {r st' : List Value} (h : mm_br b pc off r = some (pc', st')) : ∃ t, mm_tgt pc off = some t ∧ cond b t (pc + 3) = pc' ∧ r = st' := by
  unfold mm_br at h
  cases ht : mm_tgt pc off with
  | none => rw [ht] at h; cases h
  | some t => rw [ht] at h; cases h; exact ⟨t, rfl, rfl, rfl⟩
theorem mm_go_ok {pc pc' : Nat} {off : Int} {r st' : List Value} (h : (mm_tgt pc off).map (fun t => (t, r)) = some (pc', st')) : mm_tgt pc off = some pc' ∧ r = st' := by
  cases ht : mm_tgt pc off with
  | none => rw [ht] at h; cases h
  | some t => rw [ht] at h; cases h; exact ⟨rfl, rfl⟩
theorem mm_cat {n k : Nat} (h : Nat.beq n k = true) : n = k := Nat.eq_of_beq_eq_true h
section MMP
variable {p : Program} {l : Launch} {e : Env} {R : Room} {s : State} {m : MethodId} {args : Array Value} {below : List Frame} {meth : Method} {c : Code} {H : Heap} {locs : List Loc} {cells slots : Nat} {Q : State → Prop}
variable {cc : ByteArray} {pc len : Nat} {ls : Array Slot} {st st' : List Value} {i : Instr} {lv lv' : mm_L} {nl : Nat} {v : Value}
set_option maxHeartbeats 4000000 in
theorem mm_load_W (hx : p.tables.exec = Jvm.exec) (hb : c.code = cc) (hl : lv_has ls nl lv) (hd : decode cc pc = .ok (i, len)) (h : mm_load lv i len = some v)
    (k : W p l e R s m args below meth c H locs cells slots Q (F0 m (pc + len) ls (v :: st))) : W p l e R s m args below meth c H locs cells slots Q (F0 m pc ls st) := by
  unfold mm_load at h
  split at h
  · cases h; exact lv_iconst hx hb hd rfl k
  · cases h; exact lv_bipush hx hb hd rfl k
  · cases h; exact lv_sipush hx hb hd rfl k
  · cases h; exact lv_lconst hx hb hd rfl k
  · obtain ⟨x, rfl, hm⟩ := mm_getI h; exact lv_iload_n hx hb hd rfl (hl.2.2 _ hm) k
  · obtain ⟨x, rfl, hm⟩ := mm_getI h; exact lv_iload hx hb hd (hl.2.2 _ hm) k
  · obtain ⟨x, rfl, hm⟩ := mm_getL h; exact lv_lload_n hx hb hd rfl (hl.2.2 _ hm) k
  · obtain ⟨x, rfl, hm⟩ := mm_getL h; exact lv_lload hx hb hd (hl.2.2 _ hm) k
  · obtain ⟨x, rfl, hm⟩ := mm_getR h; exact lv_aload_n hx hb hd rfl (hl.2.2 _ hm) k
  · obtain ⟨x, rfl, hm⟩ := mm_getR h; exact lv_aload hx hb hd (hl.2.2 _ hm) k
  · cases h
set_option maxHeartbeats 4000000 in
theorem mm_store_W (hx : p.tables.exec = Jvm.exec) (hb : c.code = cc) (hl : lv_has ls nl lv) (hd : decode cc pc = .ok (i, len)) (h : mm_store nl lv i len st = some (lv', st'))
    (k : ∀ ls' : Array Slot, lv_has ls' nl lv' → W p l e R s m args below meth c H locs cells slots Q (F0 m (pc + len) ls' st')) : W p l e R s m args below meth c H locs cells slots Q (F0 m pc ls st) := by
  unfold mm_store at h
  split at h
  · obtain ⟨h1, h2⟩ := mm_cond h; cases h2; exact lv_istore_n hx hb hd rfl hl (Nat.le_of_ble_eq_true h1) (by rw [mm_del1_eq]) k
  · obtain ⟨h1, h2⟩ := mm_cond h; cases h2; exact lv_istore hx hb hd hl (Nat.le_of_ble_eq_true h1) (by rw [mm_del1_eq]) k
  · obtain ⟨h1, h2⟩ := mm_cond h; cases h2; exact lv_lstore_n hx hb hd rfl hl (Nat.le_of_ble_eq_true h1) (by rw [mm_del2_eq]) k
  · obtain ⟨h1, h2⟩ := mm_cond h; cases h2; exact lv_lstore hx hb hd hl (Nat.le_of_ble_eq_true h1) (by rw [mm_del2_eq]) k
  · obtain ⟨h1, h2⟩ := mm_cond h; cases h2; exact lv_astore_n hx hb hd rfl hl (Nat.le_of_ble_eq_true h1) (by rw [mm_del1_eq]) k
  · obtain ⟨h1, h2⟩ := mm_cond h; cases h2; exact lv_astore hx hb hd hl (Nat.le_of_ble_eq_true h1) (by rw [mm_del1_eq]) k
  · split at h
    · rename_i hg
      obtain ⟨h1, h2⟩ := mm_cond h
      cases h2
      obtain ⟨q, hq⟩ := List.getElem?_of_mem (mm_get_mem _ _ _ hg)
      exact lv_iinc hx hb hd hl hq rfl (Nat.le_of_ble_eq_true h1) (by rw [mm_del1_eq]) k
    · cases h
  · cases h
set_option maxHeartbeats 4000000 in
theorem mm_arith_W (hx : p.tables.exec = Jvm.exec) (hb : c.code = cc) (hd : decode cc pc = .ok (i, len)) (h : mm_arith i len st = some st')
    (k : W p l e R s m args below meth c H locs cells slots Q (F0 m (pc + len) ls st')) : W p l e R s m args below meth c H locs cells slots Q (F0 m pc ls st) := by
  unfold mm_arith at h
  split at h
  · cases h; exact lv_iadd hx hb hd k
  · cases h; exact lv_isub hx hb hd k
  · cases h; exact lv_imul hx hb hd k
  · cases h; exact lv_iand hx hb hd k
  · split at h
    · cases h
    · rename_i hne; cases h; exact lv_idiv hx hb hd hne k
  · cases h; exact lv_ladd hx hb hd k
  · cases h; exact lv_lsub hx hb hd k
  · cases h; exact lv_lmul hx hb hd k
  · cases h; exact lv_land hx hb hd k
  · cases h; exact lv_lor hx hb hd k
  · split at h
    · cases h
    · rename_i hne; cases h; exact lv_ldiv hx hb hd hne k
  · split at h
    · cases h
    · rename_i hne; cases h; exact lv_lrem hx hb hd hne k
  · cases h; exact W.lcmp hx hb hd k
  · cases h; exact lv_i2l hx hb hd rfl k
  · cases h; exact lv_l2i hx hb hd rfl k
  · cases h; exact lv_lshl hx hb hd rfl k
  · cases h
set_option maxHeartbeats 4000000 in
theorem mm_stack_W (hx : p.tables.exec = Jvm.exec) (hb : c.code = cc) (hd : decode cc pc = .ok (i, len)) (h : mm_stack i len st = some st')
    (k : W p l e R s m args below meth c H locs cells slots Q (F0 m (pc + len) ls st')) : W p l e R s m args below meth c H locs cells slots Q (F0 m pc ls st) := by
  unfold mm_stack at h
  split at h
  · obtain ⟨h1, h2⟩ := mm_cond h; cases h2; exact lv_dup hx hb hd (mm_cat h1) k
  · obtain ⟨h1, h2⟩ := mm_cond h; cases h2; exact lv_pop hx hb hd (mm_cat h1) k
  · obtain ⟨h1, h2⟩ := mm_cond h; cases h2; rw [Bool.and_eq_true] at h1; exact lv_dup_x1 hx hb hd (mm_cat h1.1) (mm_cat h1.2) k
  · obtain ⟨h1, h2⟩ := mm_cond h; cases h2; rw [Bool.and_eq_true, Bool.and_eq_true] at h1; exact lv_dup_x2 hx hb hd (mm_cat h1.1) (mm_cat h1.2.1) (mm_cat h1.2.2) k
  · obtain ⟨h1, h2⟩ := mm_cond h; cases h2; exact lv_pop2_2 hx hb hd (mm_cat h1) k
  · obtain ⟨h1, h2⟩ := mm_cond h; cases h2; rw [Bool.and_eq_true] at h1; exact lv_dup2_x1_2 hx hb hd (mm_cat h1.1) (mm_cat h1.2) k
  · obtain ⟨h1, h2⟩ := mm_cond h; cases h2; rw [Bool.and_eq_true, Bool.and_eq_true] at h1; exact lv_dup2_x2_2 hx hb hd (mm_cat h1.1) (mm_cat h1.2.1) (mm_cat h1.2.2) k
  · obtain ⟨h1, h2⟩ := mm_cond h; cases h2; exact lv_dup2_11 hx hb hd rfl (mm_cat h1) k
  · obtain ⟨h1, h2⟩ := mm_cond h; cases h2; exact lv_dup2_11 hx hb hd rfl (mm_cat h1) k
  · cases h; exact lv_dup2_2 hx hb hd rfl k
  · cases h
set_option maxHeartbeats 8000000 in
theorem mm_jump_W {pc' : Nat} (hx : p.tables.exec = Jvm.exec) (hb : c.code = cc) (hd : decode cc pc = .ok (i, len)) (h : mm_jump pc i len st = some (pc', st'))
    (k : W p l e R s m args below meth c H locs cells slots Q (F0 m pc' ls st')) : W p l e R s m args below meth c H locs cells slots Q (F0 m pc ls st) := by
  unfold mm_jump at h
  split at h
  · obtain ⟨h1, rfl⟩ := mm_go_ok h; exact lv_goto hx hb hd (mm_tgt_ok h1) k
  · obtain ⟨t, ht, rfl, rfl⟩ := mm_br_ok h; exact lv_if_eq hx hb hd (mm_tgt_ok ht) (fun q => by rw [decide_eq_true q] at k; exact k) (fun q => by rw [decide_eq_false q] at k; exact k)
  · obtain ⟨t, ht, rfl, rfl⟩ := mm_br_ok h; exact lv_if_ne hx hb hd (mm_tgt_ok ht) (fun q => by rw [decide_eq_true q] at k; exact k) (fun q => by rw [decide_eq_false (fun z => z q)] at k; exact k)
  · obtain ⟨t, ht, rfl, rfl⟩ := mm_br_ok h; exact lv_if_lt hx hb hd (mm_tgt_ok ht) (fun q => by rw [decide_eq_true q] at k; exact k) (fun q => by rw [decide_eq_false q] at k; exact k)
  · obtain ⟨t, ht, rfl, rfl⟩ := mm_br_ok h; exact lv_if_ge hx hb hd (mm_tgt_ok ht) (fun q => by rw [decide_eq_true q] at k; exact k) (fun q => by rw [decide_eq_false q] at k; exact k)
  · obtain ⟨t, ht, rfl, rfl⟩ := mm_br_ok h; exact lv_if_gt hx hb hd (mm_tgt_ok ht) (fun q => by rw [decide_eq_true q] at k; exact k) (fun q => by rw [decide_eq_false q] at k; exact k)
  · obtain ⟨t, ht, rfl, rfl⟩ := mm_br_ok h; exact lv_if_le hx hb hd (mm_tgt_ok ht) (fun q => by rw [decide_eq_true q] at k; exact k) (fun q => by rw [decide_eq_false q] at k; exact k)
  · obtain ⟨t, ht, rfl, rfl⟩ := mm_br_ok h; exact lv_icmp_eq hx hb hd (mm_tgt_ok ht) (fun q => by rw [decide_eq_true q] at k; exact k) (fun q => by rw [decide_eq_false q] at k; exact k)
  · obtain ⟨t, ht, rfl, rfl⟩ := mm_br_ok h; exact lv_icmp_ne hx hb hd (mm_tgt_ok ht) (fun q => by rw [decide_eq_true q] at k; exact k) (fun q => by rw [decide_eq_false (fun z => z q)] at k; exact k)
  · obtain ⟨t, ht, rfl, rfl⟩ := mm_br_ok h; exact lv_icmp_lt hx hb hd (mm_tgt_ok ht) (fun q => by rw [decide_eq_true q] at k; exact k) (fun q => by rw [decide_eq_false q] at k; exact k)
  · obtain ⟨t, ht, rfl, rfl⟩ := mm_br_ok h; exact lv_icmp_ge hx hb hd (mm_tgt_ok ht) (fun q => by rw [decide_eq_true q] at k; exact k) (fun q => by rw [decide_eq_false q] at k; exact k)
  · obtain ⟨t, ht, rfl, rfl⟩ := mm_br_ok h; exact lv_icmp_gt hx hb hd (mm_tgt_ok ht) (fun q => by rw [decide_eq_true q] at k; exact k) (fun q => by rw [decide_eq_false q] at k; exact k)
  · obtain ⟨t, ht, rfl, rfl⟩ := mm_br_ok h; exact lv_icmp_le hx hb hd (mm_tgt_ok ht) (fun q => by rw [decide_eq_true q] at k; exact k) (fun q => by rw [decide_eq_false q] at k; exact k)
  · rename_i y x r
    obtain ⟨t, ht, rfl, rfl⟩ := mm_br_ok h; exact lv_acmp_eq (rx := some x) (ry := some y) hx hb hd (mm_tgt_ok ht) (fun q => by rw [decide_eq_true (Option.some.inj q)] at k; exact k) (fun q => by rw [decide_eq_false (fun z => q (by rw [z]))] at k; exact k)
  · rename_i y x r
    obtain ⟨t, ht, rfl, rfl⟩ := mm_br_ok h; exact lv_acmp_ne (rx := some x) (ry := some y) hx hb hd (mm_tgt_ok ht) (fun q => by rw [decide_eq_true (show ¬ x = y from fun z => q (by rw [z]))] at k; exact k) (fun q => by rw [decide_eq_false (show ¬ ¬ x = y from fun z => z (Option.some.inj q))] at k; exact k)
  · split at h
    · rename_i hc
      obtain ⟨h1, rfl⟩ := mm_go_ok h
      exact lv_tableOut hx hb hd hc (mm_tgt_ok h1) k
    · rename_i hc
      split at h
      · rename_i ho
        obtain ⟨h1, rfl⟩ := mm_go_ok h
        exact lv_tableIn hx hb hd (fun q => hc (Or.inl q)) (fun q => hc (Or.inr q)) ho (mm_tgt_ok h1) k
      · cases h
  · cases h
end MMP
end
section
/-! THE MINI MACHINE's heap: a partial function from addresses to cells (object: number of its class, fields; array: number of its kind, length, contents), and how it lies in the machine's heap. -/
abbrev mm_C : Type := (Nat × List Value) ⊕ (Nat × Nat × (Nat → Value))
/-- its size; how many cells and slots may still be made; the cells -/
abbrev mm_H : Type := Nat × (Nat × Nat) × (Nat → Option mm_C)
def mm_ty : Nat → FieldType
  | 0 => .int
  | 1 => .long
  | 2 => .boolean
  | 3 => .object "TrusteeDesk$Claim"
  | 4 => .object "TrusteeDesk$Asset"
  | _ => .int
def mm_scr (c : mm_C) : Bool := match c with
  | .inl _ => false
  | .inr q => Nat.beq q.1 5
def mm_upd (h : mm_H) (a : Nat) (c : mm_C) : mm_H := (h.1, h.2.1, fun q => cond (Nat.beq q a) (some c) (h.2.2 q))
def mm_push (h : mm_H) (n : Nat) (c : mm_C) : mm_H := (h.1 + 1, (h.2.1.1 - 1, h.2.1.2 - n), fun q => cond (Nat.beq q h.1) (some c) (h.2.2 q))
def mm_at (D : va_G) (aC : Nat → ClassId) (cl : List vw_C) (a : Nat) (c : mm_C) (H : Heap) : Prop := match c with
  | .inl o => ∃ r : vw_C, cl[o.1]? = some r ∧ t_OB a (D.1 o.1) r.2.2 (D.2 o.1) H (vp_V o.2)
  | .inr q => ∃ cell : Cell, H[a]? = some cell ∧ cell.cls = aC q.1 ∧ cell.vm ≠ .unknown ∧ (∀ k, cell.vm ≠ .statics k) ∧ cell.slots.size = q.2.1 ∧ ∀ j : Nat, j < q.2.1 → cell.slots[j]? = some (q.2.2 j)
def mm_emb (D : va_G) (aC : Nat → ClassId) (cl : List vw_C) (H0 : Heap) (h : mm_H) (H : Heap) : Prop :=
  H.size = h.1 ∧ (∀ (a : Nat) (c : mm_C), h.2.2 a = some c → mm_at D aC cl a c H ∧ (mm_scr c = false → H0.size ≤ a)) ∧ (∀ q : Nat, H0.size ≤ q → ∀ cell : Cell, H[q]? = some cell → cell.vm.isStatics = false) ∧ H0.size ≤ h.1 ∧ ∀ q : Nat, q < H0.size → H[q]? = H0[q]?
/-- what the tables say of the classes and of the array classes -/
def mm_Kn (D : va_G) (aC : Nat → ClassId) (cl : List vw_C) (U : State) : Prop :=
  (∀ (c : Nat) (q : vw_C), cl[c]? = some q → u_Kn U q.1 q.2.1 q.2.2 (D.1 c) (D.2 c)) ∧ (∀ t : Nat, t < 6 → ∃ (k : Class) (comp : ClassId), U.vm.classes[aC t]? = some k ∧ k.kind = .array comp (mm_ty t)) ∧ ∀ t : Nat, t < 5 → va_RA U (aC t) (mm_ty t)
theorem mm_Kn.moved {D : va_G} {aC : Nat → ClassId} {cl : List vw_C} {u U : State} (hvm : u.vm.Alike U.vm) (h : mm_Kn D aC cl u) : mm_Kn D aC cl U := by
  refine ⟨fun c q hq => u_Kn_moved hvm (h.1 c q hq), fun t ht => ?_, fun t ht => (h.2.2 t ht).moved hvm⟩
  obtain ⟨k, comp, h1, h2⟩ := h.2.1 t ht
  obtain ⟨k', hk', he⟩ := hvm.2.2 _ _ h1
  exact ⟨k', comp, hk', by rw [he]; exact h2⟩
theorem mm_beq_ne {a b : Nat} (h : a ≠ b) : Nat.beq a b = false := by
  cases hb : Nat.beq a b with
  | false => rfl
  | true => exact absurd (Nat.eq_of_beq_eq_true hb) h
theorem mm_beq_self (a : Nat) : Nat.beq a a = true := Nat.beq_refl a
theorem mm_upd_self (h : mm_H) (a : Nat) (c : mm_C) : (mm_upd h a c).2.2 a = some c := by
  show cond (Nat.beq a a) (some c) (h.2.2 a) = some c
  rw [mm_beq_self]; rfl
theorem mm_upd_ne (h : mm_H) {a q : Nat} (c : mm_C) (hq : q ≠ a) : (mm_upd h a c).2.2 q = h.2.2 q := by
  show cond (Nat.beq q a) (some c) (h.2.2 q) = h.2.2 q
  rw [mm_beq_ne hq]; rfl
theorem mm_push_self (h : mm_H) (n : Nat) (c : mm_C) : (mm_push h n c).2.2 h.1 = some c := by
  show cond (Nat.beq h.1 h.1) (some c) (h.2.2 h.1) = some c
  rw [mm_beq_self]; rfl
theorem mm_push_ne (h : mm_H) (n : Nat) {q : Nat} (c : mm_C) (hq : q ≠ h.1) : (mm_push h n c).2.2 q = h.2.2 q := by
  show cond (Nat.beq q h.1) (some c) (h.2.2 q) = h.2.2 q
  rw [mm_beq_ne hq]; rfl
section MMH
variable {D : va_G} {aC : Nat → ClassId} {cl : List vw_C} {H0 : Heap} {h : mm_H} {H H1 : Heap} {a : Nat} {c0 : mm_C}
theorem mm_at.kept (ha : mm_at D aC cl a c0 H) (hq : H1[a]? = H[a]?) : mm_at D aC cl a c0 H1 := by
  cases c0 with
  | inl o =>
    obtain ⟨r, h1, h2⟩ := ha
    exact ⟨r, h1, h2.kept hq⟩
  | inr q =>
    obtain ⟨cell, h1, h2⟩ := ha
    exact ⟨cell, by rw [hq]; exact h1, h2⟩
theorem mm_at.lt (ha : mm_at D aC cl a c0 H) : a < H.size := by
  cases c0 with
  | inl o =>
    obtain ⟨r, h1, cell, h2, -⟩ := ha
    exact (Array.getElem?_eq_some_iff.mp h2).1
  | inr q =>
    obtain ⟨cell, h1, h2⟩ := ha
    exact (Array.getElem?_eq_some_iff.mp h1).1
theorem mm_emb.lt (hE : mm_emb D aC cl H0 h H) (ha : h.2.2 a = some c0) : a < h.1 := by
  rw [← hE.1]
  exact (hE.2.1 a c0 ha).1.lt
theorem mm_emb.upd (hE : mm_emb D aC cl H0 h H) (hs : H1.size = H.size) (ho : ∀ q : Nat, q ≠ a → H1[q]? = H[q]?) (hat : mm_at D aC cl a c0 H1) (hB : H0.size ≤ a)
    (hst : ∀ cell : Cell, H1[a]? = some cell → cell.vm.isStatics = false) : mm_emb D aC cl H0 (mm_upd h a c0) H1 := by
  refine ⟨by rw [hs]; exact hE.1, fun q c hq => ?_, fun q hq cell hc => ?_, hE.2.2.2.1, fun q hq => ?_⟩
  · by_cases e : q = a
    · subst e
      rw [mm_upd_self] at hq
      cases hq
      exact ⟨hat, fun _ => hB⟩
    · rw [mm_upd_ne _ _ e] at hq
      obtain ⟨g1, g2⟩ := hE.2.1 q c hq
      exact ⟨g1.kept (ho q e), g2⟩
  · by_cases e : q = a
    · subst e
      exact hst cell hc
    · rw [ho q e] at hc
      exact hE.2.2.1 q hq cell hc
  · rw [ho q (by omega)]
    exact hE.2.2.2.2 q hq
theorem mm_emb.push {n : Nat} (hE : mm_emb D aC cl H0 h H) (hs : H1.size = h.1 + 1) (ho : ∀ q : Nat, q < h.1 → H1[q]? = H[q]?) (hat : mm_at D aC cl h.1 c0 H1)
    (hst : ∀ cell : Cell, H1[h.1]? = some cell → cell.vm.isStatics = false) : mm_emb D aC cl H0 (mm_push h n c0) H1 := by
  have hB := hE.2.2.2.1
  refine ⟨hs, fun q c hq => ?_, fun q hq cell hc => ?_, Nat.le_succ_of_le hB, fun q hq => by rw [ho q (by omega)]; exact hE.2.2.2.2 q hq⟩
  · by_cases e : q = h.1
    · subst e
      rw [mm_push_self] at hq
      cases hq
      exact ⟨hat, fun _ => hB⟩
    · rw [mm_push_ne _ _ _ e] at hq
      obtain ⟨g1, g2⟩ := hE.2.1 q c hq
      exact ⟨g1.kept (ho q (hE.lt hq)), g2⟩
  · have hlt : q < h.1 + 1 := by rw [← hs]; exact (Array.getElem?_eq_some_iff.mp hc).1
    by_cases e : q = h.1
    · subst e
      exact hst cell hc
    · rw [ho q (by omega)] at hc
      exact hE.2.2.1 q hq cell hc
end MMH
/-- an index in range -/
def mm_idx (j : Int32) (n : Nat) : Option Nat := if j < 0 ∨ n ≤ j.toNatClampNeg then none else some j.toNatClampNeg
theorem mm_idx_ok {j : Int32} {n q : Nat} (h : mm_idx j n = some q) : ¬ (j < 0 ∨ n ≤ j.toNatClampNeg) ∧ j.toNatClampNeg = q := by
  unfold mm_idx at h
  split at h
  · cases h
  · rename_i hc; cases h; exact ⟨hc, rfl⟩
theorem mm_idx_nI {i n : Nat} (h : i < n) (hn : n < 2 ^ 31) : mm_idx (nI i) n = some i := by
  unfold mm_idx
  rw [if_neg (nI_in h hn), nI_clamp (by omega)]
def mm_fit (ty : FieldType) (v : Value) : Bool := match ty, v with
  | .int, .int _ => true
  | .long, .long _ => true
  | .boolean, .int x => x == 0 || x == 1
  | .object _, .ref _ => true
  | .array _, .ref _ => true
  | _, _ => false
theorem mm_bool1 {x : Int32} (h : (x == 0 || x == 1) = true) : x &&& 1 = x := by
  simp only [Bool.or_eq_true, beq_iff_eq] at h
  rcases h with rfl | rfl <;> decide
theorem mm_fit_ok {ty : FieldType} {v : Value} (h : mm_fit ty v = true) : narrow ty v = v ∧ fits ty v = true := by
  unfold mm_fit at h
  split at h
  · exact ⟨rfl, rfl⟩
  · exact ⟨rfl, rfl⟩
  · refine ⟨?_, h⟩
    show Value.int (_ &&& 1) = _
    rw [mm_bool1 h]
  · exact ⟨rfl, rfl⟩
  · exact ⟨rfl, rfl⟩
  · cases h
end
section
theorem mm_cond2 {α : Type} {b : Bool} {x : Option α} {y : α} (h : cond b x none = some y) : b = true ∧ x = some y := by
  cases b with
  | true => exact ⟨rfl, h⟩
  | false => cases h
section MMM
variable {p : Program} {l : Launch} {e : Env} {R : Room} {s : State} {m : MethodId} {args : Array Value} {below : List Frame} {meth : Method} {c : Code} {H : Heap} {locs : List Loc} {cells slots : Nat} {Q : State → Prop}
variable {cc : ByteArray} {pc : Nat} {ls : Array Slot} {rest : List Value} {D : va_G} {aC : Nat → ClassId} {cl : List vw_C} {H0 : Heap} {h : mm_H} {a : Nat} {Ts : List Cond}
theorem mm_getf_W (hx : p.tables.exec = Jvm.exec) (hb : c.code = cc) (hts : ∀ w ∈ Ts, w.before args s = true) {own : String} (hown : s.vm.findClass own = some m.cls) (hK : mm_Kn D aC cl s) (hE : mm_emb D aC cl H0 h H)
    {C : String} {T : u_T} {N ci k idx : Nat} (hc : cl[ci]? = some (C, T, N)) (hin : ∀ w ∈ u_ws C T N, w ∈ Ts) (hk : k < N) (hlink : Cond.fieldLink own idx (T k).1 (T k).2.1 (T k).2.2.1 ∈ Ts)
    {fs : List Value} {v : Value} (ha : h.2.2 a = some (.inl (ci, fs))) (hv : fs[k]? = some v) (hd : decode cc pc = .ok (.getfield idx, 3))
    (kk : W p l e R s m args below meth c H locs cells slots Q (F0 m (pc + 3) ls (v :: rest))) : W p l e R s m args below meth c H locs cells slots Q (F0 m pc ls (.ref a :: rest)) := by
  obtain ⟨⟨r, h1, cell, q1, q2, q3, q4⟩, -⟩ := hE.2.1 a _ ha
  have hr : r = (C, T, N) := Option.some.inj (h1.symm.trans hc)
  subst hr
  obtain ⟨hS, hfc, kC, hkC, hkind⟩ := hK.1 ci _ hc
  obtain ⟨cf, kf, fi, f, hi, hsl⟩ := hS k hk
  refine W.getf hx hb hown (hts _ hlink) hi (u_facts hfc hkC (u_lays hts hin hk) hi).1 q1 (by rw [q3]; exact fun h => by cases h) (v := v) ?_ rfl rfl hd kk
  rw [hsl, q4 k hk]
  simp [vp_V, hv]
theorem mm_apart (hts : ∀ w ∈ Ts, w.before args s = true) {C : String} {T : u_T} {N ci : Nat} (hin : ∀ w ∈ u_ws C T N, w ∈ Ts) (ty : Nat → FieldType) (hty : ∀ k, k < N → parseFieldDescriptor (T k).2.2.1 = some (ty k))
    (hnm : ∀ a, a < N → ∀ b, b < N → a ≠ b → (T a).2.1 ≠ (T b).2.1) (hK : mm_Kn D aC cl s) (hc : cl[ci]? = some (C, T, N)) : ∀ x y, x < N → y < N → x ≠ y → (D.2 ci) x ≠ (D.2 ci) y := by
  intro x y hx hy hne
  obtain ⟨hS, -⟩ := hK.1 ci _ hc
  obtain ⟨_, _, _, fa, hia, ea⟩ := hS x hx
  obtain ⟨_, _, _, fb, hib, eb⟩ := hS y hy
  rw [← ea, ← eb]
  refine u_apart (u_lays hts hin hx) (u_lays hts hin hy) hia hib ?_
  rw [(State.fieldFound?_type hia (hty x hx)).1, (State.fieldFound?_type hib (hty y hy)).1]
  exact hnm x hx y hy hne
/-- putfield: not final, or final in its class's own constructor -/
theorem mm_putf_W (hx : p.tables.exec = Jvm.exec) (hb : c.code = cc) (hts : ∀ w ∈ Ts, w.before args s = true) {own : String} (hown : s.vm.findClass own = some m.cls) (hK : mm_Kn D aC cl s) (hE : mm_emb D aC cl H0 h H)
    {C : String} {T : u_T} {N ci k idx : Nat} (hc : cl[ci]? = some (C, T, N)) (hin : ∀ w ∈ u_ws C T N, w ∈ Ts) (ty : Nat → FieldType) (hty : ∀ k, k < N → parseFieldDescriptor (T k).2.2.1 = some (ty k))
    (hnm : ∀ a, a < N → ∀ b, b < N → a ≠ b → (T a).2.1 ≠ (T b).2.1) (hk : k < N) (hlink : Cond.fieldLink own idx (T k).1 (T k).2.1 (T k).2.2.1 ∈ Ts) (hfin : (T k).2.2.2 = true → meth.name = "<init>" ∧ (T k).1 = own)
    {fs : List Value} {v : Value} (ha : h.2.2 a = some (.inl (ci, fs))) (hl : k < fs.length) (hf : mm_fit (ty k) v = true) (hd : decode cc pc = .ok (.putfield idx, 3))
    (kk : ∀ (H1 : Heap) (L : List Loc), mm_emb D aC cl H0 (mm_upd h a (.inl (ci, fs.set k v))) H1 → (∀ q ∈ L, H0.size ≤ q.base) → W p l e R s m args below meth c H1 (locs ++ L) cells slots Q (F0 m (pc + 3) ls rest)) :
    W p l e R s m args below meth c H locs cells slots Q (F0 m pc ls (v :: .ref a :: rest)) := by
  have hap := mm_apart hts hin ty hty hnm hK hc
  obtain ⟨⟨r, h1, cell, q1, q2, q3, q4⟩, hB⟩ := hE.2.1 a _ ha
  have hr : r = (C, T, N) := Option.some.inj (h1.symm.trans hc)
  subst hr
  obtain ⟨hS, hfc, kC, hkC, hkind⟩ := hK.1 ci _ hc
  obtain ⟨cf, kf, fi, f, hi, hsl⟩ := hS k hk
  have hst := (u_facts hfc hkC (u_lays hts hin hk) hi).1
  obtain ⟨hn, hfit⟩ := mm_fit_ok hf
  have key : ∀ H' : Heap, H'[a]? = some (cell.setSlot f.slot v) → H'.size = H.size → (∀ q : Nat, q ≠ a → H'[q]? = H[q]?) → mm_emb D aC cl H0 (mm_upd h a (.inl (ci, fs.set k v))) H' := by
    intro H' e1 e2 e3
    rw [hsl] at e1
    refine hE.upd e2 e3 ⟨_, hc, t_OB.to (V := updV (vp_V fs) k v) ⟨_, e1, q2, q3, t_set q4 hap hk v⟩ (fun j _ => vp_updV_set hl v j)⟩ (hB rfl) (fun cell' hc' => ?_)
    rw [e1] at hc'
    cases hc'
    show cell.vm.isStatics = false
    rw [q3]
    rfl
  cases hfl : (T k).2.2.2 with
  | false =>
    have hlay := hts _ (hin _ (u_in_lay hk))
    unfold u_lay at hlay
    rw [if_neg (by rw [hfl]; decide)] at hlay
    have h6 := u_store hfc hkC hkind hlay hi (hty k hk) hn hfit
    refine W.putK hx hb (f := f) ⟨hown, hts _ hlink, ⟨_, _, _, hi⟩, hst⟩ (by rw [q2]; exact h6) q1 q3 (by rw [hsl]; exact k2_hasslot (q4 k hk)) rfl rfl hd fun H' e1 e2 e3 => ?_
    exact kk H' _ (key H' e1 e2 e3) (fun q hq => by rw [List.mem_singleton.mp hq]; exact hB rfl)
  | true =>
    obtain ⟨hin2, hdecl⟩ := hfin hfl
    have hlay := hts _ (hin _ (u_in_lay hk))
    unfold u_lay at hlay
    rw [if_pos hfl] at hlay
    have hcf : m.cls = cf := by
      obtain ⟨_, _, c', _, _, _, -, -, hf', -, -, -, hown2, -⟩ := Cond.laysFinal_spec hlay
      have e1 : c' = cf := by have := hi.symm.trans hf'; simp at this; exact this.1.symm
      rw [hdecl] at hown2
      rw [← e1]; exact Option.some.inj (hown.symm.trans hown2)
    have h6 := u_fits hfc hkC hkind (Or.inr hlay) hi (hty k hk) hn hfit
    refine W.putFinK hx hb hown (hts _ hlink) hi hst hcf hin2 (by rw [q2]; exact h6) q1 q3 (by rw [hsl]; exact k2_hasslot (q4 k hk)) rfl rfl hd fun H' e1 e2 e3 => ?_
    exact kk H' _ (key H' e1 e2 e3) (fun q hq => by rw [List.mem_singleton.mp hq]; exact hB rfl)
theorem mm_arrOf (hK : mm_Kn D aC cl s) {t n : Nat} {f : Nat → Value} (ht : t < 6) {cell : Cell} (h2 : cell.cls = aC t) (h4 : ∀ k, cell.vm ≠ .statics k) : s.isArrayOf cell (mm_ty t) := by
  obtain ⟨k, comp, g1, g2⟩ := hK.2.1 t ht
  exact ⟨h4, k, by rw [h2]; exact g1, comp, g2⟩
/-- array loads and the length -/
def mm_rd (h : mm_H) (i : Instr) (len : Nat) (st : List Value) : Option (List Value) :=
  match i, len, st with
  | .iaload, 1, .int j :: .ref a :: r => match h.2.2 a with
    | some (.inr (0, n, f)) => (mm_idx j n).map (fun q => f q :: r)
    | some (.inr (5, n, f)) => (mm_idx j n).map (fun q => f q :: r)
    | _ => none
  | .laload, 1, .int j :: .ref a :: r => match h.2.2 a with
    | some (.inr (1, n, f)) => (mm_idx j n).map (fun q => f q :: r)
    | _ => none
  | .baload, 1, .int j :: .ref a :: r => match h.2.2 a with
    | some (.inr (2, n, f)) => (mm_idx j n).map (fun q => f q :: r)
    | _ => none
  | .aaload, 1, .int j :: .ref a :: r => match h.2.2 a with
    | some (.inr (3, n, f)) => (mm_idx j n).map (fun q => f q :: r)
    | some (.inr (4, n, f)) => (mm_idx j n).map (fun q => f q :: r)
    | _ => none
  | .arraylength, 1, .ref a :: r => match h.2.2 a with
    | some (.inr (0, n, _)) => some (.int (Int32.ofNat n) :: r)
    | some (.inr (1, n, _)) => some (.int (Int32.ofNat n) :: r)
    | some (.inr (5, n, _)) => some (.int (Int32.ofNat n) :: r)
    | _ => none
  | _, _, _ => none
theorem mm_rd_ok {n : Nat} {f : Nat → Value} {j : Int32} {r st' : List Value} (h : (mm_idx j n).map (fun q => f q :: r) = some st') : ∃ q, mm_idx j n = some q ∧ f q :: r = st' := by
  cases hi : mm_idx j n with
  | none => rw [hi] at h; cases h
  | some q => rw [hi] at h; exact ⟨q, rfl, Option.some.inj h⟩
set_option maxHeartbeats 4000000 in
theorem mm_rd_W {i : Instr} {len : Nat} {st st' : List Value} (hx : p.tables.exec = Jvm.exec) (hb : c.code = cc) (hK : mm_Kn D aC cl s) (hE : mm_emb D aC cl H0 h H) (hd : decode cc pc = .ok (i, len)) (hr : mm_rd h i len st = some st')
    (kk : W p l e R s m args below meth c H locs cells slots Q (F0 m (pc + len) ls st')) : W p l e R s m args below meth c H locs cells slots Q (F0 m pc ls st) := by
  unfold mm_rd at hr
  split at hr
  · split at hr
    · rename_i n f ha
      obtain ⟨q, hq, rfl⟩ := mm_rd_ok hr
      obtain ⟨g1, rfl⟩ := mm_idx_ok hq
      obtain ⟨⟨cell, c1, c2, c3, c4, c5, c6⟩, -⟩ := hE.2.1 _ _ ha
      exact W.iald hx hb c1 (mm_arrOf (n := n) (f := f) hK (t := 0) (by omega) c2 c4) c3 (by rw [c5]; exact g1) (c6 _ (Nat.not_le.mp fun z => g1 (Or.inr z))) rfl rfl hd kk
    · rename_i n f ha
      obtain ⟨q, hq, rfl⟩ := mm_rd_ok hr
      obtain ⟨g1, rfl⟩ := mm_idx_ok hq
      obtain ⟨⟨cell, c1, c2, c3, c4, c5, c6⟩, -⟩ := hE.2.1 _ _ ha
      exact W.iald hx hb c1 (mm_arrOf (n := n) (f := f) hK (t := 5) (by omega) c2 c4) c3 (by rw [c5]; exact g1) (c6 _ (Nat.not_le.mp fun z => g1 (Or.inr z))) rfl rfl hd kk
    · cases hr
  · split at hr
    · rename_i n f ha
      obtain ⟨q, hq, rfl⟩ := mm_rd_ok hr
      obtain ⟨g1, rfl⟩ := mm_idx_ok hq
      obtain ⟨⟨cell, c1, c2, c3, c4, c5, c6⟩, -⟩ := hE.2.1 _ _ ha
      exact W.lald hx hb c1 (mm_arrOf (n := n) (f := f) hK (t := 1) (by omega) c2 c4) c3 (by rw [c5]; exact g1) (c6 _ (Nat.not_le.mp fun z => g1 (Or.inr z))) rfl rfl hd kk
    · cases hr
  · split at hr
    · rename_i n f ha
      obtain ⟨q, hq, rfl⟩ := mm_rd_ok hr
      obtain ⟨g1, rfl⟩ := mm_idx_ok hq
      obtain ⟨⟨cell, c1, c2, c3, c4, c5, c6⟩, -⟩ := hE.2.1 _ _ ha
      exact W.zald hx hb c1 (mm_arrOf (n := n) (f := f) hK (t := 2) (by omega) c2 c4) c3 (by rw [c5]; exact g1) (c6 _ (Nat.not_le.mp fun z => g1 (Or.inr z))) rfl rfl hd kk
    · cases hr
  · split at hr
    · rename_i n f ha
      obtain ⟨q, hq, rfl⟩ := mm_rd_ok hr
      obtain ⟨g1, rfl⟩ := mm_idx_ok hq
      obtain ⟨⟨cell, c1, c2, c3, c4, c5, c6⟩, -⟩ := hE.2.1 _ _ ha
      exact W.aald hx hb c1 (mm_arrOf (n := n) (f := f) hK (t := 3) (by omega) c2 c4) rfl c3 (by rw [c5]; exact g1) (c6 _ (Nat.not_le.mp fun z => g1 (Or.inr z))) rfl rfl hd kk
    · rename_i n f ha
      obtain ⟨q, hq, rfl⟩ := mm_rd_ok hr
      obtain ⟨g1, rfl⟩ := mm_idx_ok hq
      obtain ⟨⟨cell, c1, c2, c3, c4, c5, c6⟩, -⟩ := hE.2.1 _ _ ha
      exact W.aald hx hb c1 (mm_arrOf (n := n) (f := f) hK (t := 4) (by omega) c2 c4) rfl c3 (by rw [c5]; exact g1) (c6 _ (Nat.not_le.mp fun z => g1 (Or.inr z))) rfl rfl hd kk
    · cases hr
  · split at hr
    · rename_i n f ha
      cases hr
      obtain ⟨⟨cell, c1, c2, c3, c4, c5, c6⟩, -⟩ := hE.2.1 _ _ ha
      exact W.alen hx hb c1 (mm_arrOf (n := n) (f := f) hK (t := 0) (by omega) c2 c4) (by rw [c5]) rfl rfl hd kk
    · rename_i n f ha
      cases hr
      obtain ⟨⟨cell, c1, c2, c3, c4, c5, c6⟩, -⟩ := hE.2.1 _ _ ha
      exact W.alen hx hb c1 (mm_arrOf (n := n) (f := f) hK (t := 1) (by omega) c2 c4) (by rw [c5]) rfl rfl hd kk
    · rename_i n f ha
      cases hr
      obtain ⟨⟨cell, c1, c2, c3, c4, c5, c6⟩, -⟩ := hE.2.1 _ _ ha
      exact W.alen hx hb c1 (mm_arrOf (n := n) (f := f) hK (t := 5) (by omega) c2 c4) (by rw [c5]) rfl rfl hd kk
    · cases hr
  · cases hr
/-- the class whose objects an array of references holds -/
def mm_elt : Nat → Option Nat
  | 3 => some 1
  | 4 => some 2
  | _ => none
/-- array stores -/
def mm_wr (h : mm_H) (i : Instr) (len : Nat) (st : List Value) : Option (List Value × mm_H) :=
  match i, len, st with
  | .iastore, 1, .int x :: .int j :: .ref a :: r => match h.2.2 a with
    | some (.inr (0, n, f)) => (mm_idx j n).map (fun q => (r, mm_upd h a (.inr (0, n, updV f q (.int x)))))
    | _ => none
  | .lastore, 1, .long x :: .int j :: .ref a :: r => match h.2.2 a with
    | some (.inr (1, n, f)) => (mm_idx j n).map (fun q => (r, mm_upd h a (.inr (1, n, updV f q (.long x)))))
    | _ => none
  | .bastore, 1, .int x :: .int j :: .ref a :: r => match h.2.2 a with
    | some (.inr (2, n, f)) => cond (x == 0 || x == 1) ((mm_idx j n).map (fun q => (r, mm_upd h a (.inr (2, n, updV f q (.int x)))))) none
    | _ => none
  | .aastore, 1, .ref v :: .int j :: .ref a :: r => match h.2.2 a, h.2.2 v with
    | some (.inr (3, n, f)), some (.inl (1, _)) => (mm_idx j n).map (fun q => (r, mm_upd h a (.inr (3, n, updV f q (.ref v)))))
    | some (.inr (4, n, f)), some (.inl (2, _)) => (mm_idx j n).map (fun q => (r, mm_upd h a (.inr (4, n, updV f q (.ref v)))))
    | _, _ => none
  | _, _, _ => none
theorem mm_wr_ok {α : Type} {n : Nat} {g : Nat → α} {j : Int32} {z : α} (h : (mm_idx j n).map g = some z) : ∃ q, mm_idx j n = some q ∧ g q = z := by
  cases hi : mm_idx j n with
  | none => rw [hi] at h; cases h
  | some q => rw [hi] at h; exact ⟨q, rfl, Option.some.inj h⟩
theorem mm_wr_bud {h h' : mm_H} {i : Instr} {len : Nat} {st st' : List Value} (hr : mm_wr h i len st = some (st', h')) : h'.2.1 = h.2.1 := by
  unfold mm_wr at hr
  split at hr
  · split at hr
    · obtain ⟨q, hq, hz⟩ := mm_wr_ok hr
      cases hz
      rfl
    · cases hr
  · split at hr
    · obtain ⟨q, hq, hz⟩ := mm_wr_ok hr
      cases hz
      rfl
    · cases hr
  · split at hr
    · obtain ⟨h1, h2⟩ := mm_cond2 hr
      obtain ⟨q, hq, hz⟩ := mm_wr_ok h2
      cases hz
      rfl
    · cases hr
  · split at hr
    · obtain ⟨q, hq, hz⟩ := mm_wr_ok hr
      cases hz
      rfl
    · obtain ⟨q, hq, hz⟩ := mm_wr_ok hr
      cases hz
      rfl
    · cases hr
  · cases hr
theorem mm_set_at {H' : Heap} {t n q : Nat} {f : Nat → Value} {v : Value} {cell : Cell} (hE : mm_emb D aC cl H0 h H) (hB : H0.size ≤ a) (c2 : cell.cls = aC t) (c3 : cell.vm ≠ .unknown) (c4 : ∀ k, cell.vm ≠ .statics k) (c5 : cell.slots.size = n) (c6 : ∀ j : Nat, j < n → cell.slots[j]? = some (f j)) (hq : q < n)
    (e1 : H'[a]? = some (cell.setSlot q v)) (e2 : H'.size = H.size) (e3 : ∀ q : Nat, q ≠ a → H'[q]? = H[q]?) : mm_emb D aC cl H0 (mm_upd h a (.inr (t, n, updV f q v))) H' := by
  refine hE.upd e2 e3 ⟨_, e1, c2, c3, c4, by rw [k2_slotsz]; exact c5, fun j hj => ?_⟩ hB (fun cell' hc' => ?_)
  · show (cell.setSlot q v).slots[j]? = some (updV f q v j)
    by_cases hjq : j = q
    · subst hjq
      rw [Cell.slots_setSlot_self _ (by rw [c5]; exact hq)]
      simp [updV]
    · rw [slot_ne cell v (Ne.symm hjq), c6 j hj]
      simp [updV, hjq]
  · rw [e1] at hc'
    cases hc'
    show cell.vm.isStatics = false
    cases hv : cell.vm with
    | statics k => exact absurd hv (c4 k)
    | _ => rfl
set_option maxHeartbeats 4000000 in
theorem mm_wr_W {i : Instr} {len : Nat} {st st' : List Value} {h' : mm_H} (hx : p.tables.exec = Jvm.exec) (hb : c.code = cc) (hK : mm_Kn D aC cl s) (hE : mm_emb D aC cl H0 h H)
    {r1 r2 : vw_C} (hc1 : cl[1]? = some r1) (hc2 : cl[2]? = some r2) (hn1 : r1.1 = "TrusteeDesk$Claim") (hn2 : r2.1 = "TrusteeDesk$Asset")
    (hd : decode cc pc = .ok (i, len)) (hr : mm_wr h i len st = some (st', h'))
    (kk : ∀ (H1 : Heap) (L : List Loc), mm_emb D aC cl H0 h' H1 → (∀ q ∈ L, H0.size ≤ q.base) → W p l e R s m args below meth c H1 (locs ++ L) cells slots Q (F0 m (pc + len) ls st')) : W p l e R s m args below meth c H locs cells slots Q (F0 m pc ls st) := by
  unfold mm_wr at hr
  split at hr
  · split at hr
    · rename_i n f ha
      obtain ⟨q, hq, hz⟩ := mm_wr_ok hr
      cases hz
      obtain ⟨g1, rfl⟩ := mm_idx_ok hq
      obtain ⟨⟨cell, c1, c2, c3, c4, c5, c6⟩, hB⟩ := hE.2.1 _ _ ha
      have hlt := Nat.not_le.mp fun z => g1 (Or.inr z)
      refine W.iast hx hb c1 (mm_arrOf (n := n) (f := f) hK (t := 0) (by omega) c2 c4) c3 (by rw [c5]; exact g1) rfl rfl hd fun H' e1 e2 e3 => ?_
      exact kk H' _ (mm_set_at hE (hB rfl) c2 c3 c4 c5 c6 hlt e1 e2 e3) (fun q hq => by rw [List.mem_singleton.mp hq]; exact hB rfl)
    · cases hr
  · split at hr
    · rename_i n f ha
      obtain ⟨q, hq, hz⟩ := mm_wr_ok hr
      cases hz
      obtain ⟨g1, rfl⟩ := mm_idx_ok hq
      obtain ⟨⟨cell, c1, c2, c3, c4, c5, c6⟩, hB⟩ := hE.2.1 _ _ ha
      have hlt := Nat.not_le.mp fun z => g1 (Or.inr z)
      refine W.last hx hb c1 (mm_arrOf (n := n) (f := f) hK (t := 1) (by omega) c2 c4) c3 (by rw [c5]; exact g1) rfl rfl hd fun H' e1 e2 e3 => ?_
      exact kk H' _ (mm_set_at hE (hB rfl) c2 c3 c4 c5 c6 hlt e1 e2 e3) (fun q hq => by rw [List.mem_singleton.mp hq]; exact hB rfl)
    · cases hr
  · split at hr
    · rename_i n f ha
      obtain ⟨hcx, hr⟩ := mm_cond2 hr
      obtain ⟨q, hq, hz⟩ := mm_wr_ok hr
      cases hz
      obtain ⟨g1, rfl⟩ := mm_idx_ok hq
      obtain ⟨⟨cell, c1, c2, c3, c4, c5, c6⟩, hB⟩ := hE.2.1 _ _ ha
      have hlt := Nat.not_le.mp fun z => g1 (Or.inr z)
      refine W.zast hx hb c1 (mm_arrOf (n := n) (f := f) hK (t := 2) (by omega) c2 c4) c3 (by rw [c5]; exact g1) rfl rfl hd fun H' e1 e2 e3 => ?_
      rw [(mm_fit_ok (ty := .boolean) (v := .int _) hcx).1] at e1
      exact kk H' _ (mm_set_at hE (hB rfl) c2 c3 c4 c5 c6 hlt e1 e2 e3) (fun q hq => by rw [List.mem_singleton.mp hq]; exact hB rfl)
    · cases hr
  · split at hr
    · rename_i n f _ ha hv
      obtain ⟨q, hq, hz⟩ := mm_wr_ok hr
      cases hz
      obtain ⟨g1, rfl⟩ := mm_idx_ok hq
      obtain ⟨⟨cell, c1, c2, c3, c4, c5, c6⟩, hB⟩ := hE.2.1 _ _ ha
      obtain ⟨⟨rv, hrv, cellV, v1, v2, v3, -⟩, -⟩ := hE.2.1 _ _ hv
      have hlt := Nat.not_le.mp fun z => g1 (Or.inr z)
      have hcls := (hK.1 1 _ hc1).2
      rw [hn1] at hcls
      obtain ⟨kA, comp, k1, k2, k3, -⟩ := hK.2.2 3 (by omega)
      have hce : comp = D.1 1 := Option.some.inj (k3.symm.trans hcls.1)
      subst hce
      obtain ⟨-, kE, hkE, -⟩ := id hcls
      refine W.aast (k := kA) (kv := kE) (kcomp := kE) (comp := D.1 1) (t := .object "TrusteeDesk$Claim") hx hb c1 c4 c3 (by rw [c2]; exact k1) k2 rfl hkE ⟨fun z => g1 (Or.inl z), by rw [c5]; exact hlt⟩ v1 (fun z hz => by rw [v3] at hz; cases hz) (by rw [v2]; exact hkE) (by rw [v2]; exact va_assign hcls) rfl rfl hd fun H' e1 e2 e3 => ?_
      exact kk H' _ (mm_set_at hE (hB rfl) c2 c3 c4 c5 c6 hlt e1 e2 e3) (fun q hq => by rw [List.mem_singleton.mp hq]; exact hB rfl)
    · rename_i n f _ ha hv
      obtain ⟨q, hq, hz⟩ := mm_wr_ok hr
      cases hz
      obtain ⟨g1, rfl⟩ := mm_idx_ok hq
      obtain ⟨⟨cell, c1, c2, c3, c4, c5, c6⟩, hB⟩ := hE.2.1 _ _ ha
      obtain ⟨⟨rv, hrv, cellV, v1, v2, v3, -⟩, -⟩ := hE.2.1 _ _ hv
      have hlt := Nat.not_le.mp fun z => g1 (Or.inr z)
      have hcls := (hK.1 2 _ hc2).2
      rw [hn2] at hcls
      obtain ⟨kA, comp, k1, k2, k3, -⟩ := hK.2.2 4 (by omega)
      have hce : comp = D.1 2 := Option.some.inj (k3.symm.trans hcls.1)
      subst hce
      obtain ⟨-, kE, hkE, -⟩ := id hcls
      refine W.aast (k := kA) (kv := kE) (kcomp := kE) (comp := D.1 2) (t := .object "TrusteeDesk$Asset") hx hb c1 c4 c3 (by rw [c2]; exact k1) k2 rfl hkE ⟨fun z => g1 (Or.inl z), by rw [c5]; exact hlt⟩ v1 (fun z hz => by rw [v3] at hz; cases hz) (by rw [v2]; exact hkE) (by rw [v2]; exact va_assign hcls) rfl rfl hd fun H' e1 e2 e3 => ?_
      exact kk H' _ (mm_set_at hE (hB rfl) c2 c3 c4 c5 c6 hlt e1 e2 e3) (fun q hq => by rw [List.mem_singleton.mp hq]; exact hB rfl)
    · cases hr
  · cases hr
end MMM
end
section
section MMN
variable {p : Program} {l : Launch} {e : Env} {R : Room} {s : State} {m : MethodId} {args : Array Value} {below : List Frame} {meth : Method} {c : Code} {H : Heap} {locs : List Loc} {cells slots : Nat} {Q : State → Prop}
variable {cc : ByteArray} {pc : Nat} {ls : Array Slot} {rest : List Value} {D : va_G} {aC : Nat → ClassId} {cl : List vw_C} {H0 : Heap} {h : mm_H} {Ts : List Cond}
theorem mm_new_W (hx : p.tables.exec = Jvm.exec) (hb : c.code = cc) (hts : ∀ w ∈ Ts, w.before args s = true) {own : String} (hown : s.vm.findClass own = some m.cls) (hK : mm_Kn D aC cl s) (hE : mm_emb D aC cl H0 h H)
    {C : String} {T : u_T} {N ci idx : Nat} (hc : cl[ci]? = some (C, T, N)) (hin : ∀ w ∈ u_ws C T N, w ∈ Ts) (ty : Nat → FieldType) (hty : ∀ k, k < N → parseFieldDescriptor (T k).2.2.1 = some (ty k)) {fs : List Value} (hfs : ∀ j, j < N → defaultValue (ty j) = vp_V fs j)
    (hl : Cond.classLink own idx C ∈ Ts) (hi : Cond.instantiable C N ∈ Ts) (hn : Cond.initialized C ∈ Ts) (hcells : cells + 1 ≤ R.cells) (hslots : slots + N ≤ R.slots) (hd : decode cc pc = .ok (.new idx, 3))
    (kk : ∀ H1 : Heap, mm_emb D aC cl H0 (mm_push h N (.inl (ci, fs))) H1 → W p l e R s m args below meth c H1 locs (cells + 1) (slots + N) Q (F0 m (pc + 3) ls (.ref h.1 :: rest))) :
    W p l e R s m args below meth c H locs cells slots Q (F0 m pc ls rest) := by
  have hKn := hK.1 ci _ hc
  refine W.newcK hx hb hown (hts _ hl) (hts _ hi) (hts _ hn) rfl hd hcells hslots hKn.2.1 hE.1 fun H1 kC hkC e1 z1 o1 => ?_
  refine kk H1 (hE.push z1 (fun q hq => o1 q hq) ⟨_, hc, (u_born ty hts hin hKn hkC e1 hty).to hfs⟩ (fun cell hcl => ?_))
  rw [e1] at hcl
  cases hcl
  rfl
theorem mm_newa_W (hx : p.tables.exec = Jvm.exec) (hb : c.code = cc) (hts : ∀ w ∈ Ts, w.before args s = true) (hK : mm_Kn D aC cl s) (hE : mm_emb D aC cl H0 h H)
    {atype : ArrayType} {t N : Nat} (ht : t < 3) (hty : newarray.typeOf atype = mm_ty t) (hw : Cond.arrayClass (mm_ty t) ∈ Ts) {n : Int32} (hn : ¬ n < 0) (hN : n.toNatClampNeg = N) (hbytes : N * 8 ≤ 536870912)
    (hcells : cells + 1 ≤ R.cells) (hslots : slots + N ≤ R.slots) (hd : decode cc pc = .ok (.newarray atype, 2))
    (kk : ∀ H1 : Heap, mm_emb D aC cl H0 (mm_push h N (.inr (t, N, fun _ => defaultValue (mm_ty t)))) H1 → W p l e R s m args below meth c H1 locs (cells + 1) (slots + N) Q (F0 m (pc + 2) ls (.ref h.1 :: rest))) :
    W p l e R s m args below meth c H locs cells slots Q (F0 m pc ls (.int n :: rest)) := by
  have hcb : N * componentBytes (newarray.typeOf atype) ≤ 536870912 := by
    rw [hty]
    have : componentBytes (mm_ty t) ≤ 8 := by
      rcases (show t = 0 ∨ t = 1 ∨ t = 2 by omega) with rfl | rfl | rfl <;> decide
    exact Nat.le_trans (Nat.mul_le_mul_left N this) hbytes
  refine va_newaK hx hb (by rw [hty]; exact hts _ hw) rfl hd rfl hn hN hcb hcells hslots hE.1 fun H1 cA e1 z1 o1 hAr hNm => ?_
  have hcA : cA = aC t := by
    have h1 := hK.2.2 t (by omega)
    rw [hty] at hNm
    rcases (show t = 0 ∨ t = 1 ∨ t = 2 by omega) with rfl | rfl | rfl <;> exact Option.some.inj (hNm.symm.trans h1)
  subst hcA
  rw [hty] at e1
  refine kk H1 (hE.push z1 (fun q hq => o1 q hq) ⟨_, e1, rfl, (fun hz => by cases hz), (fun k hz => by cases hz), arrV_size _ _ _, fun j hj => arrV_read _ _ hj⟩ (fun cell hcl => ?_))
  rw [e1] at hcl
  cases hcl
  rfl
theorem mm_anew_W (hx : p.tables.exec = Jvm.exec) (hb : c.code = cc) (hts : ∀ w ∈ Ts, w.before args s = true) {own : String} (hown : s.vm.findClass own = some m.cls) (hK : mm_Kn D aC cl s) (hE : mm_emb D aC cl H0 h H)
    {C : String} {t N idx : Nat} (ht : t < 5) (hty : mm_ty t = .object C) (hl : Cond.classLink own idx C ∈ Ts) (hw : Cond.arrayOver (.object C) ∈ Ts) {n : Int32} (hn : ¬ n < 0) (hN : n.toNatClampNeg = N) (hbytes : N * 4 ≤ 536870912)
    (hcells : cells + 1 ≤ R.cells) (hslots : slots + N ≤ R.slots) (hd : decode cc pc = .ok (.anewarray idx, 3))
    (kk : ∀ H1 : Heap, mm_emb D aC cl H0 (mm_push h N (.inr (t, N, fun _ => .null))) H1 → W p l e R s m args below meth c H1 locs (cells + 1) (slots + N) Q (F0 m (pc + 3) ls (.ref h.1 :: rest))) :
    W p l e R s m args below meth c H locs cells slots Q (F0 m pc ls (.int n :: rest)) := by
  subst hN
  refine W.anew hx hb hown (hts _ hl) (hts _ hw) rfl hd rfl hn hbytes hcells hslots fun cA kA comp h1 h2 h3 h4 => ?_
  have hcA : cA = aC t := by
    have h5 := hK.2.2 t ht
    rw [hty] at h5
    obtain ⟨_, _, -, -, -, h6⟩ := h5
    exact Option.some.inj (h1.symm.trans h6)
  subst hcA
  have e1 : (H.push ({ cls := aC t, slots := Array.replicate n.toNatClampNeg .null, vm := .none } : Cell))[h.1]? = some { cls := aC t, slots := Array.replicate n.toNatClampNeg .null, vm := .none } := by
    rw [← hE.1]; simp
  have h7 := kk _ (hE.push (n := n.toNatClampNeg) (c0 := .inr (t, n.toNatClampNeg, fun _ => .null)) (H1 := H.push ({ cls := aC t, slots := Array.replicate n.toNatClampNeg .null, vm := .none } : Cell)) (by rw [Array.size_push, hE.1]) (fun q hq => by rw [Array.getElem?_push, if_neg (by rw [hE.1]; omega)])
    ⟨_, e1, rfl, (fun hz => by cases hz), (fun k hz => by cases hz), by simp, fun j hj => by simp [hj]⟩ (fun cell hcl => by rw [e1] at hcl; cases hcl; rfl))
  rw [← hE.1] at h7
  exact h7
end MMN
end
section
/-! a call: the callee is walked inside, over the caller's frame; it returns or throws -/
abbrev mm_O : Type := (Option Value) ⊕ (Nat × Nat)
def mm_oc : mm_O → Outcome
  | .inl v => .returned v
  | .inr x => .threw x.2
def mm_thrown (r : mm_O × mm_H) : Prop := match r.1 with
  | .inl _ => True
  | .inr x => r.2.2.2 x.2 = some (.inl (x.1, []))
def mm_Res (D : va_G) (aC : Nat → ClassId) (cl : List vw_C) (H0 : Heap) (s : State) (below : List Frame) (z : Nat × Nat) (r : mm_O × mm_H) (t : State) : Prop :=
  t.status = .running ∧ Ended t below (mm_oc r.1) ∧ s.WarmedH t.vm ∧ (∃ L : List Loc, (∀ q ∈ L, H0.size ≤ q.base) ∧ s.sameButNew ({ t with vm := s.vm } : State) L (z.1 - r.2.2.1.1) (z.2 - r.2.2.1.2)) ∧ mm_emb D aC cl H0 r.2 t.heap ∧ mm_thrown r ∧ r.2.2.1.1 ≤ z.1 ∧ r.2.2.1.2 ≤ z.2
theorem mm_weaken {tb : Tables} {e : Env} {f : Frame} {below : List Frame} {a b : State} (h : Steps tb e (f :: below) a b) : Steps tb e below a b := by
  obtain ⟨n, hn, w⟩ := h
  exact ⟨n, hn, fun k hk => Within.weaken (mid := [f]) (w k hk)⟩
section MMCALL
variable {p : Program} {l : Launch} {e : Env} {R R' : Room} {s : State} {m : MethodId} {args : Array Value} {below : List Frame} {meth : Method} {c : Code} {T : State} {locs : List Loc} {cells slots : Nat}
variable {D : va_G} {aC : Nat → ClassId} {cl : List vw_C} {H0 : Heap} {h : mm_H} {g : JFrame} {ig : Instr} {len : Nat} {mk : MethodId} {methk : Method} {ck : Code} {a : Array Value}
theorem mm_callRet (X : Stand p l e R s m args below meth c T locs cells slots) (hg : g.method = m) (hsize : g.locals.size = c.maxLocals) (hdg : decode c.code g.pc = .ok (ig, len))
    (hmk : T.vm.method? mk = some methk) (hck : methk.code = some ck) (hlk : methk.locks = false) (hpk : T.plainMethod mk)
    (hframes : R'.frames + 1 ≤ R.frames) (hlocals : 2 * g.monitorRoom + (g.stack.map fun v => v.category).sum + (ck.maxLocals + 11) + R'.locals ≤ R.locals) (hcells : cells + R'.cells ≤ R.cells) (hslots : slots + R'.slots ≤ R.slots)
    {v : Option Value} {h' : mm_H}
    (hcal : W p l e R' (T.calling g mk a) mk a (.java g :: below) methk ck T.heap [] 0 0 (mm_Res D aC cl H0 (T.calling g mk a) (.java g :: below) h.2.1 (.inl v, h')) (entryFrame mk a ck.maxLocals)) :
    ∃ (T' : State) (L : List Loc), Stand p l e R s m args below meth c T' (locs ++ L) (cells + (h.2.1.1 - h'.2.1.1)) (slots + (h.2.1.2 - h'.2.1.2)) ∧ (∀ q ∈ L, H0.size ≤ q.base) ∧ mm_emb D aC cl H0 h' T'.heap ∧ (h'.2.1.1 ≤ h.2.1.1 ∧ h'.2.1.2 ≤ h.2.1.2) ∧
      ∀ target, Steps p.tables e below (T'.setTop { g with pc := g.pc + len, stack := v.toList ++ g.stack }) target → ∀ acts, Steps p.tables e below (doInvoke e (T.setTop g) acts mk a).1 target := by
  obtain ⟨Y, hdo⟩ := X.into hg hsize hdg a hmk hck hlk hpk hframes hlocals hcells hslots
  obtain ⟨t, st, hrun, hend, hW, ⟨L, hL, hsame⟩, hemb, -, hm1, hm2⟩ := hcal _ (by simp [State.pushFrame, State.setFrames, State.setTop, State.modifyTopJava]) Y
  obtain ⟨T', X', hW', hsm, ht⟩ := X.outOf hg hdg hend hW hsame
  have hh : t.heap = T'.heap := by rw [ht]; simp [State.setTop, State.modifyTopJava]
  refine ⟨T', L, X', hL, by rw [← hh]; exact hemb, ⟨hm1, hm2⟩, fun target htar acts => ?_⟩
  rw [hdo acts]
  exact (mm_weaken st).trans (by rw [ht]; exact htar)
theorem mm_callThrew (X : Stand p l e R s m args below meth c T locs cells slots) (hg : g.method = m) (hsize : g.locals.size = c.maxLocals) (hdg : decode c.code g.pc = .ok (ig, len))
    (hmk : T.vm.method? mk = some methk) (hck : methk.code = some ck) (hlk : methk.locks = false) (hpk : T.plainMethod mk)
    (hframes : R'.frames + 1 ≤ R.frames) (hlocals : 2 * g.monitorRoom + (g.stack.map fun v => v.category).sum + (ck.maxLocals + 11) + R'.locals ≤ R.locals) (hcells : cells + R'.cells ≤ R.cells) (hslots : slots + R'.slots ≤ R.slots)
    {x : Nat × Nat} {h' : mm_H}
    (hcal : W p l e R' (T.calling g mk a) mk a (.java g :: below) methk ck T.heap [] 0 0 (mm_Res D aC cl H0 (T.calling g mk a) (.java g :: below) h.2.1 (.inr x, h')) (entryFrame mk a ck.maxLocals)) :
    ∃ (T' : State) (L : List Loc), Stand p l e R s m args below meth c T' (locs ++ L) (cells + (h.2.1.1 - h'.2.1.1)) (slots + (h.2.1.2 - h'.2.1.2)) ∧ (∀ q ∈ L, H0.size ≤ q.base) ∧ mm_emb D aC cl H0 h' T'.heap ∧ (h'.2.1.1 ≤ h.2.1.1 ∧ h'.2.1.2 ≤ h.2.1.2) ∧ h'.2.2 x.2 = some (.inl (x.1, [])) ∧
      ∀ target, Steps p.tables e below ((T'.setTop g).pushFrame (.throwing x.2)) target → ∀ acts, Steps p.tables e below (doInvoke e (T.setTop g) acts mk a).1 target := by
  obtain ⟨Y, hdo⟩ := X.into hg hsize hdg a hmk hck hlk hpk hframes hlocals hcells hslots
  obtain ⟨t, st, hrun, hend, hW, ⟨L, hL, hsame⟩, hemb, hth, hm1, hm2⟩ := hcal _ (by simp [State.pushFrame, State.setFrames, State.setTop, State.modifyTopJava]) Y
  obtain ⟨T', X', hW', hsm, ht⟩ := X.outOfThrown hg hend hW hsame
  have hh : t.heap = T'.heap := by rw [ht]; exact Stand.throwing_heap T' g x.2
  refine ⟨T', L, X', hL, by rw [← hh]; exact hemb, ⟨hm1, hm2⟩, hth, fun target htar acts => ?_⟩
  rw [hdo acts]
  exact (mm_weaken st).trans (by rw [ht]; exact htar)
end MMCALL
/-- what the tables say of a method: where it is, its code, its handlers -/
def mm_Mt (y : MethodName) (bytes : ByteArray) (nl : Nat) (ret : Option FieldType) (hh : List (Nat × Nat × Nat × Nat)) (U : State) (mk : MethodId) (methk : Method) (ck : Code) : Prop :=
  U.methodNamed? y = some mk ∧ U.vm.method? mk = some methk ∧ methk.code = some ck ∧ ck.code = bytes ∧ ck.maxLocals = nl ∧ methk.sig.returnType = ret ∧ methk.locks = false ∧
    ck.exceptionTable.toList.map (fun h => (h.startPc, h.endPc, h.handlerPc, h.catchType)) = hh ∧ parseMethodDescriptor y.desc = some methk.sig
def mm_cw (y : MethodName) (bytes : ByteArray) (nl : Nat) (ret : Option FieldType) (hh : List (Nat × Nat × Nat × Nat)) : Cond := match hh with
  | [] => .code y bytes nl ret
  | x :: r => .codeWith y bytes nl ret (x :: r)
theorem mm_Mt.of {y : MethodName} {bytes : ByteArray} {nl : Nat} {ret : Option FieldType} {hh : List (Nat × Nat × Nat × Nat)} {U : State} {A : Array Value} (h : (mm_cw y bytes nl ret hh).before A U = true) : ∃ mk methk ck, mm_Mt y bytes nl ret hh U mk methk ck := by
  cases hh with
  | nil =>
    have h' : (Cond.code y bytes nl ret).before A U = true := h
    obtain ⟨mk, hn⟩ := Cond.code_named h'
    obtain ⟨methk, ck, h1, h2, h3, h4, h5, h6, h7, h8⟩ := Cond.code_spec hn h'
    refine ⟨mk, methk, ck, hn, h1, h2, h3, h4, h5, h6, ?_, h8⟩
    have : ck.exceptionTable.toList = [] := by simpa using h7
    rw [this]
    rfl
  | cons x r =>
    have h' : (Cond.codeWith y bytes nl ret (x :: r)).before A U = true := h
    obtain ⟨mk, methk, ck, hn, h1, h2, h3, h4, h5, h6, h7, h8⟩ := Cond.codeWith_spec h'
    exact ⟨mk, methk, ck, hn, h1, h2, h3, h4, h6, h7, h5, h8⟩
end
section
/-! TABLES of the mini machine, by program out of the claim's listing and of the words of tables_1 (wip/tools/prtab.py) -/
def t_on : Nat → String
  | 0 => "TrusteeDesk"
  | 1 => "TrusteeDesk$Claim"
  | 2 => "TrusteeDesk$Asset"
  | 3 => "TrusteeDesk$Journal"
  | 4 => "TrusteeDeskModel"
  | _ => "TrusteeDeskLaw"
def t_oL : List (Nat) := [0, 0, 0, 0, 0, 0, 0, 0, 0, 0, 0, 0, 0, 0, 0, 0, 0, 0, 0, 0, 0, 0, 0, 0, 0, 0, 0, 0, 0, 0, 0, 0, 0, 0, 0, 0, 0, 0, 0, 1, 1, 1, 1, 1, 1, 1, 2, 2, 2, 2, 3, 3, 3, 4, 4, 4, 4, 4, 4, 4, 4, 4, 4, 4, 4, 4, 4, 4, 4, 4, 4, 4, 4, 4, 4, 4, 4, 4, 4, 4, 4, 4, 4, 4, 4, 4, 4, 4, 4, 4, 4, 4, 4, 4, 4, 5, 5, 5, 5, 5, 5, 5, 5, 5, 5, 5, 5, 5, 5, 5, 5]
def t_o (k : Nat) : Nat := t_oL.getD k (5)
def t_nlL : List (Nat) := [1, 5, 5, 2, 7, 8, 3, 5, 3, 3, 4, 1, 2, 4, 2, 2, 1, 3, 1, 1, 4, 2, 2, 2, 4, 7, 9, 4, 10, 4, 4, 3, 5, 13, 10, 4, 4, 4, 4, 5, 1, 1, 1, 2, 2, 1, 1, 4, 3, 2, 1, 5, 2, 1, 1, 6, 2, 2, 1, 5, 4, 5, 4, 2, 3, 2, 5, 4, 4, 4, 4, 4, 1, 5, 4, 10, 2, 6, 3, 4, 6, 3, 8, 5, 1, 3, 4, 5, 9, 7, 3, 2, 9, 1, 3, 6, 6, 3, 7, 6, 3, 6, 5, 5, 4, 3, 3, 5, 4, 5, 8]
def t_nl (k : Nat) : Nat := t_nlL.getD k (0)
def t_yL : List (MethodName) := [⟨"TrusteeDesk", "<init>", "()V"⟩, ⟨"TrusteeDesk", "claim", "(IJ)I"⟩, ⟨"TrusteeDesk", "owes", "(IJ)J"⟩, ⟨"TrusteeDesk", "asset", "()I"⟩, ⟨"TrusteeDesk", "secure", "(IIJ)I"⟩, ⟨"TrusteeDesk", "realise", "(IJ)J"⟩, ⟨"TrusteeDesk", "contest", "(I)V"⟩, ⟨"TrusteeDesk", "settle", "(IJ)J"⟩, ⟨"TrusteeDesk", "cost", "(J)J"⟩, ⟨"TrusteeDesk", "dividend", "(II)J"⟩, ⟨"TrusteeDesk", "greatest", "(I)I"⟩, ⟨"TrusteeDesk", "catchUp", "()J"⟩, ⟨"TrusteeDesk", "end", "()J"⟩, ⟨"TrusteeDesk", "told", "(II)J"⟩, ⟨"TrusteeDesk", "percentage", "(I)I"⟩, ⟨"TrusteeDesk", "sum", "(I)J"⟩, ⟨"TrusteeDesk", "entries", "()I"⟩, ⟨"TrusteeDesk", "entry", "(II)J"⟩, ⟨"TrusteeDesk", "requireNotEnded", "()V"⟩, ⟨"TrusteeDesk", "requireRank", "(I)V"⟩, ⟨"TrusteeDesk", "requireCents", "(JJ)V"⟩, ⟨"TrusteeDesk", "claimAt", "(I)LTrusteeDesk$Claim;"⟩, ⟨"TrusteeDesk", "assetAt", "(I)LTrusteeDesk$Asset;"⟩, ⟨"TrusteeDesk", "dueOf", "(LTrusteeDesk$Claim;)J"⟩, ⟨"TrusteeDesk", "isBlocked", "(I)Z"⟩, ⟨"TrusteeDesk", "needFor", "(II)J"⟩, ⟨"TrusteeDesk", "serveThrough", "(I)J"⟩, ⟨"TrusteeDesk", "serve", "(LTrusteeDesk$Claim;J)V"⟩, ⟨"TrusteeDesk", "giveToSecurities", "(LTrusteeDesk$Asset;J)J"⟩, ⟨"TrusteeDesk", "resolveReserve", "(LTrusteeDesk$Claim;)J"⟩, ⟨"TrusteeDesk", "release", "(LTrusteeDesk$Claim;J)V"⟩, ⟨"TrusteeDesk", "dropContested", "()V"⟩, ⟨"TrusteeDesk", "payUnpaidNets", "(I)V"⟩, ⟨"TrusteeDesk", "shareCash", "(IJ)V"⟩, ⟨"TrusteeDesk", "addLeftOverCents", "([J[JJ)V"⟩, ⟨"TrusteeDesk", "payAtEnd", "(LTrusteeDesk$Claim;J)V"⟩, ⟨"TrusteeDesk", "allReserved", "()J"⟩, ⟨"TrusteeDesk", "allGot", "()J"⟩, ⟨"TrusteeDesk", "allPaid", "()J"⟩, ⟨"TrusteeDesk$Claim", "<init>", "(IIJ)V"⟩, ⟨"TrusteeDesk$Claim", "isOpen", "()Z"⟩, ⟨"TrusteeDesk$Claim", "isFresh", "()Z"⟩, ⟨"TrusteeDesk$Claim", "net", "()J"⟩, ⟨"TrusteeDesk$Claim", "dueAt", "(I)J"⟩, ⟨"TrusteeDesk$Claim", "lackAt", "(I)J"⟩, ⟨"TrusteeDesk$Claim", "unpaidNet", "()J"⟩, ⟨"TrusteeDesk$Asset", "<init>", "()V"⟩, ⟨"TrusteeDesk$Asset", "add", "(LTrusteeDesk$Claim;J)V"⟩, ⟨"TrusteeDesk$Asset", "secures", "(LTrusteeDesk$Claim;)Z"⟩, ⟨"TrusteeDesk$Asset", "securesContested", "()Z"⟩, ⟨"TrusteeDesk$Journal", "<init>", "()V"⟩, ⟨"TrusteeDesk$Journal", "note", "(IIJ)V"⟩, ⟨"TrusteeDesk$Journal", "keeps", "(I)Z"⟩, ⟨"TrusteeDeskModel", "<init>", "()V"⟩, ⟨"TrusteeDeskModel", "thrown", "()I"⟩, ⟨"TrusteeDeskModel", "in", "(JJJ)Z"⟩, ⟨"TrusteeDeskModel", "isClaim", "(I)Z"⟩, ⟨"TrusteeDeskModel", "isAsset", "(I)Z"⟩, ⟨"TrusteeDeskModel", "isRank", "(I)Z"⟩, ⟨"TrusteeDeskModel", "note", "(IIJ)V"⟩, ⟨"TrusteeDeskModel", "net", "(I)J"⟩, ⟨"TrusteeDeskModel", "hasSecurityIn", "(II)Z"⟩, ⟨"TrusteeDeskModel", "isOpen", "(I)Z"⟩, ⟨"TrusteeDeskModel", "isFresh", "(I)Z"⟩, ⟨"TrusteeDeskModel", "due", "(II)J"⟩, ⟨"TrusteeDeskModel", "dueNow", "(I)J"⟩, ⟨"TrusteeDeskModel", "lack", "(II)J"⟩, ⟨"TrusteeDeskModel", "serve", "(IJ)V"⟩, ⟨"TrusteeDeskModel", "release", "(IJ)V"⟩, ⟨"TrusteeDeskModel", "settled", "(I)J"⟩, ⟨"TrusteeDeskModel", "claim", "(IJ)I"⟩, ⟨"TrusteeDeskModel", "owes", "(IJ)J"⟩, ⟨"TrusteeDeskModel", "asset", "()I"⟩, ⟨"TrusteeDeskModel", "secure", "(IIJ)I"⟩, ⟨"TrusteeDeskModel", "isContestedIn", "(I)Z"⟩, ⟨"TrusteeDeskModel", "realise", "(IJ)J"⟩, ⟨"TrusteeDeskModel", "contest", "(I)V"⟩, ⟨"TrusteeDeskModel", "settle", "(IJ)J"⟩, ⟨"TrusteeDeskModel", "cost", "(J)J"⟩, ⟨"TrusteeDeskModel", "isBarred", "(I)Z"⟩, ⟨"TrusteeDeskModel", "lacks", "(II)J"⟩, ⟨"TrusteeDeskModel", "dividend", "(II)J"⟩, ⟨"TrusteeDeskModel", "serveAll", "(I)J"⟩, ⟨"TrusteeDeskModel", "greatest", "(I)I"⟩, ⟨"TrusteeDeskModel", "catchUp", "()J"⟩, ⟨"TrusteeDeskModel", "isAllRealised", "()Z"⟩, ⟨"TrusteeDeskModel", "pay", "(IJ)V"⟩, ⟨"TrusteeDeskModel", "takeGreatest", "(I)I"⟩, ⟨"TrusteeDeskModel", "share", "(IJ)V"⟩, ⟨"TrusteeDeskModel", "end", "()J"⟩, ⟨"TrusteeDeskModel", "told", "(II)J"⟩, ⟨"TrusteeDeskModel", "percentage", "(I)I"⟩, ⟨"TrusteeDeskModel", "sum", "(I)J"⟩, ⟨"TrusteeDeskModel", "entries", "()I"⟩, ⟨"TrusteeDeskModel", "entry", "(II)J"⟩, ⟨"TrusteeDeskLaw", "claim", "(LTrusteeDesk;IJ[J)I"⟩, ⟨"TrusteeDeskLaw", "owes", "(LTrusteeDesk;IJ[J)I"⟩, ⟨"TrusteeDeskLaw", "asset", "(LTrusteeDesk;[J)I"⟩, ⟨"TrusteeDeskLaw", "secure", "(LTrusteeDesk;IIJ[J)I"⟩, ⟨"TrusteeDeskLaw", "realise", "(LTrusteeDesk;IJ[J)I"⟩, ⟨"TrusteeDeskLaw", "contest", "(LTrusteeDesk;I)I"⟩, ⟨"TrusteeDeskLaw", "settle", "(LTrusteeDesk;IJ[J)I"⟩, ⟨"TrusteeDeskLaw", "cost", "(LTrusteeDesk;J[J)I"⟩, ⟨"TrusteeDeskLaw", "dividend", "(LTrusteeDesk;II[J)I"⟩, ⟨"TrusteeDeskLaw", "greatest", "(LTrusteeDesk;I[J)I"⟩, ⟨"TrusteeDeskLaw", "catchUp", "(LTrusteeDesk;[J)I"⟩, ⟨"TrusteeDeskLaw", "end", "(LTrusteeDesk;[J)I"⟩, ⟨"TrusteeDeskLaw", "told", "(LTrusteeDesk;II[J)I"⟩, ⟨"TrusteeDeskLaw", "percentage", "(LTrusteeDesk;I[J)I"⟩, ⟨"TrusteeDeskLaw", "entry", "(LTrusteeDesk;II[J)I"⟩]
def t_y (k : Nat) : MethodName := t_yL.getD k (⟨"TrusteeDeskLaw", "law", "([I)Z"⟩)
def t_bL : List (ByteArray) := [prog_1_method_1_code, prog_1_method_2_code, prog_1_method_3_code, prog_1_method_4_code, prog_1_method_5_code, prog_1_method_6_code, prog_1_method_7_code, prog_1_method_8_code, prog_1_method_9_code, prog_1_method_10_code, prog_1_method_11_code, prog_1_method_12_code, prog_1_method_13_code, prog_1_method_14_code, prog_1_method_15_code, prog_1_method_16_code, prog_1_method_17_code, prog_1_method_18_code, prog_1_method_19_code, prog_1_method_20_code, prog_1_method_21_code, prog_1_method_22_code, prog_1_method_23_code, prog_1_method_24_code, prog_1_method_25_code, prog_1_method_26_code, prog_1_method_27_code, prog_1_method_28_code, prog_1_method_29_code, prog_1_method_30_code, prog_1_method_31_code, prog_1_method_32_code, prog_1_method_33_code, prog_1_method_34_code, prog_1_method_35_code, prog_1_method_36_code, prog_1_method_37_code, prog_1_method_38_code, prog_1_method_39_code, prog_3_method_1_code, prog_3_method_2_code, prog_3_method_3_code, prog_3_method_4_code, prog_3_method_5_code, prog_3_method_6_code, prog_3_method_7_code, prog_2_method_1_code, prog_2_method_2_code, prog_2_method_3_code, prog_2_method_4_code, prog_4_method_1_code, prog_4_method_2_code, prog_4_method_3_code, prog_6_method_1_code, prog_6_method_2_code, prog_6_method_3_code, prog_6_method_4_code, prog_6_method_5_code, prog_6_method_6_code, prog_6_method_7_code, prog_6_method_8_code, prog_6_method_9_code, prog_6_method_10_code, prog_6_method_11_code, prog_6_method_12_code, prog_6_method_13_code, prog_6_method_14_code, prog_6_method_15_code, prog_6_method_16_code, prog_6_method_17_code, prog_6_method_18_code, prog_6_method_19_code, prog_6_method_20_code, prog_6_method_21_code, prog_6_method_22_code, prog_6_method_23_code, prog_6_method_24_code, prog_6_method_25_code, prog_6_method_26_code, prog_6_method_27_code, prog_6_method_28_code, prog_6_method_29_code, prog_6_method_30_code, prog_6_method_31_code, prog_6_method_32_code, prog_6_method_33_code, prog_6_method_34_code, prog_6_method_35_code, prog_6_method_36_code, prog_6_method_37_code, prog_6_method_38_code, prog_6_method_39_code, prog_6_method_40_code, prog_6_method_41_code, prog_6_method_42_code, method_3_code, method_4_code, method_5_code, method_6_code, method_7_code, method_8_code, method_9_code, method_10_code, method_11_code, method_12_code, method_13_code, method_14_code, method_15_code, method_16_code, method_17_code]
def t_b (k : Nat) : ByteArray := t_bL.getD k (code)
def t_rtL : List (Option FieldType) := [none, some .int, some .long, some .int, some .int, some .long, none, some .long, some .long, some .long, some .int, some .long, some .long, some .long, some .int, some .long, some .int, some .long, none, none, none, some (.object "TrusteeDesk$Claim"), some (.object "TrusteeDesk$Asset"), some .long, some .boolean, some .long, some .long, none, some .long, some .long, none, none, none, none, none, none, some .long, some .long, some .long, none, some .boolean, some .boolean, some .long, some .long, some .long, some .long, none, none, some .boolean, some .boolean, none, none, some .boolean, none, some .int, some .boolean, some .boolean, some .boolean, some .boolean, none, some .long, some .boolean, some .boolean, some .boolean, some .long, some .long, some .long, none, none, some .long, some .int, some .long, some .int, some .int, some .boolean, some .long, none, some .long, some .long, some .boolean, some .long, some .long, some .long, some .int, some .long, some .boolean, none, some .int, none, some .long, some .long, some .int, some .long, some .int, some .long, some .int, some .int, some .int, some .int, some .int, some .int, some .int, some .int, some .int, some .int, some .int, some .int, some .int, some .int, some .int, some .boolean]
def t_rt (k : Nat) : Option FieldType := t_rtL.getD k (none)
def t_hhL : List (List (Nat × Nat × Nat × Nat)) := [[], [], [], [], [], [], [], [], [], [], [], [], [], [], [], [], [], [], [], [], [], [], [], [], [], [], [], [], [], [], [], [], [], [], [], [], [], [], [], [], [], [], [], [], [], [], [], [], [], [], [], [], [], [], [], [], [], [], [], [], [], [], [], [], [], [], [], [], [], [], [], [], [], [], [], [], [], [], [], [], [], [], [], [], [], [], [], [], [], [], [], [], [], [], [], [(0, 11, 14, 13), (0, 11, 18, 15), (0, 11, 22, 17)], [(0, 10, 13, 23), (0, 10, 17, 13), (0, 10, 21, 17)], [(0, 8, 11, 15), (0, 8, 14, 17)], [(0, 12, 15, 23), (0, 12, 19, 13), (0, 12, 23, 15), (0, 12, 27, 17)], [(0, 10, 13, 23), (0, 10, 17, 13), (0, 10, 21, 17)], [(0, 5, 8, 23), (0, 5, 11, 17)], [(0, 10, 13, 23), (0, 10, 17, 13), (0, 10, 21, 17)], [(0, 8, 11, 13), (0, 8, 15, 17)], [(0, 9, 12, 13), (0, 9, 16, 17), (0, 9, 20, 15)], [(0, 9, 12, 13)], [(0, 7, 10, 17)], [(0, 7, 10, 17)], [(0, 9, 12, 23), (0, 9, 16, 13)], [(0, 9, 12, 13)], [(0, 9, 12, 23), (0, 9, 16, 13)], []]
def t_hh (k : Nat) : List (Nat × Nat × Nat × Nat) := t_hhL.getD k ([])
def t_hc : Nat → Nat
  | 13 => 5
  | 15 => 8
  | 17 => 6
  | 23 => 7
  | _ => 5
def t_hx (k : Nat) : List (Nat × Nat × Nat × Nat) := (t_hh k).map (fun q => (q.1, q.2.1, q.2.2.1, t_hc q.2.2.2))
def c_0 : List (Nat × Instr × Nat) := [(0, .aload_n 0, 1), (1, .invokespecial 1, 3), (4, .aload_n 0, 1), (5, .bipush 60, 2), (7, .anewarray 9, 3), (10, .putfield 11, 3), (13, .aload_n 0, 1), (14, .bipush 20, 2), (16, .anewarray 15, 3), (19, .putfield 17, 3), (22, .aload_n 0, 1), (23, .bipush 8, 2), (25, .newarray .int, 2), (27, .putfield 21, 3), (30, .aload_n 0, 1), (31, .new 25, 3), (34, .dup, 1), (35, .invokespecial 27, 3), (38, .putfield 28, 3), (41, .return_, 1)]
def c_1 : List (Nat × Instr × Nat) := [(0, .iload_n 1, 1), (1, .invokestatic 32, 3), (4, .lload_n 2, 1), (5, .lconst 1, 1), (6, .invokestatic 36, 3), (9, .aload_n 0, 1), (10, .getfield 40, 3), (13, .bipush 60, 2), (15, .if_icmp .lt 13, 3), (18, .new 44, 3), (21, .dup, 1), (22, .ldc 46, 2), (24, .invokespecial 48, 3), (27, .athrow, 1), (28, .aload_n 0, 1), (29, .invokevirtual 51, 3), (32, .aload_n 0, 1), (33, .getfield 40, 3), (36, .istore 4, 2), (38, .aload_n 0, 1), (39, .getfield 11, 3), (42, .iload 4, 2), (44, .new 9, 3), (47, .dup, 1), (48, .iload 4, 2), (50, .iload_n 1, 1), (51, .lload_n 2, 1), (52, .invokespecial 54, 3), (55, .aastore, 1), (56, .aload_n 0, 1), (57, .dup, 1), (58, .getfield 40, 3), (61, .iconst 1, 1), (62, .iadd, 1), (63, .putfield 40, 3), (66, .iload 4, 2), (68, .ireturn, 1)]
def c_2 : List (Nat × Instr × Nat) := [(0, .aload_n 0, 1), (1, .iload_n 1, 1), (2, .invokevirtual 57, 3), (5, .astore 4, 2), (7, .lload_n 2, 1), (8, .lconst 0, 1), (9, .invokestatic 36, 3), (12, .aload_n 0, 1), (13, .invokevirtual 51, 3), (16, .aload 4, 2), (18, .getfield 61, 3), (21, .iconst 2, 1), (22, .if_icmp .eq 11, 3), (25, .aload 4, 2), (27, .invokevirtual 64, 3), (30, .ifCond .ne 13, 3), (33, .new 68, 3), (36, .dup, 1), (37, .ldc 70, 2), (39, .invokespecial 72, 3), (42, .athrow, 1), (43, .aload 4, 2), (45, .dup, 1), (46, .getfield 73, 3), (49, .lload_n 2, 1), (50, .ladd, 1), (51, .putfield 73, 3), (54, .aload 4, 2), (56, .getfield 73, 3), (59, .lreturn, 1)]
def c_3 : List (Nat × Instr × Nat) := [(0, .aload_n 0, 1), (1, .getfield 77, 3), (4, .bipush 20, 2), (6, .if_icmp .lt 13, 3), (9, .new 44, 3), (12, .dup, 1), (13, .ldc 80, 2), (15, .invokespecial 48, 3), (18, .athrow, 1), (19, .aload_n 0, 1), (20, .invokevirtual 51, 3), (23, .aload_n 0, 1), (24, .getfield 77, 3), (27, .istore_n 1, 1), (28, .aload_n 0, 1), (29, .getfield 17, 3), (32, .iload_n 1, 1), (33, .new 15, 3), (36, .dup, 1), (37, .invokespecial 82, 3), (40, .aastore, 1), (41, .aload_n 0, 1), (42, .dup, 1), (43, .getfield 77, 3), (46, .iconst 1, 1), (47, .iadd, 1), (48, .putfield 77, 3), (51, .iload_n 1, 1), (52, .ireturn, 1)]
def c_4 : List (Nat × Instr × Nat) := [(0, .aload_n 0, 1), (1, .iload_n 1, 1), (2, .invokevirtual 83, 3), (5, .astore 5, 2), (7, .aload_n 0, 1), (8, .iload_n 2, 1), (9, .invokevirtual 57, 3), (12, .astore 6, 2), (14, .lload_n 3, 1), (15, .lconst 1, 1), (16, .invokestatic 36, 3), (19, .aload 5, 2), (21, .getfield 87, 3), (24, .iconst 4, 1), (25, .if_icmp .lt 13, 3), (28, .new 44, 3), (31, .dup, 1), (32, .ldc 90, 2), (34, .invokespecial 48, 3), (37, .athrow, 1), (38, .aload_n 0, 1), (39, .invokevirtual 51, 3), (42, .aload 5, 2), (44, .getfield 92, 3), (47, .ifCond .ne 30, 3), (50, .aload 5, 2), (52, .aload 6, 2), (54, .invokevirtual 96, 3), (57, .ifCond .ne 20, 3), (60, .aload 6, 2), (62, .getfield 61, 3), (65, .iconst 2, 1), (66, .if_icmp .eq 11, 3), (69, .aload 6, 2), (71, .invokevirtual 64, 3), (74, .ifCond .ne 13, 3), (77, .new 68, 3), (80, .dup, 1), (81, .ldc 100, 2), (83, .invokespecial 72, 3), (86, .athrow, 1), (87, .aload 5, 2), (89, .aload 6, 2), (91, .lload_n 3, 1), (92, .invokevirtual 102, 3), (95, .aload 6, 2), (97, .dup, 1), (98, .getfield 106, 3), (101, .iconst 1, 1), (102, .iadd, 1), (103, .putfield 106, 3), (106, .aload 5, 2), (108, .getfield 87, 3), (111, .ireturn, 1)]
def c_5 : List (Nat × Instr × Nat) := [(0, .aload_n 0, 1), (1, .iload_n 1, 1), (2, .invokevirtual 83, 3), (5, .astore 4, 2), (7, .lload_n 2, 1), (8, .lconst 0, 1), (9, .invokestatic 36, 3), (12, .aload_n 0, 1), (13, .invokevirtual 51, 3), (16, .aload 4, 2), (18, .getfield 92, 3), (21, .ifCond .ne 11, 3), (24, .aload 4, 2), (26, .invokevirtual 109, 3), (29, .ifCond .eq 13, 3), (32, .new 68, 3), (35, .dup, 1), (36, .ldc 112, 2), (38, .invokespecial 72, 3), (41, .athrow, 1), (42, .aload 4, 2), (44, .iconst 1, 1), (45, .putfield 92, 3), (48, .aload_n 0, 1), (49, .dup, 1), (50, .getfield 114, 3), (53, .lload_n 2, 1), (54, .ladd, 1), (55, .putfield 114, 3), (58, .aload_n 0, 1), (59, .getfield 28, 3), (62, .iconst 1, 1), (63, .iload_n 1, 1), (64, .lload_n 2, 1), (65, .invokevirtual 117, 3), (68, .lload_n 2, 1), (69, .aload_n 0, 1), (70, .aload 4, 2), (72, .lload_n 2, 1), (73, .invokevirtual 120, 3), (76, .lsub, 1), (77, .lstore 5, 2), (79, .aload_n 0, 1), (80, .dup, 1), (81, .getfield 124, 3), (84, .lload 5, 2), (86, .ladd, 1), (87, .putfield 124, 3), (90, .iconst 0, 1), (91, .istore 7, 2), (93, .iload 7, 2), (95, .aload_n 0, 1), (96, .getfield 40, 3), (99, .if_icmp .ge 21, 3), (102, .aload_n 0, 1), (103, .aload_n 0, 1), (104, .getfield 11, 3), (107, .iload 7, 2), (109, .aaload, 1), (110, .invokevirtual 127, 3), (113, .pop2, 1), (114, .iinc 7 1, 3), (117, .goto (-24), 3), (120, .lload 5, 2), (122, .lreturn, 1)]
def c_6 : List (Nat × Instr × Nat) := [(0, .aload_n 0, 1), (1, .iload_n 1, 1), (2, .invokevirtual 57, 3), (5, .astore_n 2, 1), (6, .aload_n 0, 1), (7, .invokevirtual 51, 3), (10, .aload_n 2, 1), (11, .getfield 61, 3), (14, .ifCond .ne 10, 3), (17, .aload_n 2, 1), (18, .invokevirtual 64, 3), (21, .ifCond .ne 13, 3), (24, .new 68, 3), (27, .dup, 1), (28, .ldc 131, 2), (30, .invokespecial 72, 3), (33, .athrow, 1), (34, .aload_n 2, 1), (35, .iconst 1, 1), (36, .putfield 61, 3), (39, .return_, 1)]
def c_7 : List (Nat × Instr × Nat) := [(0, .aload_n 0, 1), (1, .iload_n 1, 1), (2, .invokevirtual 57, 3), (5, .astore 4, 2), (7, .lload_n 2, 1), (8, .lconst 0, 1), (9, .lcmp, 1), (10, .ifCond .lt 13, 3), (13, .lload_n 2, 1), (14, .aload 4, 2), (16, .getfield 133, 3), (19, .lcmp, 1), (20, .ifCond .le 13, 3), (23, .new 136, 3), (26, .dup, 1), (27, .ldc 138, 2), (29, .invokespecial 140, 3), (32, .athrow, 1), (33, .aload_n 0, 1), (34, .invokevirtual 51, 3), (37, .aload 4, 2), (39, .getfield 61, 3), (42, .iconst 1, 1), (43, .if_icmp .eq 13, 3), (46, .new 68, 3), (49, .dup, 1), (50, .ldc 141, 2), (52, .invokespecial 72, 3), (55, .athrow, 1), (56, .lload_n 2, 1), (57, .lconst 0, 1), (58, .lcmp, 1), (59, .ifCond .ne 12, 3), (62, .aload 4, 2), (64, .iconst 2, 1), (65, .putfield 61, 3), (68, .goto 15, 3), (71, .aload 4, 2), (73, .iconst 0, 1), (74, .putfield 61, 3), (77, .aload 4, 2), (79, .lload_n 2, 1), (80, .putfield 133, 3), (83, .aload 4, 2), (85, .invokevirtual 143, 3), (88, .ifCond .eq 27, 3), (91, .aload_n 0, 1), (92, .aload 4, 2), (94, .lconst 0, 1), (95, .aload 4, 2), (97, .getfield 146, 3), (100, .aload_n 0, 1), (101, .aload 4, 2), (103, .invokevirtual 149, 3), (106, .lsub, 1), (107, .invokestatic 152, 3), (110, .invokevirtual 158, 3), (113, .lconst 0, 1), (114, .lreturn, 1), (115, .aload_n 0, 1), (116, .aload 4, 2), (118, .invokevirtual 127, 3), (121, .lreturn, 1)]
def c_8 : List (Nat × Instr × Nat) := [(0, .lload_n 1, 1), (1, .lconst 0, 1), (2, .invokestatic 36, 3), (5, .aload_n 0, 1), (6, .invokevirtual 51, 3), (9, .aload_n 0, 1), (10, .getfield 124, 3), (13, .lload_n 1, 1), (14, .lcmp, 1), (15, .ifCond .ge 13, 3), (18, .new 68, 3), (21, .dup, 1), (22, .ldc 161, 2), (24, .invokespecial 72, 3), (27, .athrow, 1), (28, .aload_n 0, 1), (29, .dup, 1), (30, .getfield 124, 3), (33, .lload_n 1, 1), (34, .lsub, 1), (35, .putfield 124, 3), (38, .aload_n 0, 1), (39, .dup, 1), (40, .getfield 163, 3), (43, .lload_n 1, 1), (44, .ladd, 1), (45, .putfield 163, 3), (48, .aload_n 0, 1), (49, .getfield 28, 3), (52, .iconst 3, 1), (53, .iconst (-1), 1), (54, .lload_n 1, 1), (55, .invokevirtual 117, 3), (58, .aload_n 0, 1), (59, .getfield 124, 3), (62, .lreturn, 1)]
def c_9 : List (Nat × Instr × Nat) := [(0, .iload_n 1, 1), (1, .invokestatic 32, 3), (4, .iload_n 2, 1), (5, .iconst 1, 1), (6, .if_icmp .lt 10, 3), (9, .iload_n 2, 1), (10, .sipush 10000, 3), (13, .if_icmp .le 13, 3), (16, .new 136, 3), (19, .dup, 1), (20, .ldc 166, 2), (22, .invokespecial 140, 3), (25, .athrow, 1), (26, .aload_n 0, 1), (27, .invokevirtual 51, 3), (30, .iload_n 2, 1), (31, .aload_n 0, 1), (32, .getfield 21, 3), (35, .iload_n 1, 1), (36, .iaload, 1), (37, .if_icmp .le 11, 3), (40, .aload_n 0, 1), (41, .iload_n 1, 1), (42, .invokevirtual 168, 3), (45, .ifCond .eq 13, 3), (48, .new 68, 3), (51, .dup, 1), (52, .ldc 172, 2), (54, .invokespecial 72, 3), (57, .athrow, 1), (58, .aload_n 0, 1), (59, .iload_n 1, 1), (60, .iload_n 2, 1), (61, .invokevirtual 174, 3), (64, .aload_n 0, 1), (65, .getfield 124, 3), (68, .lcmp, 1), (69, .ifCond .le 13, 3), (72, .new 44, 3), (75, .dup, 1), (76, .ldc 161, 2), (78, .invokespecial 48, 3), (81, .athrow, 1), (82, .aload_n 0, 1), (83, .getfield 21, 3), (86, .iload_n 1, 1), (87, .iload_n 2, 1), (88, .iastore, 1), (89, .aload_n 0, 1), (90, .iload_n 1, 1), (91, .invokevirtual 178, 3), (94, .lreturn, 1)]
def c_10 : List (Nat × Instr × Nat) := [(0, .iload_n 1, 1), (1, .invokestatic 32, 3), (4, .aload_n 0, 1), (5, .getfield 182, 3), (8, .ifCond .ne 11, 3), (11, .aload_n 0, 1), (12, .iload_n 1, 1), (13, .invokevirtual 168, 3), (16, .ifCond .eq 5, 3), (19, .iconst (-1), 1), (20, .ireturn, 1), (21, .aload_n 0, 1), (22, .getfield 21, 3), (25, .iload_n 1, 1), (26, .iaload, 1), (27, .istore_n 2, 1), (28, .sipush 8192, 3), (31, .istore_n 3, 1), (32, .iload_n 3, 1), (33, .ifCond .le 39, 3), (36, .iload_n 2, 1), (37, .iload_n 3, 1), (38, .iadd, 1), (39, .sipush 10000, 3), (42, .if_icmp .gt 23, 3), (45, .aload_n 0, 1), (46, .iload_n 1, 1), (47, .iload_n 2, 1), (48, .iload_n 3, 1), (49, .iadd, 1), (50, .invokevirtual 174, 3), (53, .aload_n 0, 1), (54, .getfield 124, 3), (57, .lcmp, 1), (58, .ifCond .gt 7, 3), (61, .iload_n 2, 1), (62, .iload_n 3, 1), (63, .iadd, 1), (64, .istore_n 2, 1), (65, .iload_n 3, 1), (66, .iconst 2, 1), (67, .idiv, 1), (68, .istore_n 3, 1), (69, .goto (-37), 3), (72, .iload_n 2, 1), (73, .ireturn, 1)]
def c_11 : List (Nat × Instr × Nat) := [(0, .aload_n 0, 1), (1, .invokevirtual 51, 3), (4, .aload_n 0, 1), (5, .bipush 7, 2), (7, .invokevirtual 178, 3), (10, .lreturn, 1)]
def c_12 : List (Nat × Instr × Nat) := [(0, .aload_n 0, 1), (1, .invokevirtual 51, 3), (4, .iconst 0, 1), (5, .istore_n 1, 1), (6, .iload_n 1, 1), (7, .aload_n 0, 1), (8, .getfield 77, 3), (11, .if_icmp .ge 31, 3), (14, .aload_n 0, 1), (15, .getfield 17, 3), (18, .iload_n 1, 1), (19, .aaload, 1), (20, .getfield 92, 3), (23, .ifCond .ne 13, 3), (26, .new 68, 3), (29, .dup, 1), (30, .ldc 185, 2), (32, .invokespecial 72, 3), (35, .athrow, 1), (36, .iinc 1 1, 3), (39, .goto (-33), 3), (42, .aload_n 0, 1), (43, .invokevirtual 187, 3), (46, .aload_n 0, 1), (47, .bipush 7, 2), (49, .invokevirtual 178, 3), (52, .pop2, 1), (53, .iconst 0, 1), (54, .istore_n 1, 1), (55, .iload_n 1, 1), (56, .bipush 8, 2), (58, .if_icmp .ge 14, 3), (61, .aload_n 0, 1), (62, .iload_n 1, 1), (63, .invokevirtual 190, 3), (66, .iinc 1 1, 3), (69, .goto (-14), 3), (72, .aload_n 0, 1), (73, .iconst 1, 1), (74, .putfield 182, 3), (77, .aload_n 0, 1), (78, .getfield 124, 3), (81, .lreturn, 1)]
def c_13 : List (Nat × Instr × Nat) := [(0, .aload_n 0, 1), (1, .iload_n 1, 1), (2, .invokevirtual 57, 3), (5, .astore_n 3, 1), (6, .iload_n 2, 1), (7, .tableswitch 114 0 9 #[53, 59, 65, 70, 75, 80, 85, 90, 95, 101], 53), (60, .aload_n 3, 1), (61, .getfield 193, 3), (64, .i2l, 1), (65, .lreturn, 1), (66, .aload_n 3, 1), (67, .getfield 61, 3), (70, .i2l, 1), (71, .lreturn, 1), (72, .aload_n 3, 1), (73, .getfield 133, 3), (76, .lreturn, 1), (77, .aload_n 3, 1), (78, .getfield 73, 3), (81, .lreturn, 1), (82, .aload_n 3, 1), (83, .getfield 196, 3), (86, .lreturn, 1), (87, .aload_n 3, 1), (88, .getfield 199, 3), (91, .lreturn, 1), (92, .aload_n 3, 1), (93, .getfield 146, 3), (96, .lreturn, 1), (97, .aload_n 3, 1), (98, .invokevirtual 202, 3), (101, .lreturn, 1), (102, .aload_n 0, 1), (103, .aload_n 3, 1), (104, .invokevirtual 149, 3), (107, .lreturn, 1), (108, .aload_n 3, 1), (109, .invokevirtual 143, 3), (112, .ifCond .eq 7, 3), (115, .lconst 1, 1), (116, .goto 4, 3), (119, .lconst 0, 1), (120, .lreturn, 1), (121, .new 136, 3), (124, .dup, 1), (125, .ldc 206, 2), (127, .invokespecial 140, 3), (130, .athrow, 1)]
def c_14 : List (Nat × Instr × Nat) := [(0, .iload_n 1, 1), (1, .invokestatic 32, 3), (4, .aload_n 0, 1), (5, .getfield 21, 3), (8, .iload_n 1, 1), (9, .iaload, 1), (10, .ireturn, 1)]
def c_15 : List (Nat × Instr × Nat) := [(0, .iload_n 1, 1), (1, .tableswitch 69 0 5 #[39, 44, 49, 54, 59, 64], 39), (40, .aload_n 0, 1), (41, .getfield 124, 3), (44, .lreturn, 1), (45, .aload_n 0, 1), (46, .invokevirtual 208, 3), (49, .lreturn, 1), (50, .aload_n 0, 1), (51, .getfield 114, 3), (54, .lreturn, 1), (55, .aload_n 0, 1), (56, .getfield 163, 3), (59, .lreturn, 1), (60, .aload_n 0, 1), (61, .invokevirtual 211, 3), (64, .lreturn, 1), (65, .aload_n 0, 1), (66, .invokevirtual 214, 3), (69, .lreturn, 1), (70, .ldc2_w 217, 3), (73, .lreturn, 1)]
def c_16 : List (Nat × Instr × Nat) := [(0, .aload_n 0, 1), (1, .getfield 28, 3), (4, .getfield 219, 3), (7, .ireturn, 1)]
def c_17 : List (Nat × Instr × Nat) := [(0, .aload_n 0, 1), (1, .getfield 28, 3), (4, .iload_n 1, 1), (5, .invokevirtual 220, 3), (8, .ifCond .ne 13, 3), (11, .new 223, 3), (14, .dup, 1), (15, .ldc 225, 2), (17, .invokespecial 227, 3), (20, .athrow, 1), (21, .iload_n 2, 1), (22, .tableswitch 58 0 2 #[26, 37, 48], 26), (48, .aload_n 0, 1), (49, .getfield 28, 3), (52, .getfield 228, 3), (55, .iload_n 1, 1), (56, .iaload, 1), (57, .i2l, 1), (58, .lreturn, 1), (59, .aload_n 0, 1), (60, .getfield 28, 3), (63, .getfield 231, 3), (66, .iload_n 1, 1), (67, .iaload, 1), (68, .i2l, 1), (69, .lreturn, 1), (70, .aload_n 0, 1), (71, .getfield 28, 3), (74, .getfield 234, 3), (77, .iload_n 1, 1), (78, .laload, 1), (79, .lreturn, 1), (80, .new 136, 3), (83, .dup, 1), (84, .ldc 238, 2), (86, .invokespecial 140, 3), (89, .athrow, 1)]
def c_18 : List (Nat × Instr × Nat) := [(0, .aload_n 0, 1), (1, .getfield 182, 3), (4, .ifCond .eq 13, 3), (7, .new 68, 3), (10, .dup, 1), (11, .ldc 240, 2), (13, .invokespecial 72, 3), (16, .athrow, 1), (17, .return_, 1)]
def c_19 : List (Nat × Instr × Nat) := [(0, .iload_n 0, 1), (1, .ifCond .lt 9, 3), (4, .iload_n 0, 1), (5, .bipush 8, 2), (7, .if_icmp .lt 13, 3), (10, .new 136, 3), (13, .dup, 1), (14, .ldc 242, 2), (16, .invokespecial 140, 3), (19, .athrow, 1), (20, .return_, 1)]
def c_20 : List (Nat × Instr × Nat) := [(0, .lload_n 0, 1), (1, .lload_n 2, 1), (2, .lcmp, 1), (3, .ifCond .lt 11, 3), (6, .lload_n 0, 1), (7, .ldc2_w 244, 3), (10, .lcmp, 1), (11, .ifCond .le 13, 3), (14, .new 136, 3), (17, .dup, 1), (18, .ldc 246, 2), (20, .invokespecial 140, 3), (23, .athrow, 1), (24, .return_, 1)]
def c_21 : List (Nat × Instr × Nat) := [(0, .iload_n 1, 1), (1, .ifCond .lt 11, 3), (4, .iload_n 1, 1), (5, .aload_n 0, 1), (6, .getfield 40, 3), (9, .if_icmp .lt 13, 3), (12, .new 223, 3), (15, .dup, 1), (16, .ldc 248, 2), (18, .invokespecial 227, 3), (21, .athrow, 1), (22, .aload_n 0, 1), (23, .getfield 11, 3), (26, .iload_n 1, 1), (27, .aaload, 1), (28, .areturn, 1)]
def c_22 : List (Nat × Instr × Nat) := [(0, .iload_n 1, 1), (1, .ifCond .lt 11, 3), (4, .iload_n 1, 1), (5, .aload_n 0, 1), (6, .getfield 77, 3), (9, .if_icmp .lt 13, 3), (12, .new 223, 3), (15, .dup, 1), (16, .ldc 250, 2), (18, .invokespecial 227, 3), (21, .athrow, 1), (22, .aload_n 0, 1), (23, .getfield 17, 3), (26, .iload_n 1, 1), (27, .aaload, 1), (28, .areturn, 1)]
def c_23 : List (Nat × Instr × Nat) := [(0, .aload_n 1, 1), (1, .aload_n 0, 1), (2, .getfield 21, 3), (5, .aload_n 1, 1), (6, .getfield 193, 3), (9, .iaload, 1), (10, .invokevirtual 252, 3), (13, .lreturn, 1)]
def c_24 : List (Nat × Instr × Nat) := [(0, .iconst 0, 1), (1, .istore_n 2, 1), (2, .iload_n 2, 1), (3, .aload_n 0, 1), (4, .getfield 40, 3), (7, .if_icmp .ge 49, 3), (10, .aload_n 0, 1), (11, .getfield 11, 3), (14, .iload_n 2, 1), (15, .aaload, 1), (16, .astore_n 3, 1), (17, .aload_n 3, 1), (18, .getfield 193, 3), (21, .iload_n 1, 1), (22, .if_icmp .ge 28, 3), (25, .aload_n 3, 1), (26, .getfield 61, 3), (29, .iconst 2, 1), (30, .if_icmp .eq 20, 3), (33, .aload_n 0, 1), (34, .getfield 21, 3), (37, .aload_n 3, 1), (38, .getfield 193, 3), (41, .iaload, 1), (42, .sipush 10000, 3), (45, .if_icmp .eq 5, 3), (48, .iconst 1, 1), (49, .ireturn, 1), (50, .iinc 2 1, 3), (53, .goto (-51), 3), (56, .iconst 0, 1), (57, .ireturn, 1)]
def c_25 : List (Nat × Instr × Nat) := [(0, .lconst 0, 1), (1, .lstore_n 3, 1), (2, .iconst 0, 1), (3, .istore 5, 2), (5, .iload 5, 2), (7, .aload_n 0, 1), (8, .getfield 40, 3), (11, .if_icmp .ge 66, 3), (14, .aload_n 0, 1), (15, .getfield 11, 3), (18, .iload 5, 2), (20, .aaload, 1), (21, .astore 6, 2), (23, .aload 6, 2), (25, .getfield 193, 3), (28, .iload_n 1, 1), (29, .if_icmp .ge 24, 3), (32, .lload_n 3, 1), (33, .aload 6, 2), (35, .aload_n 0, 1), (36, .getfield 21, 3), (39, .aload 6, 2), (41, .getfield 193, 3), (44, .iaload, 1), (45, .invokevirtual 255, 3), (48, .ladd, 1), (49, .lstore_n 3, 1), (50, .goto 21, 3), (53, .aload 6, 2), (55, .getfield 193, 3), (58, .iload_n 1, 1), (59, .if_icmp .ne 12, 3), (62, .lload_n 3, 1), (63, .aload 6, 2), (65, .iload_n 2, 1), (66, .invokevirtual 255, 3), (69, .ladd, 1), (70, .lstore_n 3, 1), (71, .iinc 5 1, 3), (74, .goto (-69), 3), (77, .lload_n 3, 1), (78, .lreturn, 1)]
def c_26 : List (Nat × Instr × Nat) := [(0, .lconst 0, 1), (1, .lstore_n 2, 1), (2, .iconst 0, 1), (3, .istore 4, 2), (5, .iload 4, 2), (7, .iload_n 1, 1), (8, .if_icmp .gt 80, 3), (11, .iconst 0, 1), (12, .istore 5, 2), (14, .iload 5, 2), (16, .aload_n 0, 1), (17, .getfield 40, 3), (20, .if_icmp .ge 62, 3), (23, .aload_n 0, 1), (24, .getfield 11, 3), (27, .iload 5, 2), (29, .aaload, 1), (30, .astore 6, 2), (32, .aload 6, 2), (34, .getfield 193, 3), (37, .iload 4, 2), (39, .if_icmp .ne 37, 3), (42, .aload 6, 2), (44, .aload_n 0, 1), (45, .getfield 21, 3), (48, .iload 4, 2), (50, .iaload, 1), (51, .invokevirtual 255, 3), (54, .aload_n 0, 1), (55, .getfield 124, 3), (58, .invokestatic 258, 3), (61, .lstore 7, 2), (63, .aload_n 0, 1), (64, .aload 6, 2), (66, .lload 7, 2), (68, .invokevirtual 261, 3), (71, .lload_n 2, 1), (72, .lload 7, 2), (74, .ladd, 1), (75, .lstore_n 2, 1), (76, .iinc 5 1, 3), (79, .goto (-65), 3), (82, .iinc 4 1, 3), (85, .goto (-80), 3), (88, .lload_n 2, 1), (89, .lreturn, 1)]
def c_27 : List (Nat × Instr × Nat) := [(0, .aload_n 0, 1), (1, .dup, 1), (2, .getfield 124, 3), (5, .lload_n 2, 1), (6, .lsub, 1), (7, .putfield 124, 3), (10, .aload_n 1, 1), (11, .invokevirtual 143, 3), (14, .ifCond .eq 29, 3), (17, .aload_n 1, 1), (18, .dup, 1), (19, .getfield 146, 3), (22, .lload_n 2, 1), (23, .ladd, 1), (24, .putfield 146, 3), (27, .aload_n 0, 1), (28, .getfield 28, 3), (31, .iconst 5, 1), (32, .aload_n 1, 1), (33, .getfield 264, 3), (36, .lload_n 2, 1), (37, .invokevirtual 117, 3), (40, .goto 26, 3), (43, .aload_n 1, 1), (44, .dup, 1), (45, .getfield 199, 3), (48, .lload_n 2, 1), (49, .ladd, 1), (50, .putfield 199, 3), (53, .aload_n 0, 1), (54, .getfield 28, 3), (57, .iconst 4, 1), (58, .aload_n 1, 1), (59, .getfield 264, 3), (62, .lload_n 2, 1), (63, .invokevirtual 117, 3), (66, .return_, 1)]
def c_28 : List (Nat × Instr × Nat) := [(0, .lconst 0, 1), (1, .lstore 4, 2), (3, .iconst 0, 1), (4, .istore 6, 2), (6, .iload 6, 2), (8, .aload_n 1, 1), (9, .getfield 87, 3), (12, .if_icmp .ge 87, 3), (15, .aload_n 1, 1), (16, .getfield 267, 3), (19, .iload 6, 2), (21, .aaload, 1), (22, .astore 7, 2), (24, .aload_n 1, 1), (25, .getfield 270, 3), (28, .iload 6, 2), (30, .laload, 1), (31, .aload 7, 2), (33, .invokevirtual 202, 3), (36, .invokestatic 258, 3), (39, .lload_n 2, 1), (40, .lload 4, 2), (42, .lsub, 1), (43, .invokestatic 258, 3), (46, .lstore 8, 2), (48, .aload 7, 2), (50, .dup, 1), (51, .getfield 196, 3), (54, .lload 8, 2), (56, .ladd, 1), (57, .putfield 196, 3), (60, .aload 7, 2), (62, .dup, 1), (63, .getfield 106, 3), (66, .iconst 1, 1), (67, .isub, 1), (68, .putfield 106, 3), (71, .lload 4, 2), (73, .lload 8, 2), (75, .ladd, 1), (76, .lstore 4, 2), (78, .aload_n 0, 1), (79, .getfield 28, 3), (82, .iconst 2, 1), (83, .aload 7, 2), (85, .getfield 264, 3), (88, .lload 8, 2), (90, .invokevirtual 117, 3), (93, .iinc 6 1, 3), (96, .goto (-90), 3), (99, .lload 4, 2), (101, .lreturn, 1)]
def c_29 : List (Nat × Instr × Nat) := [(0, .aload_n 1, 1), (1, .invokevirtual 143, 3), (4, .ifCond .ne 12, 3), (7, .aload_n 1, 1), (8, .getfield 146, 3), (11, .lconst 0, 1), (12, .lcmp, 1), (13, .ifCond .ne 5, 3), (16, .lconst 0, 1), (17, .lreturn, 1), (18, .lconst 0, 1), (19, .aload_n 0, 1), (20, .aload_n 1, 1), (21, .invokevirtual 149, 3), (24, .aload_n 1, 1), (25, .getfield 199, 3), (28, .lsub, 1), (29, .invokestatic 152, 3), (32, .aload_n 1, 1), (33, .getfield 146, 3), (36, .invokestatic 258, 3), (39, .lstore_n 2, 1), (40, .aload_n 1, 1), (41, .dup, 1), (42, .getfield 146, 3), (45, .lload_n 2, 1), (46, .lsub, 1), (47, .putfield 146, 3), (50, .aload_n 1, 1), (51, .dup, 1), (52, .getfield 199, 3), (55, .lload_n 2, 1), (56, .ladd, 1), (57, .putfield 199, 3), (60, .aload_n 0, 1), (61, .getfield 28, 3), (64, .bipush 6, 2), (66, .aload_n 1, 1), (67, .getfield 264, 3), (70, .lload_n 2, 1), (71, .invokevirtual 117, 3), (74, .aload_n 0, 1), (75, .aload_n 1, 1), (76, .aload_n 1, 1), (77, .getfield 146, 3), (80, .invokevirtual 158, 3), (83, .lload_n 2, 1), (84, .lreturn, 1)]
def c_30 : List (Nat × Instr × Nat) := [(0, .aload_n 1, 1), (1, .dup, 1), (2, .getfield 146, 3), (5, .lload_n 2, 1), (6, .lsub, 1), (7, .putfield 146, 3), (10, .aload_n 0, 1), (11, .dup, 1), (12, .getfield 124, 3), (15, .lload_n 2, 1), (16, .ladd, 1), (17, .putfield 124, 3), (20, .aload_n 0, 1), (21, .getfield 28, 3), (24, .bipush 7, 2), (26, .aload_n 1, 1), (27, .getfield 264, 3), (30, .lload_n 2, 1), (31, .invokevirtual 117, 3), (34, .return_, 1)]
def c_31 : List (Nat × Instr × Nat) := [(0, .iconst 0, 1), (1, .istore_n 1, 1), (2, .iload_n 1, 1), (3, .aload_n 0, 1), (4, .getfield 40, 3), (7, .if_icmp .ge 38, 3), (10, .aload_n 0, 1), (11, .getfield 11, 3), (14, .iload_n 1, 1), (15, .aaload, 1), (16, .astore_n 2, 1), (17, .aload_n 2, 1), (18, .getfield 61, 3), (21, .iconst 1, 1), (22, .if_icmp .ne 17, 3), (25, .aload_n 2, 1), (26, .iconst 2, 1), (27, .putfield 61, 3), (30, .aload_n 0, 1), (31, .aload_n 2, 1), (32, .aload_n 2, 1), (33, .getfield 146, 3), (36, .invokevirtual 158, 3), (39, .iinc 1 1, 3), (42, .goto (-40), 3), (45, .return_, 1)]
def c_32 : List (Nat × Instr × Nat) := [(0, .lconst 0, 1), (1, .lstore_n 2, 1), (2, .iconst 0, 1), (3, .istore 4, 2), (5, .iload 4, 2), (7, .aload_n 0, 1), (8, .getfield 40, 3), (11, .if_icmp .ge 36, 3), (14, .aload_n 0, 1), (15, .getfield 11, 3), (18, .iload 4, 2), (20, .aaload, 1), (21, .getfield 193, 3), (24, .iload_n 1, 1), (25, .if_icmp .ne 16, 3), (28, .lload_n 2, 1), (29, .aload_n 0, 1), (30, .getfield 11, 3), (33, .iload 4, 2), (35, .aaload, 1), (36, .invokevirtual 273, 3), (39, .ladd, 1), (40, .lstore_n 2, 1), (41, .iinc 4 1, 3), (44, .goto (-39), 3), (47, .aload_n 0, 1), (48, .getfield 124, 3), (51, .lload_n 2, 1), (52, .lcmp, 1), (53, .ifCond .ge 10, 3), (56, .aload_n 0, 1), (57, .iload_n 1, 1), (58, .lload_n 2, 1), (59, .invokevirtual 276, 3), (62, .return_, 1), (63, .iconst 0, 1), (64, .istore 4, 2), (66, .iload 4, 2), (68, .aload_n 0, 1), (69, .getfield 40, 3), (72, .if_icmp .ge 44, 3), (75, .aload_n 0, 1), (76, .getfield 11, 3), (79, .iload 4, 2), (81, .aaload, 1), (82, .getfield 193, 3), (85, .iload_n 1, 1), (86, .if_icmp .ne 24, 3), (89, .aload_n 0, 1), (90, .aload_n 0, 1), (91, .getfield 11, 3), (94, .iload 4, 2), (96, .aaload, 1), (97, .aload_n 0, 1), (98, .getfield 11, 3), (101, .iload 4, 2), (103, .aaload, 1), (104, .invokevirtual 273, 3), (107, .invokevirtual 280, 3), (110, .iinc 4 1, 3), (113, .goto (-47), 3), (116, .return_, 1)]
def c_33 : List (Nat × Instr × Nat) := [(0, .aload_n 0, 1), (1, .getfield 124, 3), (4, .lstore 4, 2), (6, .lload 4, 2), (8, .lstore 6, 2), (10, .aload_n 0, 1), (11, .getfield 40, 3), (14, .newarray .long, 2), (16, .astore 8, 2), (18, .aload_n 0, 1), (19, .getfield 40, 3), (22, .newarray .long, 2), (24, .astore 9, 2), (26, .iconst 0, 1), (27, .istore 10, 2), (29, .iload 10, 2), (31, .aload_n 0, 1), (32, .getfield 40, 3), (35, .if_icmp .ge 72, 3), (38, .aload_n 0, 1), (39, .getfield 11, 3), (42, .iload 10, 2), (44, .aaload, 1), (45, .getfield 193, 3), (48, .iload_n 1, 1), (49, .if_icmp .ne 52, 3), (52, .lload_n 2, 1), (53, .lconst 0, 1), (54, .lcmp, 1), (55, .ifCond .le 46, 3), (58, .aload_n 0, 1), (59, .getfield 11, 3), (62, .iload 10, 2), (64, .aaload, 1), (65, .invokevirtual 273, 3), (68, .lload 4, 2), (70, .lmul, 1), (71, .lstore 11, 2), (73, .aload 8, 2), (75, .iload 10, 2), (77, .lload 11, 2), (79, .lload_n 2, 1), (80, .ldiv, 1), (81, .lastore, 1), (82, .aload 9, 2), (84, .iload 10, 2), (86, .lload 11, 2), (88, .lload_n 2, 1), (89, .lrem, 1), (90, .lastore, 1), (91, .lload 6, 2), (93, .aload 8, 2), (95, .iload 10, 2), (97, .laload, 1), (98, .lsub, 1), (99, .lstore 6, 2), (101, .iinc 10 1, 3), (104, .goto (-75), 3), (107, .aload 8, 2), (109, .aload 9, 2), (111, .lload 6, 2), (113, .invokestatic 283, 3), (116, .iconst 0, 1), (117, .istore 10, 2), (119, .iload 10, 2), (121, .aload_n 0, 1), (122, .getfield 40, 3), (125, .if_icmp .ge 25, 3), (128, .aload_n 0, 1), (129, .aload_n 0, 1), (130, .getfield 11, 3), (133, .iload 10, 2), (135, .aaload, 1), (136, .aload 8, 2), (138, .iload 10, 2), (140, .laload, 1), (141, .invokevirtual 280, 3), (144, .iinc 10 1, 3), (147, .goto (-28), 3), (150, .return_, 1)]
def c_34 : List (Nat × Instr × Nat) := [(0, .lconst 0, 1), (1, .lstore 4, 2), (3, .lload 4, 2), (5, .lload_n 2, 1), (6, .lcmp, 1), (7, .ifCond .ge 74, 3), (10, .iconst (-1), 1), (11, .istore 6, 2), (13, .lconst 0, 1), (14, .lstore 7, 2), (16, .iconst 0, 1), (17, .istore 9, 2), (19, .iload 9, 2), (21, .aload_n 1, 1), (22, .arraylength, 1), (23, .if_icmp .ge 29, 3), (26, .aload_n 1, 1), (27, .iload 9, 2), (29, .laload, 1), (30, .lload 7, 2), (32, .lcmp, 1), (33, .ifCond .le 13, 3), (36, .iload 9, 2), (38, .istore 6, 2), (40, .aload_n 1, 1), (41, .iload 9, 2), (43, .laload, 1), (44, .lstore 7, 2), (46, .iinc 9 1, 3), (49, .goto (-30), 3), (52, .iload 6, 2), (54, .iconst (-1), 1), (55, .if_icmp .ne 4, 3), (58, .return_, 1), (59, .aload_n 0, 1), (60, .iload 6, 2), (62, .dup2, 1), (63, .laload, 1), (64, .lconst 1, 1), (65, .ladd, 1), (66, .lastore, 1), (67, .aload_n 1, 1), (68, .iload 6, 2), (70, .lconst 0, 1), (71, .lastore, 1), (72, .lload 4, 2), (74, .lconst 1, 1), (75, .ladd, 1), (76, .lstore 4, 2), (78, .goto (-75), 3), (81, .return_, 1)]
def c_35 : List (Nat × Instr × Nat) := [(0, .aload_n 0, 1), (1, .dup, 1), (2, .getfield 124, 3), (5, .lload_n 2, 1), (6, .lsub, 1), (7, .putfield 124, 3), (10, .aload_n 1, 1), (11, .dup, 1), (12, .getfield 199, 3), (15, .lload_n 2, 1), (16, .ladd, 1), (17, .putfield 199, 3), (20, .aload_n 0, 1), (21, .getfield 28, 3), (24, .bipush 8, 2), (26, .aload_n 1, 1), (27, .getfield 264, 3), (30, .lload_n 2, 1), (31, .invokevirtual 117, 3), (34, .return_, 1)]
def c_36 : List (Nat × Instr × Nat) := [(0, .lconst 0, 1), (1, .lstore_n 1, 1), (2, .iconst 0, 1), (3, .istore_n 3, 1), (4, .iload_n 3, 1), (5, .aload_n 0, 1), (6, .getfield 40, 3), (9, .if_icmp .ge 21, 3), (12, .lload_n 1, 1), (13, .aload_n 0, 1), (14, .getfield 11, 3), (17, .iload_n 3, 1), (18, .aaload, 1), (19, .getfield 146, 3), (22, .ladd, 1), (23, .lstore_n 1, 1), (24, .iinc 3 1, 3), (27, .goto (-23), 3), (30, .lload_n 1, 1), (31, .lreturn, 1)]
def c_37 : List (Nat × Instr × Nat) := [(0, .lconst 0, 1), (1, .lstore_n 1, 1), (2, .iconst 0, 1), (3, .istore_n 3, 1), (4, .iload_n 3, 1), (5, .aload_n 0, 1), (6, .getfield 40, 3), (9, .if_icmp .ge 21, 3), (12, .lload_n 1, 1), (13, .aload_n 0, 1), (14, .getfield 11, 3), (17, .iload_n 3, 1), (18, .aaload, 1), (19, .getfield 196, 3), (22, .ladd, 1), (23, .lstore_n 1, 1), (24, .iinc 3 1, 3), (27, .goto (-23), 3), (30, .lload_n 1, 1), (31, .lreturn, 1)]
def c_38 : List (Nat × Instr × Nat) := [(0, .lconst 0, 1), (1, .lstore_n 1, 1), (2, .iconst 0, 1), (3, .istore_n 3, 1), (4, .iload_n 3, 1), (5, .aload_n 0, 1), (6, .getfield 40, 3), (9, .if_icmp .ge 21, 3), (12, .lload_n 1, 1), (13, .aload_n 0, 1), (14, .getfield 11, 3), (17, .iload_n 3, 1), (18, .aaload, 1), (19, .getfield 199, 3), (22, .ladd, 1), (23, .lstore_n 1, 1), (24, .iinc 3 1, 3), (27, .goto (-23), 3), (30, .lload_n 1, 1), (31, .lreturn, 1)]
def c_39 : List (Nat × Instr × Nat) := [(0, .aload_n 0, 1), (1, .invokespecial 3, 3), (4, .aload_n 0, 1), (5, .iload_n 1, 1), (6, .putfield 9, 3), (9, .aload_n 0, 1), (10, .iload_n 2, 1), (11, .putfield 15, 3), (14, .aload_n 0, 1), (15, .lload_n 3, 1), (16, .putfield 18, 3), (19, .aload_n 0, 1), (20, .iconst 0, 1), (21, .putfield 22, 3), (24, .return_, 1)]
def c_40 : List (Nat × Instr × Nat) := [(0, .aload_n 0, 1), (1, .getfield 22, 3), (4, .iconst 1, 1), (5, .if_icmp .eq 18, 3), (8, .aload_n 0, 1), (9, .getfield 22, 3), (12, .iconst 2, 1), (13, .if_icmp .eq 14, 3), (16, .aload_n 0, 1), (17, .getfield 25, 3), (20, .ifCond .le 7, 3), (23, .iconst 1, 1), (24, .goto 4, 3), (27, .iconst 0, 1), (28, .ireturn, 1)]
def c_41 : List (Nat × Instr × Nat) := [(0, .aload_n 0, 1), (1, .getfield 28, 3), (4, .lconst 0, 1), (5, .lcmp, 1), (6, .ifCond .ne 16, 3), (9, .aload_n 0, 1), (10, .getfield 31, 3), (13, .lconst 0, 1), (14, .lcmp, 1), (15, .ifCond .ne 7, 3), (18, .iconst 1, 1), (19, .goto 4, 3), (22, .iconst 0, 1), (23, .ireturn, 1)]
def c_42 : List (Nat × Instr × Nat) := [(0, .aload_n 0, 1), (1, .getfield 22, 3), (4, .iconst 2, 1), (5, .if_icmp .ne 7, 3), (8, .lconst 0, 1), (9, .goto 21, 3), (12, .lconst 0, 1), (13, .aload_n 0, 1), (14, .getfield 18, 3), (17, .aload_n 0, 1), (18, .getfield 34, 3), (21, .lsub, 1), (22, .aload_n 0, 1), (23, .getfield 37, 3), (26, .lsub, 1), (27, .invokestatic 40, 3), (30, .lreturn, 1)]
def c_43 : List (Nat × Instr × Nat) := [(0, .aload_n 0, 1), (1, .invokevirtual 46, 3), (4, .iload_n 1, 1), (5, .i2l, 1), (6, .lmul, 1), (7, .ldc2_w 50, 3), (10, .ldiv, 1), (11, .lreturn, 1)]
def c_44 : List (Nat × Instr × Nat) := [(0, .lconst 0, 1), (1, .aload_n 0, 1), (2, .iload_n 1, 1), (3, .invokevirtual 52, 3), (6, .aload_n 0, 1), (7, .getfield 28, 3), (10, .lsub, 1), (11, .aload_n 0, 1), (12, .getfield 31, 3), (15, .lsub, 1), (16, .invokestatic 40, 3), (19, .lreturn, 1)]
def c_45 : List (Nat × Instr × Nat) := [(0, .lconst 0, 1), (1, .aload_n 0, 1), (2, .invokevirtual 46, 3), (5, .aload_n 0, 1), (6, .getfield 28, 3), (9, .lsub, 1), (10, .invokestatic 40, 3), (13, .lreturn, 1)]
def c_46 : List (Nat × Instr × Nat) := [(0, .aload_n 0, 1), (1, .invokespecial 3, 3), (4, .aload_n 0, 1), (5, .iconst 4, 1), (6, .anewarray 9, 3), (9, .putfield 11, 3), (12, .aload_n 0, 1), (13, .iconst 4, 1), (14, .newarray .long, 2), (16, .putfield 17, 3), (19, .return_, 1)]
def c_47 : List (Nat × Instr × Nat) := [(0, .aload_n 0, 1), (1, .getfield 11, 3), (4, .aload_n 0, 1), (5, .getfield 21, 3), (8, .aload_n 1, 1), (9, .aastore, 1), (10, .aload_n 0, 1), (11, .getfield 17, 3), (14, .aload_n 0, 1), (15, .getfield 21, 3), (18, .lload_n 2, 1), (19, .lastore, 1), (20, .aload_n 0, 1), (21, .dup, 1), (22, .getfield 21, 3), (25, .iconst 1, 1), (26, .iadd, 1), (27, .putfield 21, 3), (30, .return_, 1)]
def c_48 : List (Nat × Instr × Nat) := [(0, .iconst 0, 1), (1, .istore_n 2, 1), (2, .iload_n 2, 1), (3, .aload_n 0, 1), (4, .getfield 21, 3), (7, .if_icmp .ge 21, 3), (10, .aload_n 0, 1), (11, .getfield 11, 3), (14, .iload_n 2, 1), (15, .aaload, 1), (16, .aload_n 1, 1), (17, .if_acmp .ne 5, 3), (20, .iconst 1, 1), (21, .ireturn, 1), (22, .iinc 2 1, 3), (25, .goto (-23), 3), (28, .iconst 0, 1), (29, .ireturn, 1)]
def c_49 : List (Nat × Instr × Nat) := [(0, .iconst 0, 1), (1, .istore_n 1, 1), (2, .iload_n 1, 1), (3, .aload_n 0, 1), (4, .getfield 21, 3), (7, .if_icmp .ge 24, 3), (10, .aload_n 0, 1), (11, .getfield 11, 3), (14, .iload_n 1, 1), (15, .aaload, 1), (16, .getfield 25, 3), (19, .iconst 1, 1), (20, .if_icmp .ne 5, 3), (23, .iconst 1, 1), (24, .ireturn, 1), (25, .iinc 1 1, 3), (28, .goto (-26), 3), (31, .iconst 0, 1), (32, .ireturn, 1)]
def c_50 : List (Nat × Instr × Nat) := [(0, .aload_n 0, 1), (1, .invokespecial 3, 3), (4, .aload_n 0, 1), (5, .sipush 3000, 3), (8, .newarray .int, 2), (10, .putfield 9, 3), (13, .aload_n 0, 1), (14, .sipush 3000, 3), (17, .newarray .int, 2), (19, .putfield 15, 3), (22, .aload_n 0, 1), (23, .sipush 3000, 3), (26, .newarray .long, 2), (28, .putfield 18, 3), (31, .return_, 1)]
def c_51 : List (Nat × Instr × Nat) := [(0, .lload_n 3, 1), (1, .lconst 0, 1), (2, .lcmp, 1), (3, .ifCond .ne 4, 3), (6, .return_, 1), (7, .aload_n 0, 1), (8, .getfield 22, 3), (11, .sipush 3000, 3), (14, .if_icmp .ge 33, 3), (17, .aload_n 0, 1), (18, .getfield 9, 3), (21, .aload_n 0, 1), (22, .getfield 22, 3), (25, .iload_n 1, 1), (26, .iastore, 1), (27, .aload_n 0, 1), (28, .getfield 15, 3), (31, .aload_n 0, 1), (32, .getfield 22, 3), (35, .iload_n 2, 1), (36, .iastore, 1), (37, .aload_n 0, 1), (38, .getfield 18, 3), (41, .aload_n 0, 1), (42, .getfield 22, 3), (45, .lload_n 3, 1), (46, .lastore, 1), (47, .aload_n 0, 1), (48, .dup, 1), (49, .getfield 22, 3), (52, .iconst 1, 1), (53, .iadd, 1), (54, .putfield 22, 3), (57, .return_, 1)]
def c_52 : List (Nat × Instr × Nat) := [(0, .iload_n 1, 1), (1, .ifCond .lt 22, 3), (4, .iload_n 1, 1), (5, .aload_n 0, 1), (6, .getfield 22, 3), (9, .if_icmp .ge 14, 3), (12, .iload_n 1, 1), (13, .sipush 3000, 3), (16, .if_icmp .ge 7, 3), (19, .iconst 1, 1), (20, .goto 4, 3), (23, .iconst 0, 1), (24, .ireturn, 1)]
def c_53 : List (Nat × Instr × Nat) := [(0, .aload_n 0, 1), (1, .invokespecial 1, 3), (4, .aload_n 0, 1), (5, .bipush 60, 2), (7, .newarray .int, 2), (9, .putfield 7, 3), (12, .aload_n 0, 1), (13, .bipush 60, 2), (15, .newarray .long, 2), (17, .putfield 13, 3), (20, .aload_n 0, 1), (21, .bipush 60, 2), (23, .newarray .long, 2), (25, .putfield 17, 3), (28, .aload_n 0, 1), (29, .bipush 60, 2), (31, .newarray .long, 2), (33, .putfield 20, 3), (36, .aload_n 0, 1), (37, .bipush 60, 2), (39, .newarray .long, 2), (41, .putfield 23, 3), (44, .aload_n 0, 1), (45, .bipush 60, 2), (47, .newarray .long, 2), (49, .putfield 26, 3), (52, .aload_n 0, 1), (53, .bipush 60, 2), (55, .newarray .int, 2), (57, .putfield 29, 3), (60, .aload_n 0, 1), (61, .bipush 20, 2), (63, .newarray .boolean, 2), (65, .putfield 32, 3), (68, .aload_n 0, 1), (69, .bipush 20, 2), (71, .newarray .int, 2), (73, .putfield 36, 3), (76, .aload_n 0, 1), (77, .bipush 80, 2), (79, .newarray .int, 2), (81, .putfield 39, 3), (84, .aload_n 0, 1), (85, .bipush 80, 2), (87, .newarray .long, 2), (89, .putfield 42, 3), (92, .aload_n 0, 1), (93, .bipush 8, 2), (95, .newarray .int, 2), (97, .putfield 45, 3), (100, .aload_n 0, 1), (101, .sipush 3000, 3), (104, .newarray .int, 2), (106, .putfield 48, 3), (109, .aload_n 0, 1), (110, .sipush 3000, 3), (113, .newarray .int, 2), (115, .putfield 51, 3), (118, .aload_n 0, 1), (119, .sipush 3000, 3), (122, .newarray .long, 2), (124, .putfield 54, 3), (127, .aload_n 0, 1), (128, .bipush 60, 2), (130, .newarray .long, 2), (132, .putfield 57, 3), (135, .aload_n 0, 1), (136, .bipush 60, 2), (138, .newarray .long, 2), (140, .putfield 60, 3), (143, .aload_n 0, 1), (144, .bipush 60, 2), (146, .newarray .long, 2), (148, .putfield 63, 3), (151, .return_, 1)]
def c_54 : List (Nat × Instr × Nat) := [(0, .aload_n 0, 1), (1, .getfield 66, 3), (4, .ireturn, 1)]
def c_55 : List (Nat × Instr × Nat) := [(0, .lload_n 0, 1), (1, .lload_n 2, 1), (2, .lcmp, 1), (3, .ifCond .lt 14, 3), (6, .lload_n 0, 1), (7, .lload 4, 2), (9, .lcmp, 1), (10, .ifCond .gt 7, 3), (13, .iconst 1, 1), (14, .goto 4, 3), (17, .iconst 0, 1), (18, .ireturn, 1)]
def c_56 : List (Nat × Instr × Nat) := [(0, .iload_n 1, 1), (1, .i2l, 1), (2, .lconst 0, 1), (3, .aload_n 0, 1), (4, .getfield 70, 3), (7, .iconst 1, 1), (8, .isub, 1), (9, .i2l, 1), (10, .invokestatic 73, 3), (13, .ireturn, 1)]
def c_57 : List (Nat × Instr × Nat) := [(0, .iload_n 1, 1), (1, .i2l, 1), (2, .lconst 0, 1), (3, .aload_n 0, 1), (4, .getfield 77, 3), (7, .iconst 1, 1), (8, .isub, 1), (9, .i2l, 1), (10, .invokestatic 73, 3), (13, .ireturn, 1)]
def c_58 : List (Nat × Instr × Nat) := [(0, .iload_n 0, 1), (1, .i2l, 1), (2, .lconst 0, 1), (3, .ldc2_w 80, 3), (6, .invokestatic 73, 3), (9, .ireturn, 1)]
def c_59 : List (Nat × Instr × Nat) := [(0, .lload_n 3, 1), (1, .lconst 0, 1), (2, .lcmp, 1), (3, .ifCond .ne 4, 3), (6, .return_, 1), (7, .aload_n 0, 1), (8, .getfield 82, 3), (11, .sipush 3000, 3), (14, .if_icmp .ge 33, 3), (17, .aload_n 0, 1), (18, .getfield 48, 3), (21, .aload_n 0, 1), (22, .getfield 82, 3), (25, .iload_n 1, 1), (26, .iastore, 1), (27, .aload_n 0, 1), (28, .getfield 51, 3), (31, .aload_n 0, 1), (32, .getfield 82, 3), (35, .iload_n 2, 1), (36, .iastore, 1), (37, .aload_n 0, 1), (38, .getfield 54, 3), (41, .aload_n 0, 1), (42, .getfield 82, 3), (45, .lload_n 3, 1), (46, .lastore, 1), (47, .aload_n 0, 1), (48, .dup, 1), (49, .getfield 82, 3), (52, .iconst 1, 1), (53, .iadd, 1), (54, .putfield 82, 3), (57, .return_, 1)]
def c_60 : List (Nat × Instr × Nat) := [(0, .aload_n 0, 1), (1, .getfield 13, 3), (4, .iload_n 1, 1), (5, .laload, 1), (6, .aload_n 0, 1), (7, .getfield 17, 3), (10, .iload_n 1, 1), (11, .laload, 1), (12, .lsub, 1), (13, .aload_n 0, 1), (14, .getfield 20, 3), (17, .iload_n 1, 1), (18, .laload, 1), (19, .lsub, 1), (20, .lstore_n 2, 1), (21, .aload_n 0, 1), (22, .getfield 29, 3), (25, .iload_n 1, 1), (26, .iaload, 1), (27, .iconst 2, 1), (28, .if_icmp .eq 9, 3), (31, .lload_n 2, 1), (32, .lconst 0, 1), (33, .lcmp, 1), (34, .ifCond .ge 7, 3), (37, .lconst 0, 1), (38, .goto 4, 3), (41, .lload_n 2, 1), (42, .lreturn, 1)]
def c_61 : List (Nat × Instr × Nat) := [(0, .iconst 0, 1), (1, .istore_n 3, 1), (2, .iconst 4, 1), (3, .iload_n 1, 1), (4, .imul, 1), (5, .istore 4, 2), (7, .iload 4, 2), (9, .iconst 4, 1), (10, .iload_n 1, 1), (11, .imul, 1), (12, .aload_n 0, 1), (13, .getfield 36, 3), (16, .iload_n 1, 1), (17, .iaload, 1), (18, .iadd, 1), (19, .if_icmp .ge 30, 3), (22, .iload_n 3, 1), (23, .ifCond .ne 14, 3), (26, .aload_n 0, 1), (27, .getfield 39, 3), (30, .iload 4, 2), (32, .iaload, 1), (33, .iload_n 2, 1), (34, .if_icmp .ne 7, 3), (37, .iconst 1, 1), (38, .goto 4, 3), (41, .iconst 0, 1), (42, .istore_n 3, 1), (43, .iinc 4 1, 3), (46, .goto (-39), 3), (49, .iload_n 3, 1), (50, .ireturn, 1)]
def c_62 : List (Nat × Instr × Nat) := [(0, .aload_n 0, 1), (1, .getfield 29, 3), (4, .iload_n 1, 1), (5, .iaload, 1), (6, .iconst 1, 1), (7, .if_icmp .ne 7, 3), (10, .iconst 1, 1), (11, .goto 4, 3), (14, .iconst 0, 1), (15, .istore_n 2, 1), (16, .iconst 0, 1), (17, .istore_n 3, 1), (18, .iload_n 3, 1), (19, .aload_n 0, 1), (20, .getfield 77, 3), (23, .if_icmp .ge 37, 3), (26, .iload_n 2, 1), (27, .ifCond .ne 21, 3), (30, .aload_n 0, 1), (31, .getfield 32, 3), (34, .iload_n 3, 1), (35, .baload, 1), (36, .ifCond .ne 16, 3), (39, .aload_n 0, 1), (40, .iload_n 3, 1), (41, .iload_n 1, 1), (42, .invokevirtual 85, 3), (45, .ifCond .eq 7, 3), (48, .iconst 1, 1), (49, .goto 4, 3), (52, .iconst 0, 1), (53, .istore_n 2, 1), (54, .iinc 3 1, 3), (57, .goto (-39), 3), (60, .iload_n 2, 1), (61, .ifCond .eq 17, 3), (64, .aload_n 0, 1), (65, .getfield 29, 3), (68, .iload_n 1, 1), (69, .iaload, 1), (70, .iconst 2, 1), (71, .if_icmp .eq 7, 3), (74, .iconst 1, 1), (75, .goto 4, 3), (78, .iconst 0, 1), (79, .ireturn, 1)]
def c_63 : List (Nat × Instr × Nat) := [(0, .aload_n 0, 1), (1, .getfield 23, 3), (4, .iload_n 1, 1), (5, .laload, 1), (6, .lconst 0, 1), (7, .lcmp, 1), (8, .ifCond .ne 18, 3), (11, .aload_n 0, 1), (12, .getfield 26, 3), (15, .iload_n 1, 1), (16, .laload, 1), (17, .lconst 0, 1), (18, .lcmp, 1), (19, .ifCond .ne 7, 3), (22, .iconst 1, 1), (23, .goto 4, 3), (26, .iconst 0, 1), (27, .ireturn, 1)]
def c_64 : List (Nat × Instr × Nat) := [(0, .aload_n 0, 1), (1, .iload_n 1, 1), (2, .invokevirtual 89, 3), (5, .iload_n 2, 1), (6, .i2l, 1), (7, .lmul, 1), (8, .ldc2_w 93, 3), (11, .ldiv, 1), (12, .lreturn, 1)]
def c_65 : List (Nat × Instr × Nat) := [(0, .aload_n 0, 1), (1, .iload_n 1, 1), (2, .aload_n 0, 1), (3, .getfield 45, 3), (6, .aload_n 0, 1), (7, .getfield 7, 3), (10, .iload_n 1, 1), (11, .iaload, 1), (12, .iaload, 1), (13, .invokevirtual 95, 3), (16, .lreturn, 1)]
def c_66 : List (Nat × Instr × Nat) := [(0, .aload_n 0, 1), (1, .iload_n 1, 1), (2, .iload_n 2, 1), (3, .invokevirtual 95, 3), (6, .aload_n 0, 1), (7, .getfield 23, 3), (10, .iload_n 1, 1), (11, .laload, 1), (12, .lsub, 1), (13, .aload_n 0, 1), (14, .getfield 26, 3), (17, .iload_n 1, 1), (18, .laload, 1), (19, .lsub, 1), (20, .lstore_n 3, 1), (21, .lload_n 3, 1), (22, .lconst 0, 1), (23, .lcmp, 1), (24, .ifCond .ge 7, 3), (27, .lconst 0, 1), (28, .goto 4, 3), (31, .lload_n 3, 1), (32, .lreturn, 1)]
def c_67 : List (Nat × Instr × Nat) := [(0, .aload_n 0, 1), (1, .dup, 1), (2, .getfield 99, 3), (5, .lload_n 2, 1), (6, .lsub, 1), (7, .putfield 99, 3), (10, .aload_n 0, 1), (11, .iload_n 1, 1), (12, .invokevirtual 103, 3), (15, .ifCond .eq 23, 3), (18, .aload_n 0, 1), (19, .getfield 26, 3), (22, .iload_n 1, 1), (23, .dup2, 1), (24, .laload, 1), (25, .lload_n 2, 1), (26, .ladd, 1), (27, .lastore, 1), (28, .aload_n 0, 1), (29, .iconst 5, 1), (30, .iload_n 1, 1), (31, .lload_n 2, 1), (32, .invokevirtual 107, 3), (35, .goto 20, 3), (38, .aload_n 0, 1), (39, .getfield 23, 3), (42, .iload_n 1, 1), (43, .dup2, 1), (44, .laload, 1), (45, .lload_n 2, 1), (46, .ladd, 1), (47, .lastore, 1), (48, .aload_n 0, 1), (49, .iconst 4, 1), (50, .iload_n 1, 1), (51, .lload_n 2, 1), (52, .invokevirtual 107, 3), (55, .return_, 1)]
def c_68 : List (Nat × Instr × Nat) := [(0, .aload_n 0, 1), (1, .getfield 26, 3), (4, .iload_n 1, 1), (5, .dup2, 1), (6, .laload, 1), (7, .lload_n 2, 1), (8, .lsub, 1), (9, .lastore, 1), (10, .aload_n 0, 1), (11, .dup, 1), (12, .getfield 99, 3), (15, .lload_n 2, 1), (16, .ladd, 1), (17, .putfield 99, 3), (20, .aload_n 0, 1), (21, .bipush 7, 2), (23, .iload_n 1, 1), (24, .lload_n 2, 1), (25, .invokevirtual 107, 3), (28, .return_, 1)]
def c_69 : List (Nat × Instr × Nat) := [(0, .aload_n 0, 1), (1, .iload_n 1, 1), (2, .invokevirtual 103, 3), (5, .ifCond .ne 14, 3), (8, .aload_n 0, 1), (9, .getfield 26, 3), (12, .iload_n 1, 1), (13, .laload, 1), (14, .lconst 0, 1), (15, .lcmp, 1), (16, .ifCond .ne 5, 3), (19, .lconst 0, 1), (20, .lreturn, 1), (21, .aload_n 0, 1), (22, .iload_n 1, 1), (23, .invokevirtual 111, 3), (26, .aload_n 0, 1), (27, .getfield 23, 3), (30, .iload_n 1, 1), (31, .laload, 1), (32, .lsub, 1), (33, .lstore_n 2, 1), (34, .lload_n 2, 1), (35, .lconst 0, 1), (36, .lcmp, 1), (37, .ifCond .ge 7, 3), (40, .lconst 0, 1), (41, .goto 4, 3), (44, .lload_n 2, 1), (45, .lstore_n 2, 1), (46, .lload_n 2, 1), (47, .aload_n 0, 1), (48, .getfield 26, 3), (51, .iload_n 1, 1), (52, .laload, 1), (53, .lcmp, 1), (54, .ifCond .le 12, 3), (57, .aload_n 0, 1), (58, .getfield 26, 3), (61, .iload_n 1, 1), (62, .laload, 1), (63, .goto 4, 3), (66, .lload_n 2, 1), (67, .lstore_n 2, 1), (68, .aload_n 0, 1), (69, .getfield 23, 3), (72, .iload_n 1, 1), (73, .dup2, 1), (74, .laload, 1), (75, .lload_n 2, 1), (76, .ladd, 1), (77, .lastore, 1), (78, .aload_n 0, 1), (79, .getfield 26, 3), (82, .iload_n 1, 1), (83, .dup2, 1), (84, .laload, 1), (85, .lload_n 2, 1), (86, .lsub, 1), (87, .lastore, 1), (88, .aload_n 0, 1), (89, .bipush 6, 2), (91, .iload_n 1, 1), (92, .lload_n 2, 1), (93, .invokevirtual 107, 3), (96, .aload_n 0, 1), (97, .iload_n 1, 1), (98, .aload_n 0, 1), (99, .getfield 26, 3), (102, .iload_n 1, 1), (103, .laload, 1), (104, .invokevirtual 114, 3), (107, .lload_n 2, 1), (108, .lreturn, 1)]
def c_70 : List (Nat × Instr × Nat) := [(0, .aload_n 0, 1), (1, .iload_n 1, 1), (2, .invokestatic 118, 3), (5, .ifCond .eq 14, 3), (8, .lload_n 2, 1), (9, .lconst 1, 1), (10, .ldc2_w 121, 3), (13, .invokestatic 73, 3), (16, .ifCond .ne 7, 3), (19, .iconst 1, 1), (20, .goto 28, 3), (23, .aload_n 0, 1), (24, .getfield 70, 3), (27, .bipush 60, 2), (29, .if_icmp .ne 7, 3), (32, .iconst 2, 1), (33, .goto 15, 3), (36, .aload_n 0, 1), (37, .getfield 123, 3), (40, .ifCond .eq 7, 3), (43, .iconst 3, 1), (44, .goto 4, 3), (47, .iconst 0, 1), (48, .putfield 66, 3), (51, .aload_n 0, 1), (52, .getfield 66, 3), (55, .ifCond .le 5, 3), (58, .iconst 0, 1), (59, .ireturn, 1), (60, .aload_n 0, 1), (61, .getfield 7, 3), (64, .aload_n 0, 1), (65, .getfield 70, 3), (68, .iload_n 1, 1), (69, .iastore, 1), (70, .aload_n 0, 1), (71, .getfield 13, 3), (74, .aload_n 0, 1), (75, .getfield 70, 3), (78, .lload_n 2, 1), (79, .lastore, 1), (80, .aload_n 0, 1), (81, .dup, 1), (82, .getfield 70, 3), (85, .iconst 1, 1), (86, .iadd, 1), (87, .putfield 70, 3), (90, .aload_n 0, 1), (91, .getfield 70, 3), (94, .iconst 1, 1), (95, .isub, 1), (96, .ireturn, 1)]
def c_71 : List (Nat × Instr × Nat) := [(0, .aload_n 0, 1), (1, .aload_n 0, 1), (2, .iload_n 1, 1), (3, .invokevirtual 127, 3), (6, .ifCond .ne 7, 3), (9, .iconst 1, 1), (10, .goto 48, 3), (13, .lload_n 2, 1), (14, .lconst 0, 1), (15, .ldc2_w 121, 3), (18, .invokestatic 73, 3), (21, .ifCond .ne 7, 3), (24, .iconst 2, 1), (25, .goto 33, 3), (28, .aload_n 0, 1), (29, .getfield 123, 3), (32, .ifCond .ne 21, 3), (35, .aload_n 0, 1), (36, .getfield 29, 3), (39, .iload_n 1, 1), (40, .iaload, 1), (41, .iconst 2, 1), (42, .if_icmp .eq 11, 3), (45, .aload_n 0, 1), (46, .iload_n 1, 1), (47, .invokevirtual 130, 3), (50, .ifCond .ne 7, 3), (53, .iconst 3, 1), (54, .goto 4, 3), (57, .iconst 0, 1), (58, .putfield 66, 3), (61, .aload_n 0, 1), (62, .getfield 66, 3), (65, .ifCond .le 5, 3), (68, .lconst 0, 1), (69, .lreturn, 1), (70, .aload_n 0, 1), (71, .getfield 17, 3), (74, .iload_n 1, 1), (75, .dup2, 1), (76, .laload, 1), (77, .lload_n 2, 1), (78, .ladd, 1), (79, .lastore, 1), (80, .aload_n 0, 1), (81, .getfield 17, 3), (84, .iload_n 1, 1), (85, .laload, 1), (86, .lreturn, 1)]
def c_72 : List (Nat × Instr × Nat) := [(0, .aload_n 0, 1), (1, .aload_n 0, 1), (2, .getfield 77, 3), (5, .bipush 20, 2), (7, .if_icmp .ne 7, 3), (10, .iconst 1, 1), (11, .goto 15, 3), (14, .aload_n 0, 1), (15, .getfield 123, 3), (18, .ifCond .eq 7, 3), (21, .iconst 2, 1), (22, .goto 4, 3), (25, .iconst 0, 1), (26, .putfield 66, 3), (29, .aload_n 0, 1), (30, .getfield 66, 3), (33, .ifCond .le 5, 3), (36, .iconst 0, 1), (37, .ireturn, 1), (38, .aload_n 0, 1), (39, .dup, 1), (40, .getfield 77, 3), (43, .iconst 1, 1), (44, .iadd, 1), (45, .putfield 77, 3), (48, .aload_n 0, 1), (49, .getfield 77, 3), (52, .iconst 1, 1), (53, .isub, 1), (54, .ireturn, 1)]
def c_73 : List (Nat × Instr × Nat) := [(0, .aload_n 0, 1), (1, .aload_n 0, 1), (2, .iload_n 1, 1), (3, .invokevirtual 133, 3), (6, .ifCond .eq 11, 3), (9, .aload_n 0, 1), (10, .iload_n 2, 1), (11, .invokevirtual 127, 3), (14, .ifCond .ne 7, 3), (17, .iconst 1, 1), (18, .goto 33, 3), (21, .lload_n 3, 1), (22, .lconst 1, 1), (23, .ldc2_w 121, 3), (26, .invokestatic 73, 3), (29, .ifCond .ne 7, 3), (32, .iconst 2, 1), (33, .goto 18, 3), (36, .aload_n 0, 1), (37, .getfield 36, 3), (40, .iload_n 1, 1), (41, .iaload, 1), (42, .iconst 4, 1), (43, .if_icmp .ne 7, 3), (46, .iconst 3, 1), (47, .goto 4, 3), (50, .iconst 0, 1), (51, .putfield 66, 3), (54, .aload_n 0, 1), (55, .getfield 66, 3), (58, .ifCond .ne 51, 3), (61, .aload_n 0, 1), (62, .getfield 123, 3), (65, .ifCond .ne 39, 3), (68, .aload_n 0, 1), (69, .getfield 32, 3), (72, .iload_n 1, 1), (73, .baload, 1), (74, .ifCond .ne 30, 3), (77, .aload_n 0, 1), (78, .iload_n 1, 1), (79, .iload_n 2, 1), (80, .invokevirtual 85, 3), (83, .ifCond .ne 21, 3), (86, .aload_n 0, 1), (87, .getfield 29, 3), (90, .iload_n 2, 1), (91, .iaload, 1), (92, .iconst 2, 1), (93, .if_icmp .eq 11, 3), (96, .aload_n 0, 1), (97, .iload_n 2, 1), (98, .invokevirtual 130, 3), (101, .ifCond .ne 8, 3), (104, .aload_n 0, 1), (105, .iconst 4, 1), (106, .putfield 66, 3), (109, .aload_n 0, 1), (110, .getfield 66, 3), (113, .ifCond .le 5, 3), (116, .iconst 0, 1), (117, .ireturn, 1), (118, .aload_n 0, 1), (119, .getfield 39, 3), (122, .iconst 4, 1), (123, .iload_n 1, 1), (124, .imul, 1), (125, .aload_n 0, 1), (126, .getfield 36, 3), (129, .iload_n 1, 1), (130, .iaload, 1), (131, .iadd, 1), (132, .iload_n 2, 1), (133, .iastore, 1), (134, .aload_n 0, 1), (135, .getfield 42, 3), (138, .iconst 4, 1), (139, .iload_n 1, 1), (140, .imul, 1), (141, .aload_n 0, 1), (142, .getfield 36, 3), (145, .iload_n 1, 1), (146, .iaload, 1), (147, .iadd, 1), (148, .lload_n 3, 1), (149, .lastore, 1), (150, .aload_n 0, 1), (151, .getfield 36, 3), (154, .iload_n 1, 1), (155, .dup2, 1), (156, .iaload, 1), (157, .iconst 1, 1), (158, .iadd, 1), (159, .iastore, 1), (160, .aload_n 0, 1), (161, .getfield 36, 3), (164, .iload_n 1, 1), (165, .iaload, 1), (166, .ireturn, 1)]
def c_74 : List (Nat × Instr × Nat) := [(0, .iconst 0, 1), (1, .istore_n 2, 1), (2, .iconst 4, 1), (3, .iload_n 1, 1), (4, .imul, 1), (5, .istore_n 3, 1), (6, .iload_n 3, 1), (7, .iconst 4, 1), (8, .iload_n 1, 1), (9, .imul, 1), (10, .aload_n 0, 1), (11, .getfield 36, 3), (14, .iload_n 1, 1), (15, .iaload, 1), (16, .iadd, 1), (17, .if_icmp .ge 34, 3), (20, .iload_n 2, 1), (21, .ifCond .ne 18, 3), (24, .aload_n 0, 1), (25, .getfield 29, 3), (28, .aload_n 0, 1), (29, .getfield 39, 3), (32, .iload_n 3, 1), (33, .iaload, 1), (34, .iaload, 1), (35, .iconst 1, 1), (36, .if_icmp .ne 7, 3), (39, .iconst 1, 1), (40, .goto 4, 3), (43, .iconst 0, 1), (44, .istore_n 2, 1), (45, .iinc 3 1, 3), (48, .goto (-42), 3), (51, .iload_n 2, 1), (52, .ireturn, 1)]
def c_75 : List (Nat × Instr × Nat) := [(0, .aload_n 0, 1), (1, .aload_n 0, 1), (2, .iload_n 1, 1), (3, .invokevirtual 133, 3), (6, .ifCond .ne 7, 3), (9, .iconst 1, 1), (10, .goto 47, 3), (13, .lload_n 2, 1), (14, .lconst 0, 1), (15, .ldc2_w 121, 3), (18, .invokestatic 73, 3), (21, .ifCond .ne 7, 3), (24, .iconst 2, 1), (25, .goto 32, 3), (28, .aload_n 0, 1), (29, .getfield 123, 3), (32, .ifCond .ne 20, 3), (35, .aload_n 0, 1), (36, .getfield 32, 3), (39, .iload_n 1, 1), (40, .baload, 1), (41, .ifCond .ne 11, 3), (44, .aload_n 0, 1), (45, .iload_n 1, 1), (46, .invokevirtual 136, 3), (49, .ifCond .eq 7, 3), (52, .iconst 3, 1), (53, .goto 4, 3), (56, .iconst 0, 1), (57, .putfield 66, 3), (60, .aload_n 0, 1), (61, .getfield 66, 3), (64, .ifCond .le 5, 3), (67, .lconst 0, 1), (68, .lreturn, 1), (69, .aload_n 0, 1), (70, .iconst 1, 1), (71, .iload_n 1, 1), (72, .lload_n 2, 1), (73, .invokevirtual 107, 3), (76, .aload_n 0, 1), (77, .dup, 1), (78, .getfield 139, 3), (81, .lload_n 2, 1), (82, .ladd, 1), (83, .putfield 139, 3), (86, .lload_n 2, 1), (87, .lstore 4, 2), (89, .iconst 4, 1), (90, .iload_n 1, 1), (91, .imul, 1), (92, .istore 6, 2), (94, .iload 6, 2), (96, .iconst 4, 1), (97, .iload_n 1, 1), (98, .imul, 1), (99, .aload_n 0, 1), (100, .getfield 36, 3), (103, .iload_n 1, 1), (104, .iaload, 1), (105, .iadd, 1), (106, .if_icmp .ge 98, 3), (109, .aload_n 0, 1), (110, .getfield 39, 3), (113, .iload 6, 2), (115, .iaload, 1), (116, .istore 7, 2), (118, .aload_n 0, 1), (119, .iload 7, 2), (121, .invokevirtual 89, 3), (124, .aload_n 0, 1), (125, .getfield 42, 3), (128, .iload 6, 2), (130, .laload, 1), (131, .lcmp, 1), (132, .ifCond .ge 12, 3), (135, .aload_n 0, 1), (136, .iload 7, 2), (138, .invokevirtual 89, 3), (141, .goto 10, 3), (144, .aload_n 0, 1), (145, .getfield 42, 3), (148, .iload 6, 2), (150, .laload, 1), (151, .lstore 8, 2), (153, .lload 8, 2), (155, .lload 4, 2), (157, .lcmp, 1), (158, .ifCond .ge 8, 3), (161, .lload 8, 2), (163, .goto 5, 3), (166, .lload 4, 2), (168, .lstore 8, 2), (170, .aload_n 0, 1), (171, .getfield 20, 3), (174, .iload 7, 2), (176, .dup2, 1), (177, .laload, 1), (178, .lload 8, 2), (180, .ladd, 1), (181, .lastore, 1), (182, .lload 4, 2), (184, .lload 8, 2), (186, .lsub, 1), (187, .lstore 4, 2), (189, .aload_n 0, 1), (190, .iconst 2, 1), (191, .iload 7, 2), (193, .lload 8, 2), (195, .invokevirtual 107, 3), (198, .iinc 6 1, 3), (201, .goto (-107), 3), (204, .aload_n 0, 1), (205, .dup, 1), (206, .getfield 99, 3), (209, .lload 4, 2), (211, .ladd, 1), (212, .putfield 99, 3), (215, .aload_n 0, 1), (216, .getfield 32, 3), (219, .iload_n 1, 1), (220, .iconst 1, 1), (221, .bastore, 1), (222, .iconst 0, 1), (223, .istore 6, 2), (225, .iload 6, 2), (227, .aload_n 0, 1), (228, .getfield 70, 3), (231, .if_icmp .ge 17, 3), (234, .aload_n 0, 1), (235, .iload 6, 2), (237, .invokevirtual 142, 3), (240, .lstore 7, 2), (242, .iinc 6 1, 3), (245, .goto (-20), 3), (248, .lload 4, 2), (250, .lreturn, 1)]
def c_76 : List (Nat × Instr × Nat) := [(0, .aload_n 0, 1), (1, .aload_n 0, 1), (2, .iload_n 1, 1), (3, .invokevirtual 127, 3), (6, .ifCond .ne 7, 3), (9, .iconst 1, 1), (10, .goto 32, 3), (13, .aload_n 0, 1), (14, .getfield 123, 3), (17, .ifCond .ne 20, 3), (20, .aload_n 0, 1), (21, .getfield 29, 3), (24, .iload_n 1, 1), (25, .iaload, 1), (26, .ifCond .ne 11, 3), (29, .aload_n 0, 1), (30, .iload_n 1, 1), (31, .invokevirtual 130, 3), (34, .ifCond .ne 7, 3), (37, .iconst 2, 1), (38, .goto 4, 3), (41, .iconst 0, 1), (42, .putfield 66, 3), (45, .aload_n 0, 1), (46, .getfield 66, 3), (49, .ifCond .ne 10, 3), (52, .aload_n 0, 1), (53, .getfield 29, 3), (56, .iload_n 1, 1), (57, .iconst 1, 1), (58, .iastore, 1), (59, .return_, 1)]
def c_77 : List (Nat × Instr × Nat) := [(0, .aload_n 0, 1), (1, .aload_n 0, 1), (2, .iload_n 1, 1), (3, .invokevirtual 127, 3), (6, .ifCond .ne 7, 3), (9, .iconst 1, 1), (10, .goto 43, 3), (13, .lload_n 2, 1), (14, .lconst 0, 1), (15, .aload_n 0, 1), (16, .getfield 13, 3), (19, .iload_n 1, 1), (20, .laload, 1), (21, .invokestatic 73, 3), (24, .ifCond .ne 7, 3), (27, .iconst 2, 1), (28, .goto 25, 3), (31, .aload_n 0, 1), (32, .getfield 123, 3), (35, .ifCond .ne 13, 3), (38, .aload_n 0, 1), (39, .getfield 29, 3), (42, .iload_n 1, 1), (43, .iaload, 1), (44, .iconst 1, 1), (45, .if_icmp .eq 7, 3), (48, .iconst 3, 1), (49, .goto 4, 3), (52, .iconst 0, 1), (53, .putfield 66, 3), (56, .aload_n 0, 1), (57, .getfield 66, 3), (60, .ifCond .le 5, 3), (63, .lconst 0, 1), (64, .lreturn, 1), (65, .aload_n 0, 1), (66, .getfield 29, 3), (69, .iload_n 1, 1), (70, .lload_n 2, 1), (71, .lconst 0, 1), (72, .lcmp, 1), (73, .ifCond .ne 7, 3), (76, .iconst 2, 1), (77, .goto 4, 3), (80, .iconst 0, 1), (81, .iastore, 1), (82, .aload_n 0, 1), (83, .getfield 13, 3), (86, .iload_n 1, 1), (87, .lload_n 2, 1), (88, .lconst 0, 1), (89, .lcmp, 1), (90, .ifCond .ne 12, 3), (93, .aload_n 0, 1), (94, .getfield 13, 3), (97, .iload_n 1, 1), (98, .laload, 1), (99, .goto 4, 3), (102, .lload_n 2, 1), (103, .lastore, 1), (104, .aload_n 0, 1), (105, .iload_n 1, 1), (106, .invokevirtual 103, 3), (109, .ifCond .eq 37, 3), (112, .aload_n 0, 1), (113, .getfield 26, 3), (116, .iload_n 1, 1), (117, .laload, 1), (118, .aload_n 0, 1), (119, .iload_n 1, 1), (120, .invokevirtual 111, 3), (123, .lsub, 1), (124, .lstore 4, 2), (126, .aload_n 0, 1), (127, .iload_n 1, 1), (128, .lload 4, 2), (130, .lconst 0, 1), (131, .lcmp, 1), (132, .ifCond .le 8, 3), (135, .lload 4, 2), (137, .goto 4, 3), (140, .lconst 0, 1), (141, .invokevirtual 114, 3), (144, .lconst 0, 1), (145, .lreturn, 1), (146, .aload_n 0, 1), (147, .iload_n 1, 1), (148, .invokevirtual 142, 3), (151, .lreturn, 1)]
def c_78 : List (Nat × Instr × Nat) := [(0, .aload_n 0, 1), (1, .lload_n 1, 1), (2, .lconst 0, 1), (3, .ldc2_w 121, 3), (6, .invokestatic 73, 3), (9, .ifCond .ne 7, 3), (12, .iconst 1, 1), (13, .goto 24, 3), (16, .aload_n 0, 1), (17, .getfield 123, 3), (20, .ifCond .ne 12, 3), (23, .aload_n 0, 1), (24, .getfield 99, 3), (27, .lload_n 1, 1), (28, .lcmp, 1), (29, .ifCond .ge 7, 3), (32, .iconst 2, 1), (33, .goto 4, 3), (36, .iconst 0, 1), (37, .putfield 66, 3), (40, .aload_n 0, 1), (41, .getfield 66, 3), (44, .ifCond .le 5, 3), (47, .lconst 0, 1), (48, .lreturn, 1), (49, .aload_n 0, 1), (50, .dup, 1), (51, .getfield 99, 3), (54, .lload_n 1, 1), (55, .lsub, 1), (56, .putfield 99, 3), (59, .aload_n 0, 1), (60, .dup, 1), (61, .getfield 145, 3), (64, .lload_n 1, 1), (65, .ladd, 1), (66, .putfield 145, 3), (69, .aload_n 0, 1), (70, .iconst 3, 1), (71, .iconst (-1), 1), (72, .lload_n 1, 1), (73, .invokevirtual 107, 3), (76, .aload_n 0, 1), (77, .getfield 99, 3), (80, .lreturn, 1)]
def c_79 : List (Nat × Instr × Nat) := [(0, .iconst 0, 1), (1, .istore_n 2, 1), (2, .iconst 0, 1), (3, .istore_n 3, 1), (4, .iload_n 3, 1), (5, .aload_n 0, 1), (6, .getfield 70, 3), (9, .if_icmp .ge 56, 3), (12, .iload_n 2, 1), (13, .ifCond .ne 40, 3), (16, .aload_n 0, 1), (17, .getfield 7, 3), (20, .iload_n 3, 1), (21, .iaload, 1), (22, .iload_n 1, 1), (23, .if_icmp .ge 34, 3), (26, .aload_n 0, 1), (27, .getfield 29, 3), (30, .iload_n 3, 1), (31, .iaload, 1), (32, .iconst 2, 1), (33, .if_icmp .eq 24, 3), (36, .aload_n 0, 1), (37, .getfield 45, 3), (40, .aload_n 0, 1), (41, .getfield 7, 3), (44, .iload_n 3, 1), (45, .iaload, 1), (46, .iaload, 1), (47, .sipush 10000, 3), (50, .if_icmp .eq 7, 3), (53, .iconst 1, 1), (54, .goto 4, 3), (57, .iconst 0, 1), (58, .istore_n 2, 1), (59, .iinc 3 1, 3), (62, .goto (-58), 3), (65, .iload_n 2, 1), (66, .ireturn, 1)]
def c_80 : List (Nat × Instr × Nat) := [(0, .lconst 0, 1), (1, .lstore_n 3, 1), (2, .iconst 0, 1), (3, .istore 5, 2), (5, .iload 5, 2), (7, .aload_n 0, 1), (8, .getfield 70, 3), (11, .if_icmp .ge 66, 3), (14, .lload_n 3, 1), (15, .aload_n 0, 1), (16, .getfield 7, 3), (19, .iload 5, 2), (21, .iaload, 1), (22, .iload_n 1, 1), (23, .if_icmp .ge 24, 3), (26, .aload_n 0, 1), (27, .iload 5, 2), (29, .aload_n 0, 1), (30, .getfield 45, 3), (33, .aload_n 0, 1), (34, .getfield 7, 3), (37, .iload 5, 2), (39, .iaload, 1), (40, .iaload, 1), (41, .invokevirtual 148, 3), (44, .goto 25, 3), (47, .aload_n 0, 1), (48, .getfield 7, 3), (51, .iload 5, 2), (53, .iaload, 1), (54, .iload_n 1, 1), (55, .if_icmp .ne 13, 3), (58, .aload_n 0, 1), (59, .iload 5, 2), (61, .iload_n 2, 1), (62, .invokevirtual 148, 3), (65, .goto 4, 3), (68, .lconst 0, 1), (69, .ladd, 1), (70, .lstore_n 3, 1), (71, .iinc 5 1, 3), (74, .goto (-69), 3), (77, .lload_n 3, 1), (78, .lreturn, 1)]
def c_81 : List (Nat × Instr × Nat) := [(0, .aload_n 0, 1), (1, .iload_n 1, 1), (2, .invokestatic 118, 3), (5, .ifCond .eq 15, 3), (8, .iload_n 2, 1), (9, .i2l, 1), (10, .lconst 1, 1), (11, .ldc2_w 93, 3), (14, .invokestatic 73, 3), (17, .ifCond .ne 7, 3), (20, .iconst 1, 1), (21, .goto 51, 3), (24, .aload_n 0, 1), (25, .getfield 123, 3), (28, .ifCond .ne 21, 3), (31, .iload_n 2, 1), (32, .aload_n 0, 1), (33, .getfield 45, 3), (36, .iload_n 1, 1), (37, .iaload, 1), (38, .if_icmp .le 11, 3), (41, .aload_n 0, 1), (42, .iload_n 1, 1), (43, .invokevirtual 151, 3), (46, .ifCond .eq 7, 3), (49, .iconst 2, 1), (50, .goto 22, 3), (53, .aload_n 0, 1), (54, .iload_n 1, 1), (55, .iload_n 2, 1), (56, .invokevirtual 154, 3), (59, .aload_n 0, 1), (60, .getfield 99, 3), (63, .lcmp, 1), (64, .ifCond .le 7, 3), (67, .iconst 3, 1), (68, .goto 4, 3), (71, .iconst 0, 1), (72, .putfield 66, 3), (75, .aload_n 0, 1), (76, .getfield 66, 3), (79, .ifCond .le 5, 3), (82, .lconst 0, 1), (83, .lreturn, 1), (84, .aload_n 0, 1), (85, .getfield 45, 3), (88, .iload_n 1, 1), (89, .iload_n 2, 1), (90, .iastore, 1), (91, .aload_n 0, 1), (92, .iload_n 1, 1), (93, .invokevirtual 157, 3), (96, .lreturn, 1)]
def c_82 : List (Nat × Instr × Nat) := [(0, .lconst 0, 1), (1, .lstore_n 2, 1), (2, .iconst 0, 1), (3, .istore 4, 2), (5, .iload 4, 2), (7, .iload_n 1, 1), (8, .if_icmp .gt 99, 3), (11, .iconst 0, 1), (12, .istore 5, 2), (14, .iload 5, 2), (16, .aload_n 0, 1), (17, .getfield 70, 3), (20, .if_icmp .ge 81, 3), (23, .aload_n 0, 1), (24, .getfield 7, 3), (27, .iload 5, 2), (29, .iaload, 1), (30, .iload 4, 2), (32, .if_icmp .ne 19, 3), (35, .aload_n 0, 1), (36, .iload 5, 2), (38, .aload_n 0, 1), (39, .getfield 45, 3), (42, .iload 4, 2), (44, .iaload, 1), (45, .invokevirtual 148, 3), (48, .goto 4, 3), (51, .lconst 0, 1), (52, .lstore 6, 2), (54, .lload 6, 2), (56, .aload_n 0, 1), (57, .getfield 99, 3), (60, .lcmp, 1), (61, .ifCond .le 10, 3), (64, .aload_n 0, 1), (65, .getfield 99, 3), (68, .goto 5, 3), (71, .lload 6, 2), (73, .lstore 6, 2), (75, .lload 6, 2), (77, .lconst 0, 1), (78, .lcmp, 1), (79, .ifCond .le 16, 3), (82, .aload_n 0, 1), (83, .iload 5, 2), (85, .lload 6, 2), (87, .invokevirtual 160, 3), (90, .lload_n 2, 1), (91, .lload 6, 2), (93, .ladd, 1), (94, .lstore_n 2, 1), (95, .iinc 5 1, 3), (98, .goto (-84), 3), (101, .iinc 4 1, 3), (104, .goto (-99), 3), (107, .lload_n 2, 1), (108, .lreturn, 1)]
def c_83 : List (Nat × Instr × Nat) := [(0, .aload_n 0, 1), (1, .iload_n 1, 1), (2, .invokestatic 118, 3), (5, .ifCond .eq 7, 3), (8, .iconst 0, 1), (9, .goto 4, 3), (12, .iconst 1, 1), (13, .putfield 66, 3), (16, .aload_n 0, 1), (17, .getfield 66, 3), (20, .ifCond .le 5, 3), (23, .iconst 0, 1), (24, .ireturn, 1), (25, .aload_n 0, 1), (26, .getfield 123, 3), (29, .ifCond .ne 11, 3), (32, .aload_n 0, 1), (33, .iload_n 1, 1), (34, .invokevirtual 151, 3), (37, .ifCond .eq 5, 3), (40, .iconst (-1), 1), (41, .ireturn, 1), (42, .aload_n 0, 1), (43, .getfield 45, 3), (46, .iload_n 1, 1), (47, .iaload, 1), (48, .istore_n 2, 1), (49, .sipush 10000, 3), (52, .istore_n 3, 1), (53, .iload_n 2, 1), (54, .iload_n 3, 1), (55, .if_icmp .ge 41, 3), (58, .iload_n 2, 1), (59, .iload_n 3, 1), (60, .iadd, 1), (61, .iconst 1, 1), (62, .iadd, 1), (63, .iconst 2, 1), (64, .idiv, 1), (65, .istore 4, 2), (67, .aload_n 0, 1), (68, .iload_n 1, 1), (69, .iload 4, 2), (71, .invokevirtual 154, 3), (74, .aload_n 0, 1), (75, .getfield 99, 3), (78, .lcmp, 1), (79, .ifCond .gt 9, 3), (82, .iload 4, 2), (84, .istore_n 2, 1), (85, .goto 8, 3), (88, .iload 4, 2), (90, .iconst 1, 1), (91, .isub, 1), (92, .istore_n 3, 1), (93, .goto (-40), 3), (96, .iload_n 2, 1), (97, .ireturn, 1)]
def c_84 : List (Nat × Instr × Nat) := [(0, .aload_n 0, 1), (1, .aload_n 0, 1), (2, .getfield 123, 3), (5, .ifCond .eq 7, 3), (8, .iconst 1, 1), (9, .goto 4, 3), (12, .iconst 0, 1), (13, .putfield 66, 3), (16, .aload_n 0, 1), (17, .getfield 66, 3), (20, .ifCond .le 7, 3), (23, .lconst 0, 1), (24, .goto 9, 3), (27, .aload_n 0, 1), (28, .bipush 7, 2), (30, .invokevirtual 157, 3), (33, .lreturn, 1)]
def c_85 : List (Nat × Instr × Nat) := [(0, .iconst 1, 1), (1, .istore_n 1, 1), (2, .iconst 0, 1), (3, .istore_n 2, 1), (4, .iload_n 2, 1), (5, .aload_n 0, 1), (6, .getfield 77, 3), (9, .if_icmp .ge 28, 3), (12, .iload_n 1, 1), (13, .ifCond .eq 16, 3), (16, .aload_n 0, 1), (17, .getfield 32, 3), (20, .iload_n 2, 1), (21, .baload, 1), (22, .ifCond .eq 7, 3), (25, .iconst 1, 1), (26, .goto 4, 3), (29, .iconst 0, 1), (30, .istore_n 1, 1), (31, .iinc 2 1, 3), (34, .goto (-30), 3), (37, .iload_n 1, 1), (38, .ireturn, 1)]
def c_86 : List (Nat × Instr × Nat) := [(0, .aload_n 0, 1), (1, .dup, 1), (2, .getfield 99, 3), (5, .lload_n 2, 1), (6, .lsub, 1), (7, .putfield 99, 3), (10, .aload_n 0, 1), (11, .getfield 23, 3), (14, .iload_n 1, 1), (15, .dup2, 1), (16, .laload, 1), (17, .lload_n 2, 1), (18, .ladd, 1), (19, .lastore, 1), (20, .aload_n 0, 1), (21, .bipush 8, 2), (23, .iload_n 1, 1), (24, .lload_n 2, 1), (25, .invokevirtual 107, 3), (28, .return_, 1)]
def c_87 : List (Nat × Instr × Nat) := [(0, .iconst (-1), 1), (1, .istore_n 2, 1), (2, .iconst 0, 1), (3, .istore_n 3, 1), (4, .iload_n 3, 1), (5, .aload_n 0, 1), (6, .getfield 70, 3), (9, .if_icmp .ge 68, 3), (12, .aload_n 0, 1), (13, .getfield 7, 3), (16, .iload_n 3, 1), (17, .iaload, 1), (18, .iload_n 1, 1), (19, .if_icmp .ne 38, 3), (22, .aload_n 0, 1), (23, .getfield 63, 3), (26, .iload_n 3, 1), (27, .laload, 1), (28, .lconst 0, 1), (29, .lcmp, 1), (30, .ifCond .lt 27, 3), (33, .iload_n 2, 1), (34, .ifCond .lt 19, 3), (37, .aload_n 0, 1), (38, .getfield 63, 3), (41, .iload_n 3, 1), (42, .laload, 1), (43, .aload_n 0, 1), (44, .getfield 63, 3), (47, .iload_n 2, 1), (48, .laload, 1), (49, .lcmp, 1), (50, .ifCond .le 7, 3), (53, .iconst 1, 1), (54, .goto 4, 3), (57, .iconst 0, 1), (58, .istore 4, 2), (60, .iload 4, 2), (62, .ifCond .eq 7, 3), (65, .iload_n 3, 1), (66, .goto 4, 3), (69, .iload_n 2, 1), (70, .istore_n 2, 1), (71, .iinc 3 1, 3), (74, .goto (-70), 3), (77, .aload_n 0, 1), (78, .getfield 63, 3), (81, .iload_n 2, 1), (82, .ldc2_w 163, 3), (85, .lastore, 1), (86, .iload_n 2, 1), (87, .ireturn, 1)]
def c_88 : List (Nat × Instr × Nat) := [(0, .aload_n 0, 1), (1, .getfield 99, 3), (4, .lstore 4, 2), (6, .lload 4, 2), (8, .lstore 6, 2), (10, .iconst 0, 1), (11, .istore 8, 2), (13, .iload 8, 2), (15, .aload_n 0, 1), (16, .getfield 70, 3), (19, .if_icmp .ge 70, 3), (22, .aload_n 0, 1), (23, .getfield 7, 3), (26, .iload 8, 2), (28, .iaload, 1), (29, .iload_n 1, 1), (30, .if_icmp .ne 53, 3), (33, .aload_n 0, 1), (34, .getfield 60, 3), (37, .iload 8, 2), (39, .lload 4, 2), (41, .aload_n 0, 1), (42, .getfield 57, 3), (45, .iload 8, 2), (47, .laload, 1), (48, .lmul, 1), (49, .lload_n 2, 1), (50, .ldiv, 1), (51, .lastore, 1), (52, .aload_n 0, 1), (53, .getfield 63, 3), (56, .iload 8, 2), (58, .lload 4, 2), (60, .aload_n 0, 1), (61, .getfield 57, 3), (64, .iload 8, 2), (66, .laload, 1), (67, .lmul, 1), (68, .lload_n 2, 1), (69, .lrem, 1), (70, .lastore, 1), (71, .lload 6, 2), (73, .aload_n 0, 1), (74, .getfield 60, 3), (77, .iload 8, 2), (79, .laload, 1), (80, .lsub, 1), (81, .lstore 6, 2), (83, .iinc 8 1, 3), (86, .goto (-73), 3), (89, .lload 6, 2), (91, .lconst 0, 1), (92, .lcmp, 1), (93, .ifCond .le 26, 3), (96, .aload_n 0, 1), (97, .getfield 60, 3), (100, .aload_n 0, 1), (101, .iload_n 1, 1), (102, .invokevirtual 165, 3), (105, .dup2, 1), (106, .laload, 1), (107, .lconst 1, 1), (108, .ladd, 1), (109, .lastore, 1), (110, .lload 6, 2), (112, .lconst 1, 1), (113, .lsub, 1), (114, .lstore 6, 2), (116, .goto (-27), 3), (119, .iconst 0, 1), (120, .istore 8, 2), (122, .iload 8, 2), (124, .aload_n 0, 1), (125, .getfield 70, 3), (128, .if_icmp .ge 33, 3), (131, .aload_n 0, 1), (132, .getfield 7, 3), (135, .iload 8, 2), (137, .iaload, 1), (138, .iload_n 1, 1), (139, .if_icmp .ne 16, 3), (142, .aload_n 0, 1), (143, .iload 8, 2), (145, .aload_n 0, 1), (146, .getfield 60, 3), (149, .iload 8, 2), (151, .laload, 1), (152, .invokevirtual 169, 3), (155, .iinc 8 1, 3), (158, .goto (-36), 3), (161, .return_, 1)]
def c_89 : List (Nat × Instr × Nat) := [(0, .aload_n 0, 1), (1, .aload_n 0, 1), (2, .getfield 123, 3), (5, .ifCond .ne 10, 3), (8, .aload_n 0, 1), (9, .invokevirtual 172, 3), (12, .ifCond .ne 7, 3), (15, .iconst 1, 1), (16, .goto 4, 3), (19, .iconst 0, 1), (20, .putfield 66, 3), (23, .aload_n 0, 1), (24, .getfield 66, 3), (27, .ifCond .le 5, 3), (30, .lconst 0, 1), (31, .lreturn, 1), (32, .iconst 0, 1), (33, .istore_n 1, 1), (34, .iload_n 1, 1), (35, .aload_n 0, 1), (36, .getfield 70, 3), (39, .if_icmp .ge 37, 3), (42, .aload_n 0, 1), (43, .getfield 29, 3), (46, .iload_n 1, 1), (47, .iaload, 1), (48, .iconst 1, 1), (49, .if_icmp .ne 21, 3), (52, .aload_n 0, 1), (53, .getfield 29, 3), (56, .iload_n 1, 1), (57, .iconst 2, 1), (58, .iastore, 1), (59, .aload_n 0, 1), (60, .iload_n 1, 1), (61, .aload_n 0, 1), (62, .getfield 26, 3), (65, .iload_n 1, 1), (66, .laload, 1), (67, .invokevirtual 114, 3), (70, .iinc 1 1, 3), (73, .goto (-39), 3), (76, .aload_n 0, 1), (77, .bipush 7, 2), (79, .invokevirtual 157, 3), (82, .lstore_n 1, 1), (83, .iconst 0, 1), (84, .istore_n 3, 1), (85, .iload_n 3, 1), (86, .bipush 8, 2), (88, .if_icmp .ge 161, 3), (91, .lconst 0, 1), (92, .lstore 4, 2), (94, .iconst 0, 1), (95, .istore 6, 2), (97, .iload 6, 2), (99, .aload_n 0, 1), (100, .getfield 70, 3), (103, .if_icmp .ge 74, 3), (106, .aload_n 0, 1), (107, .getfield 7, 3), (110, .iload 6, 2), (112, .iaload, 1), (113, .iload_n 3, 1), (114, .if_icmp .ne 57, 3), (117, .aload_n 0, 1), (118, .getfield 57, 3), (121, .iload 6, 2), (123, .aload_n 0, 1), (124, .iload 6, 2), (126, .invokevirtual 89, 3), (129, .aload_n 0, 1), (130, .getfield 23, 3), (133, .iload 6, 2), (135, .laload, 1), (136, .lcmp, 1), (137, .ifCond .le 20, 3), (140, .aload_n 0, 1), (141, .iload 6, 2), (143, .invokevirtual 89, 3), (146, .aload_n 0, 1), (147, .getfield 23, 3), (150, .iload 6, 2), (152, .laload, 1), (153, .lsub, 1), (154, .goto 4, 3), (157, .lconst 0, 1), (158, .lastore, 1), (159, .lload 4, 2), (161, .aload_n 0, 1), (162, .getfield 57, 3), (165, .iload 6, 2), (167, .laload, 1), (168, .ladd, 1), (169, .lstore 4, 2), (171, .iinc 6 1, 3), (174, .goto (-77), 3), (177, .lload 4, 2), (179, .aload_n 0, 1), (180, .getfield 99, 3), (183, .lcmp, 1), (184, .ifCond .le 13, 3), (187, .aload_n 0, 1), (188, .iload_n 3, 1), (189, .lload 4, 2), (191, .invokevirtual 176, 3), (194, .goto 49, 3), (197, .iconst 0, 1), (198, .istore 6, 2), (200, .iload 6, 2), (202, .aload_n 0, 1), (203, .getfield 70, 3), (206, .if_icmp .ge 37, 3), (209, .aload_n 0, 1), (210, .iload 6, 2), (212, .aload_n 0, 1), (213, .getfield 7, 3), (216, .iload 6, 2), (218, .iaload, 1), (219, .iload_n 3, 1), (220, .if_icmp .ne 13, 3), (223, .aload_n 0, 1), (224, .getfield 57, 3), (227, .iload 6, 2), (229, .laload, 1), (230, .goto 4, 3), (233, .lconst 0, 1), (234, .invokevirtual 169, 3), (237, .iinc 6 1, 3), (240, .goto (-40), 3), (243, .iinc 3 1, 3), (246, .goto (-161), 3), (249, .aload_n 0, 1), (250, .iconst 1, 1), (251, .putfield 123, 3), (254, .aload_n 0, 1), (255, .getfield 99, 3), (258, .lreturn, 1)]
def c_90 : List (Nat × Instr × Nat) := [(0, .aload_n 0, 1), (1, .aload_n 0, 1), (2, .iload_n 1, 1), (3, .invokevirtual 127, 3), (6, .ifCond .ne 7, 3), (9, .iconst 1, 1), (10, .goto 20, 3), (13, .iload_n 2, 1), (14, .i2l, 1), (15, .lconst 0, 1), (16, .ldc2_w 179, 3), (19, .invokestatic 73, 3), (22, .ifCond .eq 7, 3), (25, .iconst 0, 1), (26, .goto 4, 3), (29, .iconst 2, 1), (30, .putfield 66, 3), (33, .aload_n 0, 1), (34, .getfield 66, 3), (37, .ifCond .le 5, 3), (40, .lconst 0, 1), (41, .lreturn, 1), (42, .iload_n 2, 1), (43, .tableswitch 112 0 8 #[49, 57, 65, 72, 79, 86, 93, 100, 106], 49), (92, .aload_n 0, 1), (93, .getfield 7, 3), (96, .iload_n 1, 1), (97, .iaload, 1), (98, .i2l, 1), (99, .lreturn, 1), (100, .aload_n 0, 1), (101, .getfield 29, 3), (104, .iload_n 1, 1), (105, .iaload, 1), (106, .i2l, 1), (107, .lreturn, 1), (108, .aload_n 0, 1), (109, .getfield 13, 3), (112, .iload_n 1, 1), (113, .laload, 1), (114, .lreturn, 1), (115, .aload_n 0, 1), (116, .getfield 17, 3), (119, .iload_n 1, 1), (120, .laload, 1), (121, .lreturn, 1), (122, .aload_n 0, 1), (123, .getfield 20, 3), (126, .iload_n 1, 1), (127, .laload, 1), (128, .lreturn, 1), (129, .aload_n 0, 1), (130, .getfield 23, 3), (133, .iload_n 1, 1), (134, .laload, 1), (135, .lreturn, 1), (136, .aload_n 0, 1), (137, .getfield 26, 3), (140, .iload_n 1, 1), (141, .laload, 1), (142, .lreturn, 1), (143, .aload_n 0, 1), (144, .iload_n 1, 1), (145, .invokevirtual 89, 3), (148, .lreturn, 1), (149, .aload_n 0, 1), (150, .iload_n 1, 1), (151, .invokevirtual 111, 3), (154, .lreturn, 1), (155, .aload_n 0, 1), (156, .iload_n 1, 1), (157, .invokevirtual 103, 3), (160, .ifCond .eq 7, 3), (163, .lconst 1, 1), (164, .goto 4, 3), (167, .lconst 0, 1), (168, .lreturn, 1)]
def c_91 : List (Nat × Instr × Nat) := [(0, .aload_n 0, 1), (1, .iload_n 1, 1), (2, .invokestatic 118, 3), (5, .ifCond .eq 7, 3), (8, .iconst 0, 1), (9, .goto 4, 3), (12, .iconst 1, 1), (13, .putfield 66, 3), (16, .aload_n 0, 1), (17, .getfield 66, 3), (20, .ifCond .le 7, 3), (23, .iconst 0, 1), (24, .goto 9, 3), (27, .aload_n 0, 1), (28, .getfield 45, 3), (31, .iload_n 1, 1), (32, .iaload, 1), (33, .ireturn, 1)]
def c_92 : List (Nat × Instr × Nat) := [(0, .aload_n 0, 1), (1, .iconst 0, 1), (2, .putfield 66, 3), (5, .lconst 0, 1), (6, .lstore_n 2, 1), (7, .lconst 0, 1), (8, .lstore 4, 2), (10, .lconst 0, 1), (11, .lstore 6, 2), (13, .iconst 0, 1), (14, .istore 8, 2), (16, .iload 8, 2), (18, .aload_n 0, 1), (19, .getfield 70, 3), (22, .if_icmp .ge 43, 3), (25, .lload_n 2, 1), (26, .aload_n 0, 1), (27, .getfield 26, 3), (30, .iload 8, 2), (32, .laload, 1), (33, .ladd, 1), (34, .lstore_n 2, 1), (35, .lload 4, 2), (37, .aload_n 0, 1), (38, .getfield 20, 3), (41, .iload 8, 2), (43, .laload, 1), (44, .ladd, 1), (45, .lstore 4, 2), (47, .lload 6, 2), (49, .aload_n 0, 1), (50, .getfield 23, 3), (53, .iload 8, 2), (55, .laload, 1), (56, .ladd, 1), (57, .lstore 6, 2), (59, .iinc 8 1, 3), (62, .goto (-46), 3), (65, .iload_n 1, 1), (66, .tableswitch 61 0 5 #[38, 43, 45, 50, 55, 58], 38), (104, .aload_n 0, 1), (105, .getfield 99, 3), (108, .lreturn, 1), (109, .lload_n 2, 1), (110, .lreturn, 1), (111, .aload_n 0, 1), (112, .getfield 139, 3), (115, .lreturn, 1), (116, .aload_n 0, 1), (117, .getfield 145, 3), (120, .lreturn, 1), (121, .lload 4, 2), (123, .lreturn, 1), (124, .lload 6, 2), (126, .lreturn, 1), (127, .ldc2_w 163, 3), (130, .lreturn, 1)]
def c_93 : List (Nat × Instr × Nat) := [(0, .aload_n 0, 1), (1, .iconst 0, 1), (2, .putfield 66, 3), (5, .aload_n 0, 1), (6, .getfield 82, 3), (9, .ireturn, 1)]
def c_94 : List (Nat × Instr × Nat) := [(0, .aload_n 0, 1), (1, .iload_n 1, 1), (2, .i2l, 1), (3, .lconst 0, 1), (4, .aload_n 0, 1), (5, .getfield 82, 3), (8, .sipush 3000, 3), (11, .if_icmp .ge 10, 3), (14, .aload_n 0, 1), (15, .getfield 82, 3), (18, .goto 6, 3), (21, .sipush 3000, 3), (24, .iconst 1, 1), (25, .isub, 1), (26, .i2l, 1), (27, .invokestatic 73, 3), (30, .ifCond .ne 7, 3), (33, .iconst 1, 1), (34, .goto 20, 3), (37, .iload_n 2, 1), (38, .i2l, 1), (39, .lconst 0, 1), (40, .ldc2_w 181, 3), (43, .invokestatic 73, 3), (46, .ifCond .eq 7, 3), (49, .iconst 0, 1), (50, .goto 4, 3), (53, .iconst 2, 1), (54, .putfield 66, 3), (57, .aload_n 0, 1), (58, .getfield 66, 3), (61, .ifCond .le 5, 3), (64, .lconst 0, 1), (65, .lreturn, 1), (66, .iload_n 2, 1), (67, .ifCond .ne 13, 3), (70, .aload_n 0, 1), (71, .getfield 48, 3), (74, .iload_n 1, 1), (75, .iaload, 1), (76, .i2l, 1), (77, .goto 24, 3), (80, .iload_n 2, 1), (81, .iconst 1, 1), (82, .if_icmp .ne 13, 3), (85, .aload_n 0, 1), (86, .getfield 51, 3), (89, .iload_n 1, 1), (90, .iaload, 1), (91, .i2l, 1), (92, .goto 9, 3), (95, .aload_n 0, 1), (96, .getfield 54, 3), (99, .iload_n 1, 1), (100, .laload, 1), (101, .lreturn, 1)]
def c_95 : List (Nat × Instr × Nat) := [(0, .aload 4, 2), (2, .iconst 0, 1), (3, .aload_n 0, 1), (4, .iload_n 1, 1), (5, .lload_n 2, 1), (6, .invokevirtual 7, 3), (9, .i2l, 1), (10, .lastore, 1), (11, .goto 15, 3), (14, .astore 5, 2), (16, .iconst 1, 1), (17, .ireturn, 1), (18, .astore 5, 2), (20, .iconst 2, 1), (21, .ireturn, 1), (22, .astore 5, 2), (24, .iconst 3, 1), (25, .ireturn, 1), (26, .iconst 0, 1), (27, .ireturn, 1)]
def c_96 : List (Nat × Instr × Nat) := [(0, .aload 4, 2), (2, .iconst 0, 1), (3, .aload_n 0, 1), (4, .iload_n 1, 1), (5, .lload_n 2, 1), (6, .invokevirtual 19, 3), (9, .lastore, 1), (10, .goto 15, 3), (13, .astore 5, 2), (15, .iconst 1, 1), (16, .ireturn, 1), (17, .astore 5, 2), (19, .iconst 2, 1), (20, .ireturn, 1), (21, .astore 5, 2), (23, .iconst 3, 1), (24, .ireturn, 1), (25, .iconst 0, 1), (26, .ireturn, 1)]
def c_97 : List (Nat × Instr × Nat) := [(0, .aload_n 1, 1), (1, .iconst 0, 1), (2, .aload_n 0, 1), (3, .invokevirtual 25, 3), (6, .i2l, 1), (7, .lastore, 1), (8, .goto 9, 3), (11, .astore_n 2, 1), (12, .iconst 1, 1), (13, .ireturn, 1), (14, .astore_n 2, 1), (15, .iconst 2, 1), (16, .ireturn, 1), (17, .iconst 0, 1), (18, .ireturn, 1)]
def c_98 : List (Nat × Instr × Nat) := [(0, .aload 5, 2), (2, .iconst 0, 1), (3, .aload_n 0, 1), (4, .iload_n 1, 1), (5, .iload_n 2, 1), (6, .lload_n 3, 1), (7, .invokevirtual 29, 3), (10, .i2l, 1), (11, .lastore, 1), (12, .goto 19, 3), (15, .astore 6, 2), (17, .iconst 1, 1), (18, .ireturn, 1), (19, .astore 6, 2), (21, .iconst 2, 1), (22, .ireturn, 1), (23, .astore 6, 2), (25, .iconst 3, 1), (26, .ireturn, 1), (27, .astore 6, 2), (29, .iconst 4, 1), (30, .ireturn, 1), (31, .iconst 0, 1), (32, .ireturn, 1)]
def c_99 : List (Nat × Instr × Nat) := [(0, .aload 4, 2), (2, .iconst 0, 1), (3, .aload_n 0, 1), (4, .iload_n 1, 1), (5, .lload_n 2, 1), (6, .invokevirtual 33, 3), (9, .lastore, 1), (10, .goto 15, 3), (13, .astore 5, 2), (15, .iconst 1, 1), (16, .ireturn, 1), (17, .astore 5, 2), (19, .iconst 2, 1), (20, .ireturn, 1), (21, .astore 5, 2), (23, .iconst 3, 1), (24, .ireturn, 1), (25, .iconst 0, 1), (26, .ireturn, 1)]
def c_100 : List (Nat × Instr × Nat) := [(0, .aload_n 0, 1), (1, .iload_n 1, 1), (2, .invokevirtual 36, 3), (5, .goto 9, 3), (8, .astore_n 2, 1), (9, .iconst 1, 1), (10, .ireturn, 1), (11, .astore_n 2, 1), (12, .iconst 2, 1), (13, .ireturn, 1), (14, .iconst 0, 1), (15, .ireturn, 1)]
def c_101 : List (Nat × Instr × Nat) := [(0, .aload 4, 2), (2, .iconst 0, 1), (3, .aload_n 0, 1), (4, .iload_n 1, 1), (5, .lload_n 2, 1), (6, .invokevirtual 40, 3), (9, .lastore, 1), (10, .goto 15, 3), (13, .astore 5, 2), (15, .iconst 1, 1), (16, .ireturn, 1), (17, .astore 5, 2), (19, .iconst 2, 1), (20, .ireturn, 1), (21, .astore 5, 2), (23, .iconst 3, 1), (24, .ireturn, 1), (25, .iconst 0, 1), (26, .ireturn, 1)]
def c_102 : List (Nat × Instr × Nat) := [(0, .aload_n 3, 1), (1, .iconst 0, 1), (2, .aload_n 0, 1), (3, .lload_n 1, 1), (4, .invokevirtual 43, 3), (7, .lastore, 1), (8, .goto 11, 3), (11, .astore 4, 2), (13, .iconst 1, 1), (14, .ireturn, 1), (15, .astore 4, 2), (17, .iconst 2, 1), (18, .ireturn, 1), (19, .iconst 0, 1), (20, .ireturn, 1)]
def c_103 : List (Nat × Instr × Nat) := [(0, .aload_n 3, 1), (1, .iconst 0, 1), (2, .aload_n 0, 1), (3, .iload_n 1, 1), (4, .iload_n 2, 1), (5, .invokevirtual 47, 3), (8, .lastore, 1), (9, .goto 15, 3), (12, .astore 4, 2), (14, .iconst 1, 1), (15, .ireturn, 1), (16, .astore 4, 2), (18, .iconst 2, 1), (19, .ireturn, 1), (20, .astore 4, 2), (22, .iconst 3, 1), (23, .ireturn, 1), (24, .iconst 0, 1), (25, .ireturn, 1)]
def c_104 : List (Nat × Instr × Nat) := [(0, .aload_n 2, 1), (1, .iconst 0, 1), (2, .aload_n 0, 1), (3, .iload_n 1, 1), (4, .invokevirtual 51, 3), (7, .i2l, 1), (8, .lastore, 1), (9, .goto 6, 3), (12, .astore_n 3, 1), (13, .iconst 1, 1), (14, .ireturn, 1), (15, .iconst 0, 1), (16, .ireturn, 1)]
def c_105 : List (Nat × Instr × Nat) := [(0, .aload_n 1, 1), (1, .iconst 0, 1), (2, .aload_n 0, 1), (3, .invokevirtual 55, 3), (6, .lastore, 1), (7, .goto 6, 3), (10, .astore_n 2, 1), (11, .iconst 1, 1), (12, .ireturn, 1), (13, .iconst 0, 1), (14, .ireturn, 1)]
def c_106 : List (Nat × Instr × Nat) := [(0, .aload_n 1, 1), (1, .iconst 0, 1), (2, .aload_n 0, 1), (3, .invokevirtual 59, 3), (6, .lastore, 1), (7, .goto 6, 3), (10, .astore_n 2, 1), (11, .iconst 1, 1), (12, .ireturn, 1), (13, .iconst 0, 1), (14, .ireturn, 1)]
def c_107 : List (Nat × Instr × Nat) := [(0, .aload_n 3, 1), (1, .iconst 0, 1), (2, .aload_n 0, 1), (3, .iload_n 1, 1), (4, .iload_n 2, 1), (5, .invokevirtual 62, 3), (8, .lastore, 1), (9, .goto 11, 3), (12, .astore 4, 2), (14, .iconst 1, 1), (15, .ireturn, 1), (16, .astore 4, 2), (18, .iconst 2, 1), (19, .ireturn, 1), (20, .iconst 0, 1), (21, .ireturn, 1)]
def c_108 : List (Nat × Instr × Nat) := [(0, .aload_n 2, 1), (1, .iconst 0, 1), (2, .aload_n 0, 1), (3, .iload_n 1, 1), (4, .invokevirtual 65, 3), (7, .i2l, 1), (8, .lastore, 1), (9, .goto 6, 3), (12, .astore_n 3, 1), (13, .iconst 1, 1), (14, .ireturn, 1), (15, .iconst 0, 1), (16, .ireturn, 1)]
def c_109 : List (Nat × Instr × Nat) := [(0, .aload_n 3, 1), (1, .iconst 0, 1), (2, .aload_n 0, 1), (3, .iload_n 1, 1), (4, .iload_n 2, 1), (5, .invokevirtual 68, 3), (8, .lastore, 1), (9, .goto 11, 3), (12, .astore 4, 2), (14, .iconst 1, 1), (15, .ireturn, 1), (16, .astore 4, 2), (18, .iconst 2, 1), (19, .ireturn, 1), (20, .iconst 0, 1), (21, .ireturn, 1)]
def c_law_0 : List (Nat × Instr × Nat) := [(0, .new 8, 3), (3, .dup, 1), (4, .invokespecial 71, 3), (7, .astore_n 1, 1), (8, .new 72, 3), (11, .dup, 1), (12, .invokespecial 74, 3), (15, .astore_n 2, 1), (16, .iconst 1, 1), (17, .newarray .long, 2), (19, .astore_n 3, 1), (20, .iconst 0, 1), (21, .istore 4, 2), (23, .iload 4, 2), (25, .aload_n 0, 1), (26, .arraylength, 1), (27, .iconst 5, 1), (28, .isub, 1), (29, .if_icmp .gt 1211, 3), (32, .aload_n 0, 1), (33, .iload 4, 2), (35, .iaload, 1), (36, .bipush 31, 2), (38, .iand, 1), (39, .tableswitch 1195 0 16 #[81, 181, 280, 324, 436, 535, 571, 670, 757, 824, 880, 923, 966, 1033, 1089, 1115, 1128], 81), (120, .aload_n 1, 1), (121, .aload_n 0, 1), (122, .iload 4, 2), (124, .iconst 1, 1), (125, .iadd, 1), (126, .iaload, 1), (127, .aload_n 0, 1), (128, .iload 4, 2), (130, .iconst 2, 1), (131, .iadd, 1), (132, .iaload, 1), (133, .i2l, 1), (134, .bipush 32, 2), (136, .lshl, 1), (137, .aload_n 0, 1), (138, .iload 4, 2), (140, .iconst 3, 1), (141, .iadd, 1), (142, .iaload, 1), (143, .i2l, 1), (144, .ldc2_w 75, 3), (147, .land, 1), (148, .lor, 1), (149, .aload_n 3, 1), (150, .invokestatic 77, 3), (153, .istore 5, 2), (155, .aload_n 2, 1), (156, .aload_n 0, 1), (157, .iload 4, 2), (159, .iconst 1, 1), (160, .iadd, 1), (161, .iaload, 1), (162, .aload_n 0, 1), (163, .iload 4, 2), (165, .iconst 2, 1), (166, .iadd, 1), (167, .iaload, 1), (168, .i2l, 1), (169, .bipush 32, 2)]
def c_law_1 : List (Nat × Instr × Nat) := [(171, .lshl, 1), (172, .aload_n 0, 1), (173, .iload 4, 2), (175, .iconst 3, 1), (176, .iadd, 1), (177, .iaload, 1), (178, .i2l, 1), (179, .ldc2_w 75, 3), (182, .land, 1), (183, .lor, 1), (184, .invokevirtual 82, 3), (187, .istore 6, 2), (189, .aload_n 2, 1), (190, .invokevirtual 83, 3), (193, .iload 5, 2), (195, .if_icmp .eq 5, 3), (198, .iconst 0, 1), (199, .ireturn, 1), (200, .iload 5, 2), (202, .ifCond .ne 15, 3), (205, .aload_n 3, 1), (206, .iconst 0, 1), (207, .laload, 1), (208, .iload 6, 2), (210, .i2l, 1), (211, .lcmp, 1), (212, .ifCond .eq 5, 3), (215, .iconst 0, 1), (216, .ireturn, 1), (217, .goto 1017, 3), (220, .aload_n 1, 1), (221, .aload_n 0, 1), (222, .iload 4, 2), (224, .iconst 1, 1), (225, .iadd, 1), (226, .iaload, 1), (227, .aload_n 0, 1), (228, .iload 4, 2), (230, .iconst 2, 1), (231, .iadd, 1), (232, .iaload, 1), (233, .i2l, 1), (234, .bipush 32, 2), (236, .lshl, 1), (237, .aload_n 0, 1), (238, .iload 4, 2), (240, .iconst 3, 1), (241, .iadd, 1), (242, .iaload, 1), (243, .i2l, 1), (244, .ldc2_w 75, 3), (247, .land, 1), (248, .lor, 1), (249, .aload_n 3, 1), (250, .invokestatic 86, 3), (253, .istore 5, 2), (255, .aload_n 2, 1), (256, .aload_n 0, 1), (257, .iload 4, 2), (259, .iconst 1, 1), (260, .iadd, 1), (261, .iaload, 1), (262, .aload_n 0, 1), (263, .iload 4, 2)]
def c_law_2 : List (Nat × Instr × Nat) := [(265, .iconst 2, 1), (266, .iadd, 1), (267, .iaload, 1), (268, .i2l, 1), (269, .bipush 32, 2), (271, .lshl, 1), (272, .aload_n 0, 1), (273, .iload 4, 2), (275, .iconst 3, 1), (276, .iadd, 1), (277, .iaload, 1), (278, .i2l, 1), (279, .ldc2_w 75, 3), (282, .land, 1), (283, .lor, 1), (284, .invokevirtual 88, 3), (287, .lstore 6, 2), (289, .aload_n 2, 1), (290, .invokevirtual 83, 3), (293, .iload 5, 2), (295, .if_icmp .eq 5, 3), (298, .iconst 0, 1), (299, .ireturn, 1), (300, .iload 5, 2), (302, .ifCond .ne 14, 3), (305, .aload_n 3, 1), (306, .iconst 0, 1), (307, .laload, 1), (308, .lload 6, 2), (310, .lcmp, 1), (311, .ifCond .eq 5, 3), (314, .iconst 0, 1), (315, .ireturn, 1), (316, .goto 918, 3), (319, .aload_n 1, 1), (320, .aload_n 3, 1), (321, .invokestatic 89, 3), (324, .istore 5, 2), (326, .aload_n 2, 1), (327, .invokevirtual 92, 3), (330, .istore 6, 2), (332, .aload_n 2, 1), (333, .invokevirtual 83, 3), (336, .iload 5, 2), (338, .if_icmp .eq 5, 3), (341, .iconst 0, 1), (342, .ireturn, 1), (343, .iload 5, 2), (345, .ifCond .ne 15, 3), (348, .aload_n 3, 1), (349, .iconst 0, 1), (350, .laload, 1), (351, .iload 6, 2), (353, .i2l, 1), (354, .lcmp, 1), (355, .ifCond .eq 5, 3), (358, .iconst 0, 1), (359, .ireturn, 1), (360, .goto 874, 3), (363, .aload_n 1, 1), (364, .aload_n 0, 1), (365, .iload 4, 2), (367, .iconst 1, 1), (368, .iadd, 1)]
def c_law_3 : List (Nat × Instr × Nat) := [(369, .iaload, 1), (370, .aload_n 0, 1), (371, .iload 4, 2), (373, .iconst 2, 1), (374, .iadd, 1), (375, .iaload, 1), (376, .aload_n 0, 1), (377, .iload 4, 2), (379, .iconst 3, 1), (380, .iadd, 1), (381, .iaload, 1), (382, .i2l, 1), (383, .bipush 32, 2), (385, .lshl, 1), (386, .aload_n 0, 1), (387, .iload 4, 2), (389, .iconst 4, 1), (390, .iadd, 1), (391, .iaload, 1), (392, .i2l, 1), (393, .ldc2_w 75, 3), (396, .land, 1), (397, .lor, 1), (398, .aload_n 3, 1), (399, .invokestatic 93, 3), (402, .istore 5, 2), (404, .aload_n 2, 1), (405, .aload_n 0, 1), (406, .iload 4, 2), (408, .iconst 1, 1), (409, .iadd, 1), (410, .iaload, 1), (411, .aload_n 0, 1), (412, .iload 4, 2), (414, .iconst 2, 1), (415, .iadd, 1), (416, .iaload, 1), (417, .aload_n 0, 1), (418, .iload 4, 2), (420, .iconst 3, 1), (421, .iadd, 1), (422, .iaload, 1), (423, .i2l, 1), (424, .bipush 32, 2), (426, .lshl, 1), (427, .aload_n 0, 1), (428, .iload 4, 2), (430, .iconst 4, 1), (431, .iadd, 1), (432, .iaload, 1), (433, .i2l, 1), (434, .ldc2_w 75, 3), (437, .land, 1), (438, .lor, 1), (439, .invokevirtual 96, 3), (442, .istore 6, 2), (444, .aload_n 2, 1), (445, .invokevirtual 83, 3), (448, .iload 5, 2), (450, .if_icmp .eq 5, 3), (453, .iconst 0, 1), (454, .ireturn, 1), (455, .iload 5, 2), (457, .ifCond .ne 15, 3)]
def c_law_4 : List (Nat × Instr × Nat) := [(460, .aload_n 3, 1), (461, .iconst 0, 1), (462, .laload, 1), (463, .iload 6, 2), (465, .i2l, 1), (466, .lcmp, 1), (467, .ifCond .eq 5, 3), (470, .iconst 0, 1), (471, .ireturn, 1), (472, .goto 762, 3), (475, .aload_n 1, 1), (476, .aload_n 0, 1), (477, .iload 4, 2), (479, .iconst 1, 1), (480, .iadd, 1), (481, .iaload, 1), (482, .aload_n 0, 1), (483, .iload 4, 2), (485, .iconst 2, 1), (486, .iadd, 1), (487, .iaload, 1), (488, .i2l, 1), (489, .bipush 32, 2), (491, .lshl, 1), (492, .aload_n 0, 1), (493, .iload 4, 2), (495, .iconst 3, 1), (496, .iadd, 1), (497, .iaload, 1), (498, .i2l, 1), (499, .ldc2_w 75, 3), (502, .land, 1), (503, .lor, 1), (504, .aload_n 3, 1), (505, .invokestatic 97, 3), (508, .istore 5, 2), (510, .aload_n 2, 1), (511, .aload_n 0, 1), (512, .iload 4, 2), (514, .iconst 1, 1), (515, .iadd, 1), (516, .iaload, 1), (517, .aload_n 0, 1), (518, .iload 4, 2), (520, .iconst 2, 1), (521, .iadd, 1), (522, .iaload, 1), (523, .i2l, 1), (524, .bipush 32, 2), (526, .lshl, 1), (527, .aload_n 0, 1), (528, .iload 4, 2), (530, .iconst 3, 1), (531, .iadd, 1), (532, .iaload, 1), (533, .i2l, 1), (534, .ldc2_w 75, 3), (537, .land, 1), (538, .lor, 1), (539, .invokevirtual 99, 3), (542, .lstore 6, 2), (544, .aload_n 2, 1), (545, .invokevirtual 83, 3), (548, .iload 5, 2)]
def c_law_5 : List (Nat × Instr × Nat) := [(550, .if_icmp .eq 5, 3), (553, .iconst 0, 1), (554, .ireturn, 1), (555, .iload 5, 2), (557, .ifCond .ne 14, 3), (560, .aload_n 3, 1), (561, .iconst 0, 1), (562, .laload, 1), (563, .lload 6, 2), (565, .lcmp, 1), (566, .ifCond .eq 5, 3), (569, .iconst 0, 1), (570, .ireturn, 1), (571, .goto 663, 3), (574, .aload_n 1, 1), (575, .aload_n 0, 1), (576, .iload 4, 2), (578, .iconst 1, 1), (579, .iadd, 1), (580, .iaload, 1), (581, .invokestatic 100, 3), (584, .istore 5, 2), (586, .aload_n 2, 1), (587, .aload_n 0, 1), (588, .iload 4, 2), (590, .iconst 1, 1), (591, .iadd, 1), (592, .iaload, 1), (593, .invokevirtual 103, 3), (596, .aload_n 2, 1), (597, .invokevirtual 83, 3), (600, .iload 5, 2), (602, .if_icmp .eq 5, 3), (605, .iconst 0, 1), (606, .ireturn, 1), (607, .goto 627, 3), (610, .aload_n 1, 1), (611, .aload_n 0, 1), (612, .iload 4, 2), (614, .iconst 1, 1), (615, .iadd, 1), (616, .iaload, 1), (617, .aload_n 0, 1), (618, .iload 4, 2), (620, .iconst 2, 1), (621, .iadd, 1), (622, .iaload, 1), (623, .i2l, 1), (624, .bipush 32, 2), (626, .lshl, 1), (627, .aload_n 0, 1), (628, .iload 4, 2), (630, .iconst 3, 1), (631, .iadd, 1), (632, .iaload, 1), (633, .i2l, 1), (634, .ldc2_w 75, 3), (637, .land, 1), (638, .lor, 1), (639, .aload_n 3, 1), (640, .invokestatic 104, 3), (643, .istore 5, 2), (645, .aload_n 2, 1), (646, .aload_n 0, 1)]
def c_law_6 : List (Nat × Instr × Nat) := [(647, .iload 4, 2), (649, .iconst 1, 1), (650, .iadd, 1), (651, .iaload, 1), (652, .aload_n 0, 1), (653, .iload 4, 2), (655, .iconst 2, 1), (656, .iadd, 1), (657, .iaload, 1), (658, .i2l, 1), (659, .bipush 32, 2), (661, .lshl, 1), (662, .aload_n 0, 1), (663, .iload 4, 2), (665, .iconst 3, 1), (666, .iadd, 1), (667, .iaload, 1), (668, .i2l, 1), (669, .ldc2_w 75, 3), (672, .land, 1), (673, .lor, 1), (674, .invokevirtual 106, 3), (677, .lstore 6, 2), (679, .aload_n 2, 1), (680, .invokevirtual 83, 3), (683, .iload 5, 2), (685, .if_icmp .eq 5, 3), (688, .iconst 0, 1), (689, .ireturn, 1), (690, .iload 5, 2), (692, .ifCond .ne 14, 3), (695, .aload_n 3, 1), (696, .iconst 0, 1), (697, .laload, 1), (698, .lload 6, 2), (700, .lcmp, 1), (701, .ifCond .eq 5, 3), (704, .iconst 0, 1), (705, .ireturn, 1), (706, .goto 528, 3), (709, .aload_n 1, 1), (710, .aload_n 0, 1), (711, .iload 4, 2), (713, .iconst 1, 1), (714, .iadd, 1), (715, .iaload, 1), (716, .i2l, 1), (717, .bipush 32, 2), (719, .lshl, 1), (720, .aload_n 0, 1), (721, .iload 4, 2), (723, .iconst 2, 1), (724, .iadd, 1), (725, .iaload, 1), (726, .i2l, 1), (727, .ldc2_w 75, 3), (730, .land, 1), (731, .lor, 1), (732, .aload_n 3, 1), (733, .invokestatic 107, 3), (736, .istore 5, 2), (738, .aload_n 2, 1), (739, .aload_n 0, 1), (740, .iload 4, 2)]
def c_law_7 : List (Nat × Instr × Nat) := [(742, .iconst 1, 1), (743, .iadd, 1), (744, .iaload, 1), (745, .i2l, 1), (746, .bipush 32, 2), (748, .lshl, 1), (749, .aload_n 0, 1), (750, .iload 4, 2), (752, .iconst 2, 1), (753, .iadd, 1), (754, .iaload, 1), (755, .i2l, 1), (756, .ldc2_w 75, 3), (759, .land, 1), (760, .lor, 1), (761, .invokevirtual 110, 3), (764, .lstore 6, 2), (766, .aload_n 2, 1), (767, .invokevirtual 83, 3), (770, .iload 5, 2), (772, .if_icmp .eq 5, 3), (775, .iconst 0, 1), (776, .ireturn, 1), (777, .iload 5, 2), (779, .ifCond .ne 14, 3), (782, .aload_n 3, 1), (783, .iconst 0, 1), (784, .laload, 1), (785, .lload 6, 2), (787, .lcmp, 1), (788, .ifCond .eq 5, 3), (791, .iconst 0, 1), (792, .ireturn, 1), (793, .goto 441, 3), (796, .aload_n 1, 1), (797, .aload_n 0, 1), (798, .iload 4, 2), (800, .iconst 1, 1), (801, .iadd, 1), (802, .iaload, 1), (803, .aload_n 0, 1), (804, .iload 4, 2), (806, .iconst 2, 1), (807, .iadd, 1), (808, .iaload, 1), (809, .aload_n 3, 1), (810, .invokestatic 111, 3), (813, .istore 5, 2), (815, .aload_n 2, 1), (816, .aload_n 0, 1), (817, .iload 4, 2), (819, .iconst 1, 1), (820, .iadd, 1), (821, .iaload, 1), (822, .aload_n 0, 1), (823, .iload 4, 2), (825, .iconst 2, 1), (826, .iadd, 1), (827, .iaload, 1), (828, .invokevirtual 114, 3), (831, .lstore 6, 2), (833, .aload_n 2, 1), (834, .invokevirtual 83, 3), (837, .iload 5, 2)]
def c_law_8 : List (Nat × Instr × Nat) := [(839, .if_icmp .eq 5, 3), (842, .iconst 0, 1), (843, .ireturn, 1), (844, .iload 5, 2), (846, .ifCond .ne 14, 3), (849, .aload_n 3, 1), (850, .iconst 0, 1), (851, .laload, 1), (852, .lload 6, 2), (854, .lcmp, 1), (855, .ifCond .eq 5, 3), (858, .iconst 0, 1), (859, .ireturn, 1), (860, .goto 374, 3), (863, .aload_n 1, 1), (864, .aload_n 0, 1), (865, .iload 4, 2), (867, .iconst 1, 1), (868, .iadd, 1), (869, .iaload, 1), (870, .aload_n 3, 1), (871, .invokestatic 115, 3), (874, .istore 5, 2), (876, .aload_n 2, 1), (877, .aload_n 0, 1), (878, .iload 4, 2), (880, .iconst 1, 1), (881, .iadd, 1), (882, .iaload, 1), (883, .invokevirtual 118, 3), (886, .istore 6, 2), (888, .aload_n 2, 1), (889, .invokevirtual 83, 3), (892, .iload 5, 2), (894, .if_icmp .eq 5, 3), (897, .iconst 0, 1), (898, .ireturn, 1), (899, .iload 5, 2), (901, .ifCond .ne 15, 3), (904, .aload_n 3, 1), (905, .iconst 0, 1), (906, .laload, 1), (907, .iload 6, 2), (909, .i2l, 1), (910, .lcmp, 1), (911, .ifCond .eq 5, 3), (914, .iconst 0, 1), (915, .ireturn, 1), (916, .goto 318, 3), (919, .aload_n 1, 1), (920, .aload_n 3, 1), (921, .invokestatic 119, 3), (924, .istore 5, 2), (926, .aload_n 2, 1), (927, .invokevirtual 121, 3), (930, .lstore 6, 2), (932, .aload_n 2, 1), (933, .invokevirtual 83, 3), (936, .iload 5, 2), (938, .if_icmp .eq 5, 3), (941, .iconst 0, 1), (942, .ireturn, 1), (943, .iload 5, 2), (945, .ifCond .ne 14, 3)]
def c_law_9 : List (Nat × Instr × Nat) := [(948, .aload_n 3, 1), (949, .iconst 0, 1), (950, .laload, 1), (951, .lload 6, 2), (953, .lcmp, 1), (954, .ifCond .eq 5, 3), (957, .iconst 0, 1), (958, .ireturn, 1), (959, .goto 275, 3), (962, .aload_n 1, 1), (963, .aload_n 3, 1), (964, .invokestatic 122, 3), (967, .istore 5, 2), (969, .aload_n 2, 1), (970, .invokevirtual 124, 3), (973, .lstore 6, 2), (975, .aload_n 2, 1), (976, .invokevirtual 83, 3), (979, .iload 5, 2), (981, .if_icmp .eq 5, 3), (984, .iconst 0, 1), (985, .ireturn, 1), (986, .iload 5, 2), (988, .ifCond .ne 14, 3), (991, .aload_n 3, 1), (992, .iconst 0, 1), (993, .laload, 1), (994, .lload 6, 2), (996, .lcmp, 1), (997, .ifCond .eq 5, 3), (1000, .iconst 0, 1), (1001, .ireturn, 1), (1002, .goto 232, 3), (1005, .aload_n 1, 1), (1006, .aload_n 0, 1), (1007, .iload 4, 2), (1009, .iconst 1, 1), (1010, .iadd, 1), (1011, .iaload, 1), (1012, .aload_n 0, 1), (1013, .iload 4, 2), (1015, .iconst 2, 1), (1016, .iadd, 1), (1017, .iaload, 1), (1018, .aload_n 3, 1), (1019, .invokestatic 125, 3), (1022, .istore 5, 2), (1024, .aload_n 2, 1), (1025, .aload_n 0, 1), (1026, .iload 4, 2), (1028, .iconst 1, 1), (1029, .iadd, 1), (1030, .iaload, 1), (1031, .aload_n 0, 1), (1032, .iload 4, 2), (1034, .iconst 2, 1), (1035, .iadd, 1), (1036, .iaload, 1), (1037, .invokevirtual 127, 3), (1040, .lstore 6, 2), (1042, .aload_n 2, 1), (1043, .invokevirtual 83, 3), (1046, .iload 5, 2), (1048, .if_icmp .eq 5, 3)]
def c_law_10 : List (Nat × Instr × Nat) := [(1051, .iconst 0, 1), (1052, .ireturn, 1), (1053, .iload 5, 2), (1055, .ifCond .ne 14, 3), (1058, .aload_n 3, 1), (1059, .iconst 0, 1), (1060, .laload, 1), (1061, .lload 6, 2), (1063, .lcmp, 1), (1064, .ifCond .eq 5, 3), (1067, .iconst 0, 1), (1068, .ireturn, 1), (1069, .goto 165, 3), (1072, .aload_n 1, 1), (1073, .aload_n 0, 1), (1074, .iload 4, 2), (1076, .iconst 1, 1), (1077, .iadd, 1), (1078, .iaload, 1), (1079, .aload_n 3, 1), (1080, .invokestatic 128, 3), (1083, .istore 5, 2), (1085, .aload_n 2, 1), (1086, .aload_n 0, 1), (1087, .iload 4, 2), (1089, .iconst 1, 1), (1090, .iadd, 1), (1091, .iaload, 1), (1092, .invokevirtual 130, 3), (1095, .istore 6, 2), (1097, .aload_n 2, 1), (1098, .invokevirtual 83, 3), (1101, .iload 5, 2), (1103, .if_icmp .eq 5, 3), (1106, .iconst 0, 1), (1107, .ireturn, 1), (1108, .iload 5, 2), (1110, .ifCond .ne 15, 3), (1113, .aload_n 3, 1), (1114, .iconst 0, 1), (1115, .laload, 1), (1116, .iload 6, 2), (1118, .i2l, 1), (1119, .lcmp, 1), (1120, .ifCond .eq 5, 3), (1123, .iconst 0, 1), (1124, .ireturn, 1), (1125, .goto 109, 3), (1128, .aload_n 1, 1), (1129, .aload_n 0, 1), (1130, .iload 4, 2), (1132, .iconst 1, 1), (1133, .iadd, 1), (1134, .iaload, 1), (1135, .invokevirtual 131, 3), (1138, .aload_n 2, 1), (1139, .aload_n 0, 1), (1140, .iload 4, 2), (1142, .iconst 1, 1), (1143, .iadd, 1), (1144, .iaload, 1), (1145, .invokevirtual 135, 3), (1148, .lcmp, 1), (1149, .ifCond .eq 85, 3)]
def c_law_11 : List (Nat × Instr × Nat) := [(1152, .iconst 0, 1), (1153, .ireturn, 1), (1154, .aload_n 1, 1), (1155, .invokevirtual 136, 3), (1158, .aload_n 2, 1), (1159, .invokevirtual 139, 3), (1162, .if_icmp .eq 72, 3), (1165, .iconst 0, 1), (1166, .ireturn, 1), (1167, .aload_n 1, 1), (1168, .aload_n 0, 1), (1169, .iload 4, 2), (1171, .iconst 1, 1), (1172, .iadd, 1), (1173, .iaload, 1), (1174, .aload_n 0, 1), (1175, .iload 4, 2), (1177, .iconst 2, 1), (1178, .iadd, 1), (1179, .iaload, 1), (1180, .aload_n 3, 1), (1181, .invokestatic 140, 3), (1184, .istore 5, 2), (1186, .aload_n 2, 1), (1187, .aload_n 0, 1), (1188, .iload 4, 2), (1190, .iconst 1, 1), (1191, .iadd, 1), (1192, .iaload, 1), (1193, .aload_n 0, 1), (1194, .iload 4, 2), (1196, .iconst 2, 1), (1197, .iadd, 1), (1198, .iaload, 1), (1199, .invokevirtual 142, 3), (1202, .lstore 6, 2), (1204, .aload_n 2, 1), (1205, .invokevirtual 83, 3), (1208, .iload 5, 2), (1210, .if_icmp .eq 5, 3), (1213, .iconst 0, 1), (1214, .ireturn, 1), (1215, .iload 5, 2), (1217, .ifCond .ne 14, 3), (1220, .aload_n 3, 1), (1221, .iconst 0, 1), (1222, .laload, 1), (1223, .lload 6, 2), (1225, .lcmp, 1), (1226, .ifCond .eq 5, 3), (1229, .iconst 0, 1), (1230, .ireturn, 1), (1231, .goto 3, 3), (1234, .iinc 4 5, 3), (1237, .goto (-1214), 3), (1240, .iconst 1, 1), (1241, .ireturn, 1)]
def mm_look : List (Nat × Instr × Nat) → Nat → Option (Instr × Nat)
  | [], _ => none
  | (q, i) :: r, pc => cond (Nat.beq q pc) (some i) (mm_look r pc)
def t_tabs : List (List (Nat × Instr × Nat)) := [c_0, c_1, c_2, c_3, c_4, c_5, c_6, c_7, c_8, c_9, c_10, c_11, c_12, c_13, c_14, c_15, c_16, c_17, c_18, c_19, c_20, c_21, c_22, c_23, c_24, c_25, c_26, c_27, c_28, c_29, c_30, c_31, c_32, c_33, c_34, c_35, c_36, c_37, c_38, c_39, c_40, c_41, c_42, c_43, c_44, c_45, c_46, c_47, c_48, c_49, c_50, c_51, c_52, c_53, c_54, c_55, c_56, c_57, c_58, c_59, c_60, c_61, c_62, c_63, c_64, c_65, c_66, c_67, c_68, c_69, c_70, c_71, c_72, c_73, c_74, c_75, c_76, c_77, c_78, c_79, c_80, c_81, c_82, c_83, c_84, c_85, c_86, c_87, c_88, c_89, c_90, c_91, c_92, c_93, c_94, c_95, c_96, c_97, c_98, c_99, c_100, c_101, c_102, c_103, c_104, c_105, c_106, c_107, c_108, c_109]
def t_codL (pc : Nat) : Option (Instr × Nat) := cond (Nat.ble 171 pc) (cond (Nat.ble 265 pc) (cond (Nat.ble 369 pc) (cond (Nat.ble 460 pc) (cond (Nat.ble 550 pc) (cond (Nat.ble 647 pc) (cond (Nat.ble 742 pc) (cond (Nat.ble 839 pc) (cond (Nat.ble 948 pc) (cond (Nat.ble 1051 pc) (cond (Nat.ble 1152 pc) (mm_look c_law_11 pc) (mm_look c_law_10 pc)) (mm_look c_law_9 pc)) (mm_look c_law_8 pc)) (mm_look c_law_7 pc)) (mm_look c_law_6 pc)) (mm_look c_law_5 pc)) (mm_look c_law_4 pc)) (mm_look c_law_3 pc)) (mm_look c_law_2 pc)) (mm_look c_law_1 pc)) (mm_look c_law_0 pc)
def t_cod (k pc : Nat) : Option (Instr × Nat) := cond (Nat.beq k 110) (t_codL pc) (match t_tabs[k]? with | some c => mm_look c pc | none => none)
def F_0 : u_T := fun k => match k with
  | 0 => ("TrusteeDesk", "claims", "[LTrusteeDesk$Claim;", true)
  | 1 => ("TrusteeDesk", "claimCount", "I", false)
  | 2 => ("TrusteeDesk", "assets", "[LTrusteeDesk$Asset;", true)
  | 3 => ("TrusteeDesk", "assetCount", "I", false)
  | 4 => ("TrusteeDesk", "percentages", "[I", true)
  | 5 => ("TrusteeDesk", "journal", "LTrusteeDesk$Journal;", true)
  | 6 => ("TrusteeDesk", "cash", "J", false)
  | 7 => ("TrusteeDesk", "realisedCents", "J", false)
  | 8 => ("TrusteeDesk", "spentCents", "J", false)
  | _ => ("TrusteeDesk", "ended", "Z", false)
def F_1 : u_T := fun k => match k with
  | 0 => ("TrusteeDesk$Claim", "number", "I", true)
  | 1 => ("TrusteeDesk$Claim", "rank", "I", true)
  | 2 => ("TrusteeDesk$Claim", "state", "I", false)
  | 3 => ("TrusteeDesk$Claim", "amount", "J", false)
  | 4 => ("TrusteeDesk$Claim", "debt", "J", false)
  | 5 => ("TrusteeDesk$Claim", "got", "J", false)
  | 6 => ("TrusteeDesk$Claim", "paid", "J", false)
  | 7 => ("TrusteeDesk$Claim", "reserved", "J", false)
  | _ => ("TrusteeDesk$Claim", "unrealisedSecurities", "I", false)
def F_2 : u_T := fun k => match k with
  | 0 => ("TrusteeDesk$Asset", "holders", "[LTrusteeDesk$Claim;", true)
  | 1 => ("TrusteeDesk$Asset", "limits", "[J", true)
  | 2 => ("TrusteeDesk$Asset", "count", "I", false)
  | _ => ("TrusteeDesk$Asset", "isRealised", "Z", false)
def F_3 : u_T := fun k => match k with
  | 0 => ("TrusteeDesk$Journal", "kinds", "[I", true)
  | 1 => ("TrusteeDesk$Journal", "owners", "[I", true)
  | 2 => ("TrusteeDesk$Journal", "cents", "[J", true)
  | _ => ("TrusteeDesk$Journal", "count", "I", false)
def F_4 : u_T := fun k => match k with
  | 0 => ("TrusteeDeskModel", "code", "I", false)
  | 1 => ("TrusteeDeskModel", "ended", "Z", false)
  | 2 => ("TrusteeDeskModel", "claims", "I", false)
  | 3 => ("TrusteeDeskModel", "ranks", "[I", true)
  | 4 => ("TrusteeDeskModel", "amounts", "[J", true)
  | 5 => ("TrusteeDeskModel", "debts", "[J", true)
  | 6 => ("TrusteeDeskModel", "gots", "[J", true)
  | 7 => ("TrusteeDeskModel", "paids", "[J", true)
  | 8 => ("TrusteeDeskModel", "reserves", "[J", true)
  | 9 => ("TrusteeDeskModel", "states", "[I", true)
  | 10 => ("TrusteeDeskModel", "assets", "I", false)
  | 11 => ("TrusteeDeskModel", "realised", "[Z", true)
  | 12 => ("TrusteeDeskModel", "many", "[I", true)
  | 13 => ("TrusteeDeskModel", "holders", "[I", true)
  | 14 => ("TrusteeDeskModel", "limits", "[J", true)
  | 15 => ("TrusteeDeskModel", "percentages", "[I", true)
  | 16 => ("TrusteeDeskModel", "cash", "J", false)
  | 17 => ("TrusteeDeskModel", "income", "J", false)
  | 18 => ("TrusteeDeskModel", "spent", "J", false)
  | 19 => ("TrusteeDeskModel", "entryCount", "I", false)
  | 20 => ("TrusteeDeskModel", "kinds", "[I", true)
  | 21 => ("TrusteeDeskModel", "whose", "[I", true)
  | 22 => ("TrusteeDeskModel", "cents", "[J", true)
  | 23 => ("TrusteeDeskModel", "lefts", "[J", true)
  | 24 => ("TrusteeDeskModel", "shares", "[J", true)
  | _ => ("TrusteeDeskModel", "overs", "[J", true)
def F_x : u_T := fun _ => ("", "", "", false)
def t_cl : List vw_C := [("TrusteeDesk", F_0, 10), ("TrusteeDesk$Claim", F_1, 9), ("TrusteeDesk$Asset", F_2, 4), ("TrusteeDesk$Journal", F_3, 4), ("TrusteeDeskModel", F_4, 26), ("java/lang/IllegalArgumentException", F_x, 0), ("java/lang/IllegalStateException", F_x, 0), ("java/lang/IndexOutOfBoundsException", F_x, 0), ("java/lang/UnsupportedOperationException", F_x, 0)]
def t_NL : List (Nat) := [10, 9, 4, 4, 26]
def t_N (k : Nat) : Nat := t_NL.getD k (0)
def t_ct : Nat → Nat → FieldType
  | 0, 0 => .array (.object "TrusteeDesk$Claim")
  | 0, 1 => .int
  | 0, 2 => .array (.object "TrusteeDesk$Asset")
  | 0, 3 => .int
  | 0, 4 => .array .int
  | 0, 5 => .object "TrusteeDesk$Journal"
  | 0, 6 => .long
  | 0, 7 => .long
  | 0, 8 => .long
  | 0, 9 => .boolean
  | 1, 0 => .int
  | 1, 1 => .int
  | 1, 2 => .int
  | 1, 3 => .long
  | 1, 4 => .long
  | 1, 5 => .long
  | 1, 6 => .long
  | 1, 7 => .long
  | 1, 8 => .int
  | 2, 0 => .array (.object "TrusteeDesk$Claim")
  | 2, 1 => .array .long
  | 2, 2 => .int
  | 2, 3 => .boolean
  | 3, 0 => .array .int
  | 3, 1 => .array .int
  | 3, 2 => .array .long
  | 3, 3 => .int
  | 4, 0 => .int
  | 4, 1 => .boolean
  | 4, 2 => .int
  | 4, 3 => .array .int
  | 4, 4 => .array .long
  | 4, 5 => .array .long
  | 4, 6 => .array .long
  | 4, 7 => .array .long
  | 4, 8 => .array .long
  | 4, 9 => .array .int
  | 4, 10 => .int
  | 4, 11 => .array .boolean
  | 4, 12 => .array .int
  | 4, 13 => .array .int
  | 4, 14 => .array .long
  | 4, 15 => .array .int
  | 4, 16 => .long
  | 4, 17 => .long
  | 4, 18 => .long
  | 4, 19 => .int
  | 4, 20 => .array .int
  | 4, 21 => .array .int
  | 4, 22 => .array .long
  | 4, 23 => .array .long
  | 4, 24 => .array .long
  | 4, 25 => .array .long
  | _, _ => .int
def t_df : Nat → List Value
  | 0 => [.null, .int 0, .null, .int 0, .null, .null, .long 0, .long 0, .long 0, .int 0]
  | 1 => [.int 0, .int 0, .int 0, .long 0, .long 0, .long 0, .long 0, .long 0, .int 0]
  | 2 => [.null, .null, .int 0, .int 0]
  | 3 => [.null, .null, .null, .int 0]
  | 4 => [.int 0, .int 0, .int 0, .null, .null, .null, .null, .null, .null, .null, .int 0, .null, .null, .null, .null, .null, .long 0, .long 0, .long 0, .int 0, .null, .null, .null, .null, .null, .null]
  | _ => []
def t_fin : Nat → Nat → Bool
  | 0, 0 => true
  | 0, 2 => true
  | 0, 4 => true
  | 0, 5 => true
  | 1, 0 => true
  | 1, 1 => true
  | 2, 0 => true
  | 2, 1 => true
  | 3, 0 => true
  | 3, 1 => true
  | 3, 2 => true
  | 4, 3 => true
  | 4, 4 => true
  | 4, 5 => true
  | 4, 6 => true
  | 4, 7 => true
  | 4, 8 => true
  | 4, 9 => true
  | 4, 11 => true
  | 4, 12 => true
  | 4, 13 => true
  | 4, 14 => true
  | 4, 15 => true
  | 4, 20 => true
  | 4, 21 => true
  | 4, 22 => true
  | 4, 23 => true
  | 4, 24 => true
  | 4, 25 => true
  | _, _ => false
def t_ini : Nat → Nat → Bool
  | 0, 0 => true
  | 39, 1 => true
  | 46, 2 => true
  | 50, 3 => true
  | 53, 4 => true
  | _, _ => false
/-- (class file, pool index, class, field, place of its word) -/
def t_fldL : List (Nat × Nat × Nat × Nat × Nat) := [(3, 9, 3, 0, 32), (0, 228, 3, 0, 33), (3, 15, 3, 1, 34), (0, 231, 3, 1, 35), (3, 18, 3, 2, 36), (0, 234, 3, 2, 37), (3, 22, 3, 3, 38), (0, 219, 3, 3, 39), (0, 11, 0, 0, 51), (0, 40, 0, 1, 52), (0, 17, 0, 2, 53), (0, 77, 0, 3, 54), (0, 21, 0, 4, 55), (0, 28, 0, 5, 56), (0, 124, 0, 6, 57), (0, 114, 0, 7, 58), (0, 163, 0, 8, 59), (0, 182, 0, 9, 60), (1, 9, 1, 0, 231), (0, 264, 1, 0, 232), (1, 15, 1, 1, 233), (0, 193, 1, 1, 234), (1, 22, 1, 2, 235), (0, 61, 1, 2, 236), (2, 25, 1, 2, 237), (1, 18, 1, 3, 238), (0, 133, 1, 3, 239), (0, 73, 1, 4, 240), (1, 34, 1, 4, 241), (1, 37, 1, 5, 242), (0, 196, 1, 5, 243), (1, 28, 1, 6, 244), (0, 199, 1, 6, 245), (1, 31, 1, 7, 246), (0, 146, 1, 7, 247), (1, 25, 1, 8, 248), (0, 106, 1, 8, 249), (2, 11, 2, 0, 316), (0, 267, 2, 0, 317), (2, 17, 2, 1, 318), (0, 270, 2, 1, 319), (2, 21, 2, 2, 320), (0, 87, 2, 2, 321), (0, 92, 2, 3, 322), (4, 66, 4, 0, 541), (4, 123, 4, 1, 542), (4, 70, 4, 2, 543), (4, 7, 4, 3, 544), (4, 13, 4, 4, 545), (4, 17, 4, 5, 546), (4, 20, 4, 6, 547), (4, 23, 4, 7, 548), (4, 26, 4, 8, 549), (4, 29, 4, 9, 550), (4, 77, 4, 10, 551), (4, 32, 4, 11, 552), (4, 36, 4, 12, 553), (4, 39, 4, 13, 554), (4, 42, 4, 14, 555), (4, 45, 4, 15, 556), (4, 99, 4, 16, 557), (4, 139, 4, 17, 558), (4, 145, 4, 18, 559), (4, 82, 4, 19, 560), (4, 48, 4, 20, 561), (4, 51, 4, 21, 562), (4, 54, 4, 22, 563), (4, 57, 4, 23, 564), (4, 60, 4, 24, 565), (4, 63, 4, 25, 566)]
def mm_fl : List (Nat × Nat × Nat × Nat × Nat) → Nat → Nat → Option (Nat × Nat)
  | [], _, _ => none
  | (o, i, c, j, _) :: r, o2, i2 => cond (Nat.beq o o2 && Nat.beq i i2) (some (c, j)) (mm_fl r o2 i2)
def t_fld (o idx : Nat) : Option (Nat × Nat) := mm_fl t_fldL o idx
/-- (class file, pool index, method, its parameters, how it is called, place of its word) -/
def t_mthL : List (Nat × Nat × Nat × Nat × Nat × Nat) := [(5, 71, 0, 0, 2, 16), (0, 27, 50, 0, 2, 28), (5, 131, 15, 1, 1, 82), (0, 208, 36, 0, 1, 86), (0, 211, 37, 0, 1, 90), (0, 214, 38, 0, 1, 94), (5, 136, 16, 0, 1, 99), (5, 77, 95, 4, 0, 103), (5, 7, 1, 2, 1, 109), (0, 32, 19, 1, 0, 113), (0, 36, 20, 2, 0, 185), (0, 51, 18, 0, 1, 206), (0, 54, 39, 3, 2, 227), (5, 86, 96, 4, 0, 269), (5, 19, 2, 2, 1, 273), (0, 57, 21, 1, 1, 277), (0, 64, 41, 0, 1, 297), (5, 89, 97, 2, 0, 302), (5, 25, 3, 0, 1, 305), (0, 82, 46, 0, 2, 311), (5, 93, 98, 5, 0, 332), (5, 29, 4, 3, 1, 335), (0, 83, 22, 1, 1, 339), (0, 96, 48, 1, 1, 345), (0, 102, 47, 2, 1, 350), (5, 97, 99, 4, 0, 354), (5, 33, 5, 2, 1, 357), (0, 109, 49, 0, 1, 361), (0, 117, 51, 3, 1, 366), (0, 120, 28, 2, 1, 370), (0, 202, 42, 0, 1, 374), (0, 127, 29, 1, 1, 384), (0, 143, 40, 0, 1, 388), (0, 149, 23, 1, 1, 392), (0, 252, 43, 1, 1, 396), (1, 46, 42, 0, 1, 400), (0, 158, 30, 2, 1, 403), (5, 100, 100, 2, 0, 407), (5, 36, 6, 1, 1, 410), (5, 104, 101, 4, 0, 415), (5, 40, 7, 2, 1, 418), (5, 107, 102, 3, 0, 424), (5, 43, 8, 1, 1, 427), (5, 111, 103, 4, 0, 432), (5, 47, 9, 2, 1, 435), (0, 168, 24, 1, 1, 440), (0, 174, 25, 2, 1, 445), (0, 255, 44, 1, 1, 449), (1, 52, 43, 1, 1, 453), (0, 178, 26, 1, 1, 454), (0, 261, 27, 2, 1, 458), (5, 115, 104, 3, 0, 462), (5, 51, 10, 1, 1, 465), (5, 119, 105, 2, 0, 469), (5, 55, 11, 0, 1, 472), (5, 122, 106, 2, 0, 476), (5, 59, 12, 0, 1, 479), (0, 187, 31, 0, 1, 484), (0, 190, 32, 1, 1, 488), (0, 273, 45, 0, 1, 492), (0, 276, 33, 2, 1, 496), (0, 283, 34, 3, 0, 500), (0, 280, 35, 2, 1, 503), (5, 125, 107, 4, 0, 507), (5, 62, 13, 2, 1, 510), (5, 128, 108, 3, 0, 515), (5, 65, 14, 1, 1, 518), (5, 140, 109, 4, 0, 522), (5, 68, 17, 2, 1, 525), (0, 220, 52, 1, 1, 529), (5, 74, 53, 0, 2, 537), (5, 83, 54, 0, 1, 621), (5, 82, 70, 2, 1, 625), (4, 118, 58, 1, 0, 629), (4, 73, 55, 3, 0, 633), (5, 88, 71, 2, 1, 637), (4, 127, 56, 1, 1, 641), (4, 130, 63, 1, 1, 645), (5, 92, 72, 0, 1, 649), (5, 96, 73, 3, 1, 653), (4, 133, 57, 1, 1, 657), (4, 85, 61, 2, 1, 661), (5, 99, 75, 2, 1, 665), (4, 136, 74, 1, 1, 669), (4, 107, 59, 3, 1, 673), (4, 89, 60, 1, 1, 677), (4, 142, 69, 1, 1, 681), (4, 103, 62, 1, 1, 685), (4, 111, 65, 1, 1, 689), (4, 95, 64, 2, 1, 693), (4, 114, 68, 2, 1, 698), (5, 103, 76, 1, 1, 702), (5, 106, 77, 2, 1, 706), (5, 110, 78, 1, 1, 710), (5, 114, 81, 2, 1, 714), (4, 151, 79, 1, 1, 718), (4, 154, 80, 2, 1, 722), (4, 148, 66, 2, 1, 726), (4, 157, 82, 1, 1, 730), (4, 160, 67, 2, 1, 734), (5, 118, 83, 1, 1, 738), (5, 121, 84, 0, 1, 742), (5, 124, 89, 0, 1, 746), (4, 172, 85, 0, 1, 750), (4, 176, 88, 2, 1, 754), (4, 165, 87, 1, 1, 758), (4, 169, 86, 2, 1, 763), (5, 127, 90, 2, 1, 767), (5, 130, 91, 1, 1, 772), (5, 135, 92, 1, 1, 776), (5, 139, 93, 0, 1, 780), (5, 142, 94, 2, 1, 784)]
def mm_ml : List (Nat × Nat × Nat × Nat × Nat × Nat) → Nat → Nat → Option (Nat × Nat × Nat)
  | [], _, _ => none
  | (o, i, k, n, t, _) :: r, o2, i2 => cond (Nat.beq o o2 && Nat.beq i i2) (some (k, n, t)) (mm_ml r o2 i2)
def t_mth (o idx : Nat) : Option (Nat × Nat × Nat) := mm_ml t_mthL o idx
def t_rc (k : Nat) : Nat := t_o k
def t_obi : Nat → Nat → Bool
  | 0, 1 => true
  | 3, 3 => true
  | 1, 3 => true
  | 2, 3 => true
  | 4, 1 => true
  | _, _ => false
def t_mx : Nat → Nat → Option Bool
  | 1, 40 => some true
  | 0, 258 => some false
  | 0, 152 => some true
  | _, _ => none
def t_cls : Nat → Nat → Option Nat
  | 5, 8 => some 0
  | 0, 9 => some 1
  | 0, 15 => some 2
  | 0, 25 => some 3
  | 5, 72 => some 4
  | _, _ => none
def t_exc : Nat → Nat → Option Nat
  | 0, 136 => some 5
  | 0, 44 => some 8
  | 0, 68 => some 6
  | 0, 223 => some 7
  | _, _ => none
def t_ary : Nat → Nat → Option Nat
  | 0, 9 => some 3
  | 0, 15 => some 4
  | 2, 9 => some 3
  | _, _ => none
def t_at : ArrayType → Option Nat
  | .int => some 0
  | .long => some 1
  | .boolean => some 2
  | _ => none
def t_ci : Nat → Nat → Option Int32 := fun _ _ => none
def t_cj : Nat → Nat → Option Int64
  | 0, 217 => some (-1)
  | 0, 244 => some (400000000)
  | 1, 50 => some (10000)
  | 4, 80 => some (7)
  | 4, 121 => some (400000000)
  | 4, 93 => some (10000)
  | 4, 163 => some (-1)
  | 4, 179 => some (9)
  | 4, 181 => some (2)
  | 5, 75 => some (4294967295)
  | _, _ => none
def t_str : Nat → Nat → Bool
  | 0, 242 => true
  | 0, 246 => true
  | 0, 46 => true
  | 0, 240 => true
  | 0, 248 => true
  | 0, 70 => true
  | 0, 80 => true
  | 0, 250 => true
  | 0, 90 => true
  | 0, 100 => true
  | 0, 112 => true
  | 0, 131 => true
  | 0, 138 => true
  | 0, 141 => true
  | 0, 161 => true
  | 0, 166 => true
  | 0, 172 => true
  | 0, 185 => true
  | 0, 206 => true
  | 0, 225 => true
  | 0, 238 => true
  | _, _ => false
def t_ctr : Nat → Nat → Nat → Bool
  | 0, 140, 5 => true
  | 0, 48, 8 => true
  | 0, 72, 6 => true
  | 0, 227, 7 => true
  | _, _, _ => false
end
section
theorem d_0 : ∀ e ∈ c_0, decode prog_1_method_1_code e.1 = .ok e.2 := by decide +kernel
theorem d_1 : ∀ e ∈ c_1, decode prog_1_method_2_code e.1 = .ok e.2 := by decide +kernel
theorem d_2 : ∀ e ∈ c_2, decode prog_1_method_3_code e.1 = .ok e.2 := by decide +kernel
theorem d_3 : ∀ e ∈ c_3, decode prog_1_method_4_code e.1 = .ok e.2 := by decide +kernel
theorem d_4 : ∀ e ∈ c_4, decode prog_1_method_5_code e.1 = .ok e.2 := by decide +kernel
theorem d_5 : ∀ e ∈ c_5, decode prog_1_method_6_code e.1 = .ok e.2 := by decide +kernel
theorem d_6 : ∀ e ∈ c_6, decode prog_1_method_7_code e.1 = .ok e.2 := by decide +kernel
theorem d_7 : ∀ e ∈ c_7, decode prog_1_method_8_code e.1 = .ok e.2 := by decide +kernel
theorem d_8 : ∀ e ∈ c_8, decode prog_1_method_9_code e.1 = .ok e.2 := by decide +kernel
theorem d_9 : ∀ e ∈ c_9, decode prog_1_method_10_code e.1 = .ok e.2 := by decide +kernel
theorem d_10 : ∀ e ∈ c_10, decode prog_1_method_11_code e.1 = .ok e.2 := by decide +kernel
theorem d_11 : ∀ e ∈ c_11, decode prog_1_method_12_code e.1 = .ok e.2 := by decide +kernel
theorem d_12 : ∀ e ∈ c_12, decode prog_1_method_13_code e.1 = .ok e.2 := by decide +kernel
theorem d_13 : ∀ e ∈ c_13, decode prog_1_method_14_code e.1 = .ok e.2 := by decide +kernel
theorem d_14 : ∀ e ∈ c_14, decode prog_1_method_15_code e.1 = .ok e.2 := by decide +kernel
theorem d_15 : ∀ e ∈ c_15, decode prog_1_method_16_code e.1 = .ok e.2 := by decide +kernel
theorem d_16 : ∀ e ∈ c_16, decode prog_1_method_17_code e.1 = .ok e.2 := by decide +kernel
theorem d_17 : ∀ e ∈ c_17, decode prog_1_method_18_code e.1 = .ok e.2 := by decide +kernel
theorem d_18 : ∀ e ∈ c_18, decode prog_1_method_19_code e.1 = .ok e.2 := by decide +kernel
theorem d_19 : ∀ e ∈ c_19, decode prog_1_method_20_code e.1 = .ok e.2 := by decide +kernel
theorem d_20 : ∀ e ∈ c_20, decode prog_1_method_21_code e.1 = .ok e.2 := by decide +kernel
theorem d_21 : ∀ e ∈ c_21, decode prog_1_method_22_code e.1 = .ok e.2 := by decide +kernel
theorem d_22 : ∀ e ∈ c_22, decode prog_1_method_23_code e.1 = .ok e.2 := by decide +kernel
theorem d_23 : ∀ e ∈ c_23, decode prog_1_method_24_code e.1 = .ok e.2 := by decide +kernel
theorem d_24 : ∀ e ∈ c_24, decode prog_1_method_25_code e.1 = .ok e.2 := by decide +kernel
theorem d_25 : ∀ e ∈ c_25, decode prog_1_method_26_code e.1 = .ok e.2 := by decide +kernel
theorem d_26 : ∀ e ∈ c_26, decode prog_1_method_27_code e.1 = .ok e.2 := by decide +kernel
theorem d_27 : ∀ e ∈ c_27, decode prog_1_method_28_code e.1 = .ok e.2 := by decide +kernel
theorem d_28 : ∀ e ∈ c_28, decode prog_1_method_29_code e.1 = .ok e.2 := by decide +kernel
theorem d_29 : ∀ e ∈ c_29, decode prog_1_method_30_code e.1 = .ok e.2 := by decide +kernel
theorem d_30 : ∀ e ∈ c_30, decode prog_1_method_31_code e.1 = .ok e.2 := by decide +kernel
theorem d_31 : ∀ e ∈ c_31, decode prog_1_method_32_code e.1 = .ok e.2 := by decide +kernel
theorem d_32 : ∀ e ∈ c_32, decode prog_1_method_33_code e.1 = .ok e.2 := by decide +kernel
theorem d_33 : ∀ e ∈ c_33, decode prog_1_method_34_code e.1 = .ok e.2 := by decide +kernel
theorem d_34 : ∀ e ∈ c_34, decode prog_1_method_35_code e.1 = .ok e.2 := by decide +kernel
theorem d_35 : ∀ e ∈ c_35, decode prog_1_method_36_code e.1 = .ok e.2 := by decide +kernel
theorem d_36 : ∀ e ∈ c_36, decode prog_1_method_37_code e.1 = .ok e.2 := by decide +kernel
theorem d_37 : ∀ e ∈ c_37, decode prog_1_method_38_code e.1 = .ok e.2 := by decide +kernel
theorem d_38 : ∀ e ∈ c_38, decode prog_1_method_39_code e.1 = .ok e.2 := by decide +kernel
theorem d_39 : ∀ e ∈ c_39, decode prog_3_method_1_code e.1 = .ok e.2 := by decide +kernel
theorem d_40 : ∀ e ∈ c_40, decode prog_3_method_2_code e.1 = .ok e.2 := by decide +kernel
theorem d_41 : ∀ e ∈ c_41, decode prog_3_method_3_code e.1 = .ok e.2 := by decide +kernel
theorem d_42 : ∀ e ∈ c_42, decode prog_3_method_4_code e.1 = .ok e.2 := by decide +kernel
theorem d_43 : ∀ e ∈ c_43, decode prog_3_method_5_code e.1 = .ok e.2 := by decide +kernel
theorem d_44 : ∀ e ∈ c_44, decode prog_3_method_6_code e.1 = .ok e.2 := by decide +kernel
theorem d_45 : ∀ e ∈ c_45, decode prog_3_method_7_code e.1 = .ok e.2 := by decide +kernel
theorem d_46 : ∀ e ∈ c_46, decode prog_2_method_1_code e.1 = .ok e.2 := by decide +kernel
theorem d_47 : ∀ e ∈ c_47, decode prog_2_method_2_code e.1 = .ok e.2 := by decide +kernel
theorem d_48 : ∀ e ∈ c_48, decode prog_2_method_3_code e.1 = .ok e.2 := by decide +kernel
theorem d_49 : ∀ e ∈ c_49, decode prog_2_method_4_code e.1 = .ok e.2 := by decide +kernel
theorem d_50 : ∀ e ∈ c_50, decode prog_4_method_1_code e.1 = .ok e.2 := by decide +kernel
theorem d_51 : ∀ e ∈ c_51, decode prog_4_method_2_code e.1 = .ok e.2 := by decide +kernel
theorem d_52 : ∀ e ∈ c_52, decode prog_4_method_3_code e.1 = .ok e.2 := by decide +kernel
end
section
theorem d_53 : ∀ e ∈ c_53, decode prog_6_method_1_code e.1 = .ok e.2 := by decide +kernel
theorem d_54 : ∀ e ∈ c_54, decode prog_6_method_2_code e.1 = .ok e.2 := by decide +kernel
theorem d_55 : ∀ e ∈ c_55, decode prog_6_method_3_code e.1 = .ok e.2 := by decide +kernel
theorem d_56 : ∀ e ∈ c_56, decode prog_6_method_4_code e.1 = .ok e.2 := by decide +kernel
theorem d_57 : ∀ e ∈ c_57, decode prog_6_method_5_code e.1 = .ok e.2 := by decide +kernel
theorem d_58 : ∀ e ∈ c_58, decode prog_6_method_6_code e.1 = .ok e.2 := by decide +kernel
theorem d_59 : ∀ e ∈ c_59, decode prog_6_method_7_code e.1 = .ok e.2 := by decide +kernel
theorem d_60 : ∀ e ∈ c_60, decode prog_6_method_8_code e.1 = .ok e.2 := by decide +kernel
theorem d_61 : ∀ e ∈ c_61, decode prog_6_method_9_code e.1 = .ok e.2 := by decide +kernel
theorem d_62 : ∀ e ∈ c_62, decode prog_6_method_10_code e.1 = .ok e.2 := by decide +kernel
theorem d_63 : ∀ e ∈ c_63, decode prog_6_method_11_code e.1 = .ok e.2 := by decide +kernel
theorem d_64 : ∀ e ∈ c_64, decode prog_6_method_12_code e.1 = .ok e.2 := by decide +kernel
theorem d_65 : ∀ e ∈ c_65, decode prog_6_method_13_code e.1 = .ok e.2 := by decide +kernel
theorem d_66 : ∀ e ∈ c_66, decode prog_6_method_14_code e.1 = .ok e.2 := by decide +kernel
theorem d_67 : ∀ e ∈ c_67, decode prog_6_method_15_code e.1 = .ok e.2 := by decide +kernel
theorem d_68 : ∀ e ∈ c_68, decode prog_6_method_16_code e.1 = .ok e.2 := by decide +kernel
theorem d_69 : ∀ e ∈ c_69, decode prog_6_method_17_code e.1 = .ok e.2 := by decide +kernel
theorem d_70 : ∀ e ∈ c_70, decode prog_6_method_18_code e.1 = .ok e.2 := by decide +kernel
theorem d_71 : ∀ e ∈ c_71, decode prog_6_method_19_code e.1 = .ok e.2 := by decide +kernel
theorem d_72 : ∀ e ∈ c_72, decode prog_6_method_20_code e.1 = .ok e.2 := by decide +kernel
theorem d_73 : ∀ e ∈ c_73, decode prog_6_method_21_code e.1 = .ok e.2 := by decide +kernel
theorem d_74 : ∀ e ∈ c_74, decode prog_6_method_22_code e.1 = .ok e.2 := by decide +kernel
theorem d_75 : ∀ e ∈ c_75, decode prog_6_method_23_code e.1 = .ok e.2 := by decide +kernel
theorem d_76 : ∀ e ∈ c_76, decode prog_6_method_24_code e.1 = .ok e.2 := by decide +kernel
theorem d_77 : ∀ e ∈ c_77, decode prog_6_method_25_code e.1 = .ok e.2 := by decide +kernel
theorem d_78 : ∀ e ∈ c_78, decode prog_6_method_26_code e.1 = .ok e.2 := by decide +kernel
theorem d_79 : ∀ e ∈ c_79, decode prog_6_method_27_code e.1 = .ok e.2 := by decide +kernel
theorem d_80 : ∀ e ∈ c_80, decode prog_6_method_28_code e.1 = .ok e.2 := by decide +kernel
theorem d_81 : ∀ e ∈ c_81, decode prog_6_method_29_code e.1 = .ok e.2 := by decide +kernel
theorem d_82 : ∀ e ∈ c_82, decode prog_6_method_30_code e.1 = .ok e.2 := by decide +kernel
theorem d_83 : ∀ e ∈ c_83, decode prog_6_method_31_code e.1 = .ok e.2 := by decide +kernel
theorem d_84 : ∀ e ∈ c_84, decode prog_6_method_32_code e.1 = .ok e.2 := by decide +kernel
theorem d_85 : ∀ e ∈ c_85, decode prog_6_method_33_code e.1 = .ok e.2 := by decide +kernel
theorem d_86 : ∀ e ∈ c_86, decode prog_6_method_34_code e.1 = .ok e.2 := by decide +kernel
theorem d_87 : ∀ e ∈ c_87, decode prog_6_method_35_code e.1 = .ok e.2 := by decide +kernel
theorem d_88 : ∀ e ∈ c_88, decode prog_6_method_36_code e.1 = .ok e.2 := by decide +kernel
theorem d_89 : ∀ e ∈ c_89, decode prog_6_method_37_code e.1 = .ok e.2 := by decide +kernel
theorem d_90 : ∀ e ∈ c_90, decode prog_6_method_38_code e.1 = .ok e.2 := by decide +kernel
theorem d_91 : ∀ e ∈ c_91, decode prog_6_method_39_code e.1 = .ok e.2 := by decide +kernel
theorem d_92 : ∀ e ∈ c_92, decode prog_6_method_40_code e.1 = .ok e.2 := by decide +kernel
theorem d_93 : ∀ e ∈ c_93, decode prog_6_method_41_code e.1 = .ok e.2 := by decide +kernel
theorem d_94 : ∀ e ∈ c_94, decode prog_6_method_42_code e.1 = .ok e.2 := by decide +kernel
theorem d_95 : ∀ e ∈ c_95, decode method_3_code e.1 = .ok e.2 := by decide +kernel
theorem d_96 : ∀ e ∈ c_96, decode method_4_code e.1 = .ok e.2 := by decide +kernel
theorem d_97 : ∀ e ∈ c_97, decode method_5_code e.1 = .ok e.2 := by decide +kernel
theorem d_98 : ∀ e ∈ c_98, decode method_6_code e.1 = .ok e.2 := by decide +kernel
theorem d_99 : ∀ e ∈ c_99, decode method_7_code e.1 = .ok e.2 := by decide +kernel
theorem d_100 : ∀ e ∈ c_100, decode method_8_code e.1 = .ok e.2 := by decide +kernel
theorem d_101 : ∀ e ∈ c_101, decode method_9_code e.1 = .ok e.2 := by decide +kernel
theorem d_102 : ∀ e ∈ c_102, decode method_10_code e.1 = .ok e.2 := by decide +kernel
theorem d_103 : ∀ e ∈ c_103, decode method_11_code e.1 = .ok e.2 := by decide +kernel
theorem d_104 : ∀ e ∈ c_104, decode method_12_code e.1 = .ok e.2 := by decide +kernel
theorem d_105 : ∀ e ∈ c_105, decode method_13_code e.1 = .ok e.2 := by decide +kernel
theorem d_106 : ∀ e ∈ c_106, decode method_14_code e.1 = .ok e.2 := by decide +kernel
theorem d_107 : ∀ e ∈ c_107, decode method_15_code e.1 = .ok e.2 := by decide +kernel
theorem d_108 : ∀ e ∈ c_108, decode method_16_code e.1 = .ok e.2 := by decide +kernel
theorem d_109 : ∀ e ∈ c_109, decode method_17_code e.1 = .ok e.2 := by decide +kernel
end
section
theorem d_law_0 : ∀ e ∈ c_law_0, decode code e.1 = .ok e.2 := by decide +kernel
theorem d_law_1 : ∀ e ∈ c_law_1, decode code e.1 = .ok e.2 := by decide +kernel
theorem d_law_2 : ∀ e ∈ c_law_2, decode code e.1 = .ok e.2 := by decide +kernel
theorem d_law_3 : ∀ e ∈ c_law_3, decode code e.1 = .ok e.2 := by decide +kernel
theorem d_law_4 : ∀ e ∈ c_law_4, decode code e.1 = .ok e.2 := by decide +kernel
theorem d_law_5 : ∀ e ∈ c_law_5, decode code e.1 = .ok e.2 := by decide +kernel
theorem d_law_6 : ∀ e ∈ c_law_6, decode code e.1 = .ok e.2 := by decide +kernel
theorem d_law_7 : ∀ e ∈ c_law_7, decode code e.1 = .ok e.2 := by decide +kernel
theorem d_law_8 : ∀ e ∈ c_law_8, decode code e.1 = .ok e.2 := by decide +kernel
theorem d_law_9 : ∀ e ∈ c_law_9, decode code e.1 = .ok e.2 := by decide +kernel
theorem d_law_10 : ∀ e ∈ c_law_10, decode code e.1 = .ok e.2 := by decide +kernel
theorem d_law_11 : ∀ e ∈ c_law_11, decode code e.1 = .ok e.2 := by decide +kernel
end
section
theorem mm_look_mem : ∀ (L : List (Nat × Instr × Nat)) (pc : Nat) (x : Instr × Nat), mm_look L pc = some x → (pc, x) ∈ L
  | [], pc, x, h => by cases h
  | (q, i) :: r, pc, x, h => by
    unfold mm_look at h
    cases hb : Nat.beq q pc with
    | true =>
      rw [hb] at h
      have e := Nat.eq_of_beq_eq_true hb
      subst e
      cases h
      exact List.mem_cons_self
    | false =>
      rw [hb] at h
      exact List.mem_cons_of_mem _ (mm_look_mem r pc x h)
theorem mm_dec {b : ByteArray} {L : List (Nat × Instr × Nat)} (hd : ∀ e ∈ L, decode b e.1 = .ok e.2) {pc : Nat} {x : Instr × Nat} (h : mm_look L pc = some x) : decode b pc = .ok x := hd (pc, x) (mm_look_mem L pc x h)
theorem mm_condor {α : Type} {b : Bool} {x y z : α} (h : cond b x y = z) : x = z ∨ y = z := by
  cases b with
  | true => exact Or.inl h
  | false => exact Or.inr h
theorem tb_codL {pc : Nat} {x : Instr × Nat} (h : t_codL pc = some x) : decode code pc = .ok x := by
  unfold t_codL at h
  rcases mm_condor h with h | h
  rotate_left
  · exact mm_dec d_law_0 h
  rcases mm_condor h with h | h
  rotate_left
  · exact mm_dec d_law_1 h
  rcases mm_condor h with h | h
  rotate_left
  · exact mm_dec d_law_2 h
  rcases mm_condor h with h | h
  rotate_left
  · exact mm_dec d_law_3 h
  rcases mm_condor h with h | h
  rotate_left
  · exact mm_dec d_law_4 h
  rcases mm_condor h with h | h
  rotate_left
  · exact mm_dec d_law_5 h
  rcases mm_condor h with h | h
  rotate_left
  · exact mm_dec d_law_6 h
  rcases mm_condor h with h | h
  rotate_left
  · exact mm_dec d_law_7 h
  rcases mm_condor h with h | h
  rotate_left
  · exact mm_dec d_law_8 h
  rcases mm_condor h with h | h
  rotate_left
  · exact mm_dec d_law_9 h
  rcases mm_condor h with h | h
  rotate_left
  · exact mm_dec d_law_10 h
  exact mm_dec d_law_11 h
theorem tb_tabs : ∀ q ∈ ([(c_0, prog_1_method_1_code), (c_1, prog_1_method_2_code), (c_2, prog_1_method_3_code), (c_3, prog_1_method_4_code), (c_4, prog_1_method_5_code), (c_5, prog_1_method_6_code), (c_6, prog_1_method_7_code), (c_7, prog_1_method_8_code), (c_8, prog_1_method_9_code), (c_9, prog_1_method_10_code), (c_10, prog_1_method_11_code), (c_11, prog_1_method_12_code), (c_12, prog_1_method_13_code), (c_13, prog_1_method_14_code), (c_14, prog_1_method_15_code), (c_15, prog_1_method_16_code), (c_16, prog_1_method_17_code), (c_17, prog_1_method_18_code), (c_18, prog_1_method_19_code), (c_19, prog_1_method_20_code), (c_20, prog_1_method_21_code), (c_21, prog_1_method_22_code), (c_22, prog_1_method_23_code), (c_23, prog_1_method_24_code), (c_24, prog_1_method_25_code), (c_25, prog_1_method_26_code), (c_26, prog_1_method_27_code), (c_27, prog_1_method_28_code), (c_28, prog_1_method_29_code), (c_29, prog_1_method_30_code), (c_30, prog_1_method_31_code), (c_31, prog_1_method_32_code), (c_32, prog_1_method_33_code), (c_33, prog_1_method_34_code), (c_34, prog_1_method_35_code), (c_35, prog_1_method_36_code), (c_36, prog_1_method_37_code), (c_37, prog_1_method_38_code), (c_38, prog_1_method_39_code), (c_39, prog_3_method_1_code), (c_40, prog_3_method_2_code), (c_41, prog_3_method_3_code), (c_42, prog_3_method_4_code), (c_43, prog_3_method_5_code), (c_44, prog_3_method_6_code), (c_45, prog_3_method_7_code), (c_46, prog_2_method_1_code), (c_47, prog_2_method_2_code), (c_48, prog_2_method_3_code), (c_49, prog_2_method_4_code), (c_50, prog_4_method_1_code), (c_51, prog_4_method_2_code), (c_52, prog_4_method_3_code), (c_53, prog_6_method_1_code), (c_54, prog_6_method_2_code), (c_55, prog_6_method_3_code), (c_56, prog_6_method_4_code), (c_57, prog_6_method_5_code), (c_58, prog_6_method_6_code), (c_59, prog_6_method_7_code), (c_60, prog_6_method_8_code), (c_61, prog_6_method_9_code), (c_62, prog_6_method_10_code), (c_63, prog_6_method_11_code), (c_64, prog_6_method_12_code), (c_65, prog_6_method_13_code), (c_66, prog_6_method_14_code), (c_67, prog_6_method_15_code), (c_68, prog_6_method_16_code), (c_69, prog_6_method_17_code), (c_70, prog_6_method_18_code), (c_71, prog_6_method_19_code), (c_72, prog_6_method_20_code), (c_73, prog_6_method_21_code), (c_74, prog_6_method_22_code), (c_75, prog_6_method_23_code), (c_76, prog_6_method_24_code), (c_77, prog_6_method_25_code), (c_78, prog_6_method_26_code), (c_79, prog_6_method_27_code), (c_80, prog_6_method_28_code), (c_81, prog_6_method_29_code), (c_82, prog_6_method_30_code), (c_83, prog_6_method_31_code), (c_84, prog_6_method_32_code), (c_85, prog_6_method_33_code), (c_86, prog_6_method_34_code), (c_87, prog_6_method_35_code), (c_88, prog_6_method_36_code), (c_89, prog_6_method_37_code), (c_90, prog_6_method_38_code), (c_91, prog_6_method_39_code), (c_92, prog_6_method_40_code), (c_93, prog_6_method_41_code), (c_94, prog_6_method_42_code), (c_95, method_3_code), (c_96, method_4_code), (c_97, method_5_code), (c_98, method_6_code), (c_99, method_7_code), (c_100, method_8_code), (c_101, method_9_code), (c_102, method_10_code), (c_103, method_11_code), (c_104, method_12_code), (c_105, method_13_code), (c_106, method_14_code), (c_107, method_15_code), (c_108, method_16_code), (c_109, method_17_code)] : List (List (Nat × Instr × Nat) × ByteArray)), ∀ e ∈ q.1, decode q.2 e.1 = .ok e.2 := List.forall_mem_cons.mpr ⟨d_0, List.forall_mem_cons.mpr ⟨d_1, List.forall_mem_cons.mpr ⟨d_2, List.forall_mem_cons.mpr ⟨d_3, List.forall_mem_cons.mpr ⟨d_4, List.forall_mem_cons.mpr ⟨d_5, List.forall_mem_cons.mpr ⟨d_6, List.forall_mem_cons.mpr ⟨d_7, List.forall_mem_cons.mpr ⟨d_8, List.forall_mem_cons.mpr ⟨d_9, List.forall_mem_cons.mpr ⟨d_10, List.forall_mem_cons.mpr ⟨d_11, List.forall_mem_cons.mpr ⟨d_12, List.forall_mem_cons.mpr ⟨d_13, List.forall_mem_cons.mpr ⟨d_14, List.forall_mem_cons.mpr ⟨d_15, List.forall_mem_cons.mpr ⟨d_16, List.forall_mem_cons.mpr ⟨d_17, List.forall_mem_cons.mpr ⟨d_18, List.forall_mem_cons.mpr ⟨d_19, List.forall_mem_cons.mpr ⟨d_20, List.forall_mem_cons.mpr ⟨d_21, List.forall_mem_cons.mpr ⟨d_22, List.forall_mem_cons.mpr ⟨d_23, List.forall_mem_cons.mpr ⟨d_24, List.forall_mem_cons.mpr ⟨d_25, List.forall_mem_cons.mpr ⟨d_26, List.forall_mem_cons.mpr ⟨d_27, List.forall_mem_cons.mpr ⟨d_28, List.forall_mem_cons.mpr ⟨d_29, List.forall_mem_cons.mpr ⟨d_30, List.forall_mem_cons.mpr ⟨d_31, List.forall_mem_cons.mpr ⟨d_32, List.forall_mem_cons.mpr ⟨d_33, List.forall_mem_cons.mpr ⟨d_34, List.forall_mem_cons.mpr ⟨d_35, List.forall_mem_cons.mpr ⟨d_36, List.forall_mem_cons.mpr ⟨d_37, List.forall_mem_cons.mpr ⟨d_38, List.forall_mem_cons.mpr ⟨d_39, List.forall_mem_cons.mpr ⟨d_40, List.forall_mem_cons.mpr ⟨d_41, List.forall_mem_cons.mpr ⟨d_42, List.forall_mem_cons.mpr ⟨d_43, List.forall_mem_cons.mpr ⟨d_44, List.forall_mem_cons.mpr ⟨d_45, List.forall_mem_cons.mpr ⟨d_46, List.forall_mem_cons.mpr ⟨d_47, List.forall_mem_cons.mpr ⟨d_48, List.forall_mem_cons.mpr ⟨d_49, List.forall_mem_cons.mpr ⟨d_50, List.forall_mem_cons.mpr ⟨d_51, List.forall_mem_cons.mpr ⟨d_52, List.forall_mem_cons.mpr ⟨d_53, List.forall_mem_cons.mpr ⟨d_54, List.forall_mem_cons.mpr ⟨d_55, List.forall_mem_cons.mpr ⟨d_56, List.forall_mem_cons.mpr ⟨d_57, List.forall_mem_cons.mpr ⟨d_58, List.forall_mem_cons.mpr ⟨d_59, List.forall_mem_cons.mpr ⟨d_60, List.forall_mem_cons.mpr ⟨d_61, List.forall_mem_cons.mpr ⟨d_62, List.forall_mem_cons.mpr ⟨d_63, List.forall_mem_cons.mpr ⟨d_64, List.forall_mem_cons.mpr ⟨d_65, List.forall_mem_cons.mpr ⟨d_66, List.forall_mem_cons.mpr ⟨d_67, List.forall_mem_cons.mpr ⟨d_68, List.forall_mem_cons.mpr ⟨d_69, List.forall_mem_cons.mpr ⟨d_70, List.forall_mem_cons.mpr ⟨d_71, List.forall_mem_cons.mpr ⟨d_72, List.forall_mem_cons.mpr ⟨d_73, List.forall_mem_cons.mpr ⟨d_74, List.forall_mem_cons.mpr ⟨d_75, List.forall_mem_cons.mpr ⟨d_76, List.forall_mem_cons.mpr ⟨d_77, List.forall_mem_cons.mpr ⟨d_78, List.forall_mem_cons.mpr ⟨d_79, List.forall_mem_cons.mpr ⟨d_80, List.forall_mem_cons.mpr ⟨d_81, List.forall_mem_cons.mpr ⟨d_82, List.forall_mem_cons.mpr ⟨d_83, List.forall_mem_cons.mpr ⟨d_84, List.forall_mem_cons.mpr ⟨d_85, List.forall_mem_cons.mpr ⟨d_86, List.forall_mem_cons.mpr ⟨d_87, List.forall_mem_cons.mpr ⟨d_88, List.forall_mem_cons.mpr ⟨d_89, List.forall_mem_cons.mpr ⟨d_90, List.forall_mem_cons.mpr ⟨d_91, List.forall_mem_cons.mpr ⟨d_92, List.forall_mem_cons.mpr ⟨d_93, List.forall_mem_cons.mpr ⟨d_94, List.forall_mem_cons.mpr ⟨d_95, List.forall_mem_cons.mpr ⟨d_96, List.forall_mem_cons.mpr ⟨d_97, List.forall_mem_cons.mpr ⟨d_98, List.forall_mem_cons.mpr ⟨d_99, List.forall_mem_cons.mpr ⟨d_100, List.forall_mem_cons.mpr ⟨d_101, List.forall_mem_cons.mpr ⟨d_102, List.forall_mem_cons.mpr ⟨d_103, List.forall_mem_cons.mpr ⟨d_104, List.forall_mem_cons.mpr ⟨d_105, List.forall_mem_cons.mpr ⟨d_106, List.forall_mem_cons.mpr ⟨d_107, List.forall_mem_cons.mpr ⟨d_108, List.forall_mem_cons.mpr ⟨d_109, fun _ h => absurd h List.not_mem_nil⟩⟩⟩⟩⟩⟩⟩⟩⟩⟩⟩⟩⟩⟩⟩⟩⟩⟩⟩⟩⟩⟩⟩⟩⟩⟩⟩⟩⟩⟩⟩⟩⟩⟩⟩⟩⟩⟩⟩⟩⟩⟩⟩⟩⟩⟩⟩⟩⟩⟩⟩⟩⟩⟩⟩⟩⟩⟩⟩⟩⟩⟩⟩⟩⟩⟩⟩⟩⟩⟩⟩⟩⟩⟩⟩⟩⟩⟩⟩⟩⟩⟩⟩⟩⟩⟩⟩⟩⟩⟩⟩⟩⟩⟩⟩⟩⟩⟩⟩⟩⟩⟩⟩⟩⟩⟩⟩⟩⟩⟩
theorem tb_zip : t_tabs.zip t_bL = [(c_0, prog_1_method_1_code), (c_1, prog_1_method_2_code), (c_2, prog_1_method_3_code), (c_3, prog_1_method_4_code), (c_4, prog_1_method_5_code), (c_5, prog_1_method_6_code), (c_6, prog_1_method_7_code), (c_7, prog_1_method_8_code), (c_8, prog_1_method_9_code), (c_9, prog_1_method_10_code), (c_10, prog_1_method_11_code), (c_11, prog_1_method_12_code), (c_12, prog_1_method_13_code), (c_13, prog_1_method_14_code), (c_14, prog_1_method_15_code), (c_15, prog_1_method_16_code), (c_16, prog_1_method_17_code), (c_17, prog_1_method_18_code), (c_18, prog_1_method_19_code), (c_19, prog_1_method_20_code), (c_20, prog_1_method_21_code), (c_21, prog_1_method_22_code), (c_22, prog_1_method_23_code), (c_23, prog_1_method_24_code), (c_24, prog_1_method_25_code), (c_25, prog_1_method_26_code), (c_26, prog_1_method_27_code), (c_27, prog_1_method_28_code), (c_28, prog_1_method_29_code), (c_29, prog_1_method_30_code), (c_30, prog_1_method_31_code), (c_31, prog_1_method_32_code), (c_32, prog_1_method_33_code), (c_33, prog_1_method_34_code), (c_34, prog_1_method_35_code), (c_35, prog_1_method_36_code), (c_36, prog_1_method_37_code), (c_37, prog_1_method_38_code), (c_38, prog_1_method_39_code), (c_39, prog_3_method_1_code), (c_40, prog_3_method_2_code), (c_41, prog_3_method_3_code), (c_42, prog_3_method_4_code), (c_43, prog_3_method_5_code), (c_44, prog_3_method_6_code), (c_45, prog_3_method_7_code), (c_46, prog_2_method_1_code), (c_47, prog_2_method_2_code), (c_48, prog_2_method_3_code), (c_49, prog_2_method_4_code), (c_50, prog_4_method_1_code), (c_51, prog_4_method_2_code), (c_52, prog_4_method_3_code), (c_53, prog_6_method_1_code), (c_54, prog_6_method_2_code), (c_55, prog_6_method_3_code), (c_56, prog_6_method_4_code), (c_57, prog_6_method_5_code), (c_58, prog_6_method_6_code), (c_59, prog_6_method_7_code), (c_60, prog_6_method_8_code), (c_61, prog_6_method_9_code), (c_62, prog_6_method_10_code), (c_63, prog_6_method_11_code), (c_64, prog_6_method_12_code), (c_65, prog_6_method_13_code), (c_66, prog_6_method_14_code), (c_67, prog_6_method_15_code), (c_68, prog_6_method_16_code), (c_69, prog_6_method_17_code), (c_70, prog_6_method_18_code), (c_71, prog_6_method_19_code), (c_72, prog_6_method_20_code), (c_73, prog_6_method_21_code), (c_74, prog_6_method_22_code), (c_75, prog_6_method_23_code), (c_76, prog_6_method_24_code), (c_77, prog_6_method_25_code), (c_78, prog_6_method_26_code), (c_79, prog_6_method_27_code), (c_80, prog_6_method_28_code), (c_81, prog_6_method_29_code), (c_82, prog_6_method_30_code), (c_83, prog_6_method_31_code), (c_84, prog_6_method_32_code), (c_85, prog_6_method_33_code), (c_86, prog_6_method_34_code), (c_87, prog_6_method_35_code), (c_88, prog_6_method_36_code), (c_89, prog_6_method_37_code), (c_90, prog_6_method_38_code), (c_91, prog_6_method_39_code), (c_92, prog_6_method_40_code), (c_93, prog_6_method_41_code), (c_94, prog_6_method_42_code), (c_95, method_3_code), (c_96, method_4_code), (c_97, method_5_code), (c_98, method_6_code), (c_99, method_7_code), (c_100, method_8_code), (c_101, method_9_code), (c_102, method_10_code), (c_103, method_11_code), (c_104, method_12_code), (c_105, method_13_code), (c_106, method_14_code), (c_107, method_15_code), (c_108, method_16_code), (c_109, method_17_code)] := rfl
theorem tb_cod0 {k pc : Nat} {x : Instr × Nat} (h : t_cod k pc = some x) : decode (t_b k) pc = .ok x := by
  unfold t_cod at h
  cases hk : Nat.beq k 110 with
  | true =>
    rw [hk] at h
    have e := Nat.eq_of_beq_eq_true hk
    subst e
    exact tb_codL h
  | false =>
    rw [hk] at h
    dsimp only [cond_false] at h
    cases hc : t_tabs[k]? with
    | none => rw [hc] at h; cases h
    | some c =>
      rw [hc] at h
      have hlt : k < t_tabs.length := (List.getElem?_eq_some_iff.mp hc).1
      have hlt2 : k < t_bL.length := hlt
      have hb : t_bL[k]? = some (t_b k) := by
        rw [List.getElem?_eq_getElem hlt2]
        unfold t_b
        rw [List.getD_eq_getElem?_getD, List.getElem?_eq_getElem hlt2]
        rfl
      have hz : (t_tabs.zip t_bL)[k]? = some (c, t_b k) := List.getElem?_zip_eq_some.mpr ⟨hc, hb⟩
      rw [tb_zip] at hz
      have h5 := tb_tabs (c, t_b k) (List.mem_of_getElem? hz)
      dsimp only at h5
      exact mm_dec h5 h
theorem tb_cod {k pc : Nat} {i : Instr} {len : Nat} (h : t_cod k pc = some (i, len)) : decode (t_b k) pc = .ok (i, len) := tb_cod0 h
end
section
/-! FACTS of the tables -/
def mm_ow : Cond → Bool
  | .declares _ => true
  | .castable _ _ => true
  | .arrayOver (.object _) => true
  | .stringRef _ _ _ => true
  | w => goodWord w
def tb_Ts : List Cond := lw_tbl.filter mm_ow
theorem tb_inL {i : Nat} {w : Cond} (h : lw_tbl[i]? = some w) (hw : mm_ow w = true) : w ∈ tb_Ts := List.mem_filter.mpr ⟨List.mem_of_getElem? h, hw⟩
theorem tb_in {i : Nat} {w : Cond} (h : tables_1[i]? = some w) (hw : mm_ow w = true) : w ∈ tb_Ts := List.mem_filter.mpr ⟨List.mem_append_right _ (List.mem_of_getElem? h), hw⟩
theorem mm_move {w : Cond} (hw : mm_ow w = true) {A A' : Array Value} {s U : State} (hW : s.WarmedH U.vm) (h : w.before A s = true) : w.before A' U = true := by
  unfold mm_ow at hw
  split at hw
  · exact va_tabs rfl (rfl : (s.setVm U.vm).vm = U.vm) (by rw [Cond.declares_setVm hW.alike]; exact h)
  · exact va_tabs rfl (rfl : (s.setVm U.vm).vm = U.vm) (by rw [Cond.castable_setVm hW.alike]; exact h)
  · exact (va_AO.of h |>.moved hW.alike).use
  · have h1 := Cond.stringRef_warmed hW h
    simp only [Cond.before, Cond.holds, Cond.value, State.names, State.poolOf?, State.resolvedAt?] at h1 ⊢
    exact h1
  · exact word_at hW (good_of_word hw) h
def tb_nc : List (String × String) := [("java/lang/IllegalArgumentException", "java/lang/IllegalStateException"), ("java/lang/IllegalArgumentException", "java/lang/IndexOutOfBoundsException"), ("java/lang/IllegalArgumentException", "java/lang/UnsupportedOperationException"), ("java/lang/IllegalStateException", "java/lang/IllegalArgumentException"), ("java/lang/IllegalStateException", "java/lang/IndexOutOfBoundsException"), ("java/lang/IllegalStateException", "java/lang/UnsupportedOperationException"), ("java/lang/IndexOutOfBoundsException", "java/lang/IllegalArgumentException"), ("java/lang/IndexOutOfBoundsException", "java/lang/IllegalStateException"), ("java/lang/IndexOutOfBoundsException", "java/lang/UnsupportedOperationException"), ("java/lang/UnsupportedOperationException", "java/lang/IllegalArgumentException"), ("java/lang/UnsupportedOperationException", "java/lang/IllegalStateException"), ("java/lang/UnsupportedOperationException", "java/lang/IndexOutOfBoundsException")]
def mm_Wd (U : State) : Prop := (∀ w ∈ tb_Ts, ∀ A : Array Value, w.before A U = true) ∧ ∀ q ∈ tb_nc, va_Nc q.1 q.2 U
theorem mm_Wd.moved {s U : State} (hW : s.WarmedH U.vm) (h : mm_Wd s) : mm_Wd U := ⟨fun w hw _ => mm_move (List.mem_filter.mp hw).2 hW (h.1 w hw #[]), fun q hq => (h.2 q hq).moved hW.alike⟩
theorem tb_on1 : ∀ k, k < 111 → (t_y k).cls = t_on (t_o k) := by decide +kernel
theorem tb_on (k : Nat) : (t_y k).cls = t_on (t_o k) := by
  by_cases hk : k < 111
  · exact tb_on1 k hk
  · unfold t_y t_o
    rw [List.getD_eq_getElem?_getD, List.getD_eq_getElem?_getD, List.getElem?_eq_none (by show 110 ≤ k; omega), List.getElem?_eq_none (by show 111 ≤ k; omega)]
    rfl
theorem mm_fl_mem : ∀ (L : List (Nat × Nat × Nat × Nat × Nat)) (o i c j : Nat), mm_fl L o i = some (c, j) → ∃ p, (o, i, c, j, p) ∈ L
  | [], o, i, c, j, h => by cases h
  | (o1, i1, c1, j1, p1) :: r, o, i, c, j, h => by
    unfold mm_fl at h
    cases hb : (Nat.beq o1 o && Nat.beq i1 i) with
    | true =>
      rw [hb] at h
      rw [Bool.and_eq_true] at hb
      have e1 := Nat.eq_of_beq_eq_true hb.1
      have e2 := Nat.eq_of_beq_eq_true hb.2
      subst e1; subst e2
      cases h
      exact ⟨p1, List.mem_cons_self⟩
    | false =>
      rw [hb] at h
      obtain ⟨p, hp⟩ := mm_fl_mem r o i c j h
      exact ⟨p, List.mem_cons_of_mem _ hp⟩
def mm_fck (e : Nat × Nat × Nat × Nat × Nat) : Bool := match t_cl[e.2.2.1]? with
  | some q => decide (e.2.2.2.1 < q.2.2) && decide (tables_1[e.2.2.2.2]? = some (Cond.fieldLink (t_on e.1) e.2.1 (q.2.1 e.2.2.2.1).1 (q.2.1 e.2.2.2.1).2.1 (q.2.1 e.2.2.2.1).2.2.1))
  | none => false
theorem tb_fck : ∀ e ∈ t_fldL, mm_fck e = true := by decide +kernel
theorem tb_fld {o idx ci j : Nat} (h : t_fld o idx = some (ci, j)) : ∃ C T N, t_cl[ci]? = some (C, T, N) ∧ j < N ∧ Cond.fieldLink (t_on o) idx (T j).1 (T j).2.1 (T j).2.2.1 ∈ tb_Ts := by
  obtain ⟨p, hp⟩ := mm_fl_mem _ _ _ _ _ h
  have h1 := tb_fck _ hp
  unfold mm_fck at h1
  dsimp only at h1
  cases hc : t_cl[ci]? with
  | none => rw [hc] at h1; cases h1
  | some q =>
    rw [hc] at h1
    obtain ⟨C, T, N⟩ := q
    simp only [Bool.and_eq_true, decide_eq_true_eq] at h1
    exact ⟨C, T, N, rfl, h1.1, tb_in h1.2 rfl⟩
theorem tb_l0 : ∀ k, k < 10 → tables_1[([61, 63, 65, 67, 69, 71, 73, 75, 77, 79] : List Nat).getD k 0]? = some (u_lay "TrusteeDesk" F_0 k) ∧ mm_ow (u_lay "TrusteeDesk" F_0 k) = true := by decide +kernel
theorem tb_w0 : ∀ w ∈ u_ws "TrusteeDesk" F_0 10, w ∈ tb_Ts := by
  intro w hw
  obtain ⟨k, hk, rfl⟩ := List.mem_map.mp hw
  obtain ⟨h1, h2⟩ := tb_l0 k (List.mem_range.mp hk)
  exact tb_in h1 h2
theorem tb_t0 : ∀ k, k < 10 → parseFieldDescriptor (F_0 k).2.2.1 = some (t_ct 0 k) := by decide +kernel
theorem tb_n0 : ∀ a, a < 10 → ∀ b, b < 10 → a ≠ b → (F_0 a).2.1 ≠ (F_0 b).2.1 := by decide +kernel
theorem tb_d0 : ∀ j, j < 10 → defaultValue (t_ct 0 j) = vp_V (t_df 0) j := by decide +kernel
theorem tb_f0 : ∀ j, j < 10 → t_fin 0 j = (F_0 j).2.2.2 := by decide +kernel
theorem tb_g0 : ∀ j, j < 10 → (F_0 j).1 = "TrusteeDesk" := by decide +kernel
theorem tb_l1 : ∀ k, k < 9 → tables_1[([250, 252, 254, 256, 258, 260, 262, 264, 266] : List Nat).getD k 0]? = some (u_lay "TrusteeDesk$Claim" F_1 k) ∧ mm_ow (u_lay "TrusteeDesk$Claim" F_1 k) = true := by decide +kernel
theorem tb_w1 : ∀ w ∈ u_ws "TrusteeDesk$Claim" F_1 9, w ∈ tb_Ts := by
  intro w hw
  obtain ⟨k, hk, rfl⟩ := List.mem_map.mp hw
  obtain ⟨h1, h2⟩ := tb_l1 k (List.mem_range.mp hk)
  exact tb_in h1 h2
theorem tb_t1 : ∀ k, k < 9 → parseFieldDescriptor (F_1 k).2.2.1 = some (t_ct 1 k) := by decide +kernel
theorem tb_n1 : ∀ a, a < 9 → ∀ b, b < 9 → a ≠ b → (F_1 a).2.1 ≠ (F_1 b).2.1 := by decide +kernel
theorem tb_d1 : ∀ j, j < 9 → defaultValue (t_ct 1 j) = vp_V (t_df 1) j := by decide +kernel
theorem tb_f1 : ∀ j, j < 9 → t_fin 1 j = (F_1 j).2.2.2 := by decide +kernel
theorem tb_g1 : ∀ j, j < 9 → (F_1 j).1 = "TrusteeDesk$Claim" := by decide +kernel
theorem tb_l2 : ∀ k, k < 4 → tables_1[([323, 325, 327, 329] : List Nat).getD k 0]? = some (u_lay "TrusteeDesk$Asset" F_2 k) ∧ mm_ow (u_lay "TrusteeDesk$Asset" F_2 k) = true := by decide +kernel
theorem tb_w2 : ∀ w ∈ u_ws "TrusteeDesk$Asset" F_2 4, w ∈ tb_Ts := by
  intro w hw
  obtain ⟨k, hk, rfl⟩ := List.mem_map.mp hw
  obtain ⟨h1, h2⟩ := tb_l2 k (List.mem_range.mp hk)
  exact tb_in h1 h2
theorem tb_t2 : ∀ k, k < 4 → parseFieldDescriptor (F_2 k).2.2.1 = some (t_ct 2 k) := by decide +kernel
theorem tb_n2 : ∀ a, a < 4 → ∀ b, b < 4 → a ≠ b → (F_2 a).2.1 ≠ (F_2 b).2.1 := by decide +kernel
theorem tb_d2 : ∀ j, j < 4 → defaultValue (t_ct 2 j) = vp_V (t_df 2) j := by decide +kernel
theorem tb_f2 : ∀ j, j < 4 → t_fin 2 j = (F_2 j).2.2.2 := by decide +kernel
theorem tb_g2 : ∀ j, j < 4 → (F_2 j).1 = "TrusteeDesk$Asset" := by decide +kernel
theorem tb_l3 : ∀ k, k < 4 → tables_1[([40, 42, 44, 46] : List Nat).getD k 0]? = some (u_lay "TrusteeDesk$Journal" F_3 k) ∧ mm_ow (u_lay "TrusteeDesk$Journal" F_3 k) = true := by decide +kernel
theorem tb_w3 : ∀ w ∈ u_ws "TrusteeDesk$Journal" F_3 4, w ∈ tb_Ts := by
  intro w hw
  obtain ⟨k, hk, rfl⟩ := List.mem_map.mp hw
  obtain ⟨h1, h2⟩ := tb_l3 k (List.mem_range.mp hk)
  exact tb_in h1 h2
theorem tb_t3 : ∀ k, k < 4 → parseFieldDescriptor (F_3 k).2.2.1 = some (t_ct 3 k) := by decide +kernel
theorem tb_n3 : ∀ a, a < 4 → ∀ b, b < 4 → a ≠ b → (F_3 a).2.1 ≠ (F_3 b).2.1 := by decide +kernel
theorem tb_d3 : ∀ j, j < 4 → defaultValue (t_ct 3 j) = vp_V (t_df 3) j := by decide +kernel
theorem tb_f3 : ∀ j, j < 4 → t_fin 3 j = (F_3 j).2.2.2 := by decide +kernel
theorem tb_g3 : ∀ j, j < 4 → (F_3 j).1 = "TrusteeDesk$Journal" := by decide +kernel
theorem tb_l4 : ∀ k, k < 26 → tables_1[([567, 569, 571, 573, 575, 577, 579, 581, 583, 585, 587, 589, 591, 593, 595, 597, 599, 601, 603, 605, 607, 609, 611, 613, 615, 617] : List Nat).getD k 0]? = some (u_lay "TrusteeDeskModel" F_4 k) ∧ mm_ow (u_lay "TrusteeDeskModel" F_4 k) = true := by decide +kernel
theorem tb_w4 : ∀ w ∈ u_ws "TrusteeDeskModel" F_4 26, w ∈ tb_Ts := by
  intro w hw
  obtain ⟨k, hk, rfl⟩ := List.mem_map.mp hw
  obtain ⟨h1, h2⟩ := tb_l4 k (List.mem_range.mp hk)
  exact tb_in h1 h2
theorem tb_t4 : ∀ k, k < 26 → parseFieldDescriptor (F_4 k).2.2.1 = some (t_ct 4 k) := by decide +kernel
theorem tb_n4 : ∀ a, a < 26 → ∀ b, b < 26 → a ≠ b → (F_4 a).2.1 ≠ (F_4 b).2.1 := by decide +kernel
theorem tb_d4 : ∀ j, j < 26 → defaultValue (t_ct 4 j) = vp_V (t_df 4) j := by decide +kernel
theorem tb_f4 : ∀ j, j < 26 → t_fin 4 j = (F_4 j).2.2.2 := by decide +kernel
theorem tb_g4 : ∀ j, j < 26 → (F_4 j).1 = "TrusteeDeskModel" := by decide +kernel
theorem tb_cl {ci : Nat} {C : String} {T : u_T} {N : Nat} (h : t_cl[ci]? = some (C, T, N)) : (∀ w ∈ u_ws C T N, w ∈ tb_Ts) ∧ (∀ k, k < N → parseFieldDescriptor (T k).2.2.1 = some (t_ct ci k)) ∧ (∀ a, a < N → ∀ b, b < N → a ≠ b → (T a).2.1 ≠ (T b).2.1) ∧ ∀ j, j < N → defaultValue (t_ct ci j) = vp_V (t_df ci) j := by
  match ci, h with
  | 0, h => cases (show some ("TrusteeDesk", F_0, 10) = some (C, T, N) from h); exact ⟨tb_w0, tb_t0, tb_n0, tb_d0⟩
  | 1, h => cases (show some ("TrusteeDesk$Claim", F_1, 9) = some (C, T, N) from h); exact ⟨tb_w1, tb_t1, tb_n1, tb_d1⟩
  | 2, h => cases (show some ("TrusteeDesk$Asset", F_2, 4) = some (C, T, N) from h); exact ⟨tb_w2, tb_t2, tb_n2, tb_d2⟩
  | 3, h => cases (show some ("TrusteeDesk$Journal", F_3, 4) = some (C, T, N) from h); exact ⟨tb_w3, tb_t3, tb_n3, tb_d3⟩
  | 4, h => cases (show some ("TrusteeDeskModel", F_4, 26) = some (C, T, N) from h); exact ⟨tb_w4, tb_t4, tb_n4, tb_d4⟩
  | 5, h => cases (show some ("java/lang/IllegalArgumentException", F_x, 0) = some (C, T, N) from h); exact ⟨fun w hw => by simp [u_ws] at hw, fun k hk => by omega, fun a ha => by omega, fun j hj => by omega⟩
  | 6, h => cases (show some ("java/lang/IllegalStateException", F_x, 0) = some (C, T, N) from h); exact ⟨fun w hw => by simp [u_ws] at hw, fun k hk => by omega, fun a ha => by omega, fun j hj => by omega⟩
  | 7, h => cases (show some ("java/lang/IndexOutOfBoundsException", F_x, 0) = some (C, T, N) from h); exact ⟨fun w hw => by simp [u_ws] at hw, fun k hk => by omega, fun a ha => by omega, fun j hj => by omega⟩
  | 8, h => cases (show some ("java/lang/UnsupportedOperationException", F_x, 0) = some (C, T, N) from h); exact ⟨fun w hw => by simp [u_ws] at hw, fun k hk => by omega, fun a ha => by omega, fun j hj => by omega⟩
  | k + 9, h => simp [t_cl] at h
theorem tb_fin {ci : Nat} {C : String} {T : u_T} {N j : Nat} (h : t_cl[ci]? = some (C, T, N)) (hj : j < N) : t_fin ci j = (T j).2.2.2 := by
  match ci, h with
  | 0, h => cases (show some ("TrusteeDesk", F_0, 10) = some (C, T, N) from h); exact tb_f0 j hj
  | 1, h => cases (show some ("TrusteeDesk$Claim", F_1, 9) = some (C, T, N) from h); exact tb_f1 j hj
  | 2, h => cases (show some ("TrusteeDesk$Asset", F_2, 4) = some (C, T, N) from h); exact tb_f2 j hj
  | 3, h => cases (show some ("TrusteeDesk$Journal", F_3, 4) = some (C, T, N) from h); exact tb_f3 j hj
  | 4, h => cases (show some ("TrusteeDeskModel", F_4, 26) = some (C, T, N) from h); exact tb_f4 j hj
  | 5, h => cases (show some ("java/lang/IllegalArgumentException", F_x, 0) = some (C, T, N) from h); omega
  | 6, h => cases (show some ("java/lang/IllegalStateException", F_x, 0) = some (C, T, N) from h); omega
  | 7, h => cases (show some ("java/lang/IndexOutOfBoundsException", F_x, 0) = some (C, T, N) from h); omega
  | 8, h => cases (show some ("java/lang/UnsupportedOperationException", F_x, 0) = some (C, T, N) from h); omega
  | k + 9, h => simp [t_cl] at h
theorem tb_ini {k ci : Nat} {C : String} {T : u_T} {N j : Nat} (h : t_cl[ci]? = some (C, T, N)) (hj : j < N) (hi : t_ini k ci = true) : (t_y k).name = "<init>" ∧ (T j).1 = t_on (t_o k) := by
  unfold t_ini at hi
  split at hi
  · cases (show some ("TrusteeDesk", F_0, 10) = some (C, T, N) from h); exact ⟨rfl, tb_g0 j hj⟩
  · cases (show some ("TrusteeDesk$Claim", F_1, 9) = some (C, T, N) from h); exact ⟨rfl, tb_g1 j hj⟩
  · cases (show some ("TrusteeDesk$Asset", F_2, 4) = some (C, T, N) from h); exact ⟨rfl, tb_g2 j hj⟩
  · cases (show some ("TrusteeDesk$Journal", F_3, 4) = some (C, T, N) from h); exact ⟨rfl, tb_g3 j hj⟩
  · cases (show some ("TrusteeDeskModel", F_4, 26) = some (C, T, N) from h); exact ⟨rfl, tb_g4 j hj⟩
  · cases hi
end
section
theorem tb_c1 : t_cl[1]? = some ("TrusteeDesk$Claim", F_1, 9) := rfl
theorem tb_c2 : t_cl[2]? = some ("TrusteeDesk$Asset", F_2, 4) := rfl
theorem tb_ci {o idx : Nat} {x : Int32} (h : t_ci o idx = some x) : Jvm.Cond.constant (t_on o) idx x ∈ tb_Ts := by cases h
theorem tb_cj {o idx : Nat} {x : Int64} (h : t_cj o idx = some x) : Jvm.Cond.constantLong (t_on o) idx x ∈ tb_Ts := by
  unfold t_cj at h
  split at h
  · cases h; exact tb_in (i := 98) (by decide +kernel) rfl
  · cases h; exact tb_in (i := 188) (by decide +kernel) rfl
  · cases h; exact tb_in (i := 401) (by decide +kernel) rfl
  · cases h; exact tb_in (i := 632) (by decide +kernel) rfl
  · cases h; exact tb_in (i := 636) (by decide +kernel) rfl
  · cases h; exact tb_in (i := 697) (by decide +kernel) rfl
  · cases h; exact tb_in (i := 762) (by decide +kernel) rfl
  · cases h; exact tb_in (i := 771) (by decide +kernel) rfl
  · cases h; exact tb_in (i := 788) (by decide +kernel) rfl
  · cases h; exact tb_in (i := 789) (by decide +kernel) rfl
  · cases h
theorem tb_obi {o idx : Nat} (h : t_obi o idx = true) : Cond.methodLink (t_on o) idx Lib.objectInit ∈ tb_Ts := by
  unfold t_obi at h
  split at h
  · exact tb_in (i := 19) (by decide +kernel) rfl
  · exact tb_in (i := 31) (by decide +kernel) rfl
  · exact tb_in (i := 230) (by decide +kernel) rfl
  · exact tb_in (i := 314) (by decide +kernel) rfl
  · exact tb_in (i := 540) (by decide +kernel) rfl
  · cases h
theorem tb_ob1 : Cond.instanceMethod Lib.objectInit ∈ tb_Ts := tb_in (i := 20) (by decide +kernel) rfl
theorem tb_ob2 : Cond.code Lib.objectInit ⟨#[0xb1]⟩ 1 none ∈ tb_Ts := tb_in (i := 21) (by decide +kernel) rfl
theorem tb_mx1 {o idx : Nat} (h : t_mx o idx = some true) : Cond.methodLink (t_on o) idx Lib.MathLoose.max_long.x ∈ tb_Ts := by
  unfold t_mx at h
  split at h
  · exact tb_in (i := 378) (by decide +kernel) rfl
  · cases h
  · exact tb_in (i := 402) (by decide +kernel) rfl
  · cases h
theorem tb_mn1 {o idx : Nat} (h : t_mx o idx = some false) : Cond.methodLink (t_on o) idx Lib.MathLoose.min_long.x ∈ tb_Ts := by
  unfold t_mx at h
  split at h
  · cases h
  · exact tb_in (i := 381) (by decide +kernel) rfl
  · cases h
  · cases h
theorem tb_mxs : Cond.static Lib.MathLoose.max_long.x ∈ tb_Ts := tb_in (i := 379) (by decide +kernel) rfl
theorem tb_mns : Cond.static Lib.MathLoose.min_long.x ∈ tb_Ts := tb_in (i := 382) (by decide +kernel) rfl
theorem tb_mxc : Cond.code Lib.MathLoose.max_long.x Lib.MathLoose.max_long.code 4 (some .long) ∈ tb_Ts := tb_in (i := 380) (by decide +kernel) rfl
theorem tb_mnc : Cond.code Lib.MathLoose.min_long.x Lib.MathLoose.min_long.code 4 (some .long) ∈ tb_Ts := tb_in (i := 383) (by decide +kernel) rfl
theorem tb_mxi : Cond.initialized "java/lang/Math" ∈ tb_Ts := tb_in (i := 13) (by decide +kernel) rfl
theorem tb_cls {o idx ci : Nat} (h : t_cls o idx = some ci) : ∃ C T, t_cl[ci]? = some (C, T, t_N ci) ∧ Cond.classLink (t_on o) idx C ∈ tb_Ts ∧ Cond.instantiable C (t_N ci) ∈ tb_Ts ∧ Cond.initialized C ∈ tb_Ts := by
  unfold t_cls at h
  split at h
  · cases h; exact ⟨"TrusteeDesk", F_0, rfl, tb_in (i := 14) (by decide +kernel) rfl, tb_in (i := 15) (by decide +kernel) rfl, tb_in (i := 1) (by decide +kernel) rfl⟩
  · cases h; exact ⟨"TrusteeDesk$Claim", F_1, rfl, tb_in (i := 22) (by decide +kernel) rfl, tb_in (i := 226) (by decide +kernel) rfl, tb_in (i := 10) (by decide +kernel) rfl⟩
  · cases h; exact ⟨"TrusteeDesk$Asset", F_2, rfl, tb_in (i := 24) (by decide +kernel) rfl, tb_in (i := 310) (by decide +kernel) rfl, tb_in (i := 12) (by decide +kernel) rfl⟩
  · cases h; exact ⟨"TrusteeDesk$Journal", F_3, rfl, tb_in (i := 26) (by decide +kernel) rfl, tb_in (i := 27) (by decide +kernel) rfl, tb_in (i := 2) (by decide +kernel) rfl⟩
  · cases h; exact ⟨"TrusteeDeskModel", F_4, rfl, tb_in (i := 535) (by decide +kernel) rfl, tb_in (i := 536) (by decide +kernel) rfl, tb_in (i := 3) (by decide +kernel) rfl⟩
  · cases h
theorem tb_at {ty : ArrayType} {t : Nat} (h : t_at ty = some t) : t < 3 ∧ newarray.typeOf ty = mm_ty t ∧ Cond.arrayClass (mm_ty t) ∈ tb_Ts := by
  unfold t_at at h
  split at h
  · cases h; exact ⟨by omega, rfl, tb_in (i := 49) (by decide +kernel) rfl⟩
  · cases h; exact ⟨by omega, rfl, tb_in (i := 50) (by decide +kernel) rfl⟩
  · cases h; exact ⟨by omega, rfl, tb_in (i := 620) (by decide +kernel) rfl⟩
  · cases h
theorem tb_ary {o idx t : Nat} (h : t_ary o idx = some t) : ∃ C, t < 5 ∧ mm_ty t = .object C ∧ Cond.classLink (t_on o) idx C ∈ tb_Ts ∧ Cond.arrayOver (.object C) ∈ tb_Ts := by
  unfold t_ary at h
  split at h
  · cases h; exact ⟨"TrusteeDesk$Claim", by omega, rfl, tb_in (i := 22) (by decide +kernel) rfl, tb_in (i := 23) (by decide +kernel) rfl⟩
  · cases h; exact ⟨"TrusteeDesk$Asset", by omega, rfl, tb_in (i := 24) (by decide +kernel) rfl, tb_in (i := 25) (by decide +kernel) rfl⟩
  · cases h; exact ⟨"TrusteeDesk$Claim", by omega, rfl, tb_in (i := 315) (by decide +kernel) rfl, tb_in (i := 23) (by decide +kernel) rfl⟩
  · cases h
def t_ip : List Nat := [17, 110, 274, 306, 336, 358, 411, 419, 428, 436, 466, 473, 480, 511, 519, 83, 100, 526, 208, 114, 186, 279, 341, 394, 442, 447, 456, 460, 372, 386, 405, 486, 490, 498, 501, 505, 88, 92, 96, 228, 389, 298, 375, 397, 450, 493, 312, 351, 346, 362, 29, 367, 530, 538, 622, 634, 643, 659, 630, 675, 679, 663, 687, 647, 695, 691, 728, 736, 700, 683, 626, 638, 650, 654, 671, 666, 703, 707, 711, 720, 724, 715, 732, 739, 743, 752, 765, 760, 756, 747, 768, 773, 777, 781, 785, 104, 270, 303, 333, 355, 408, 416, 425, 433, 463, 470, 477, 508, 516, 523]
def t_sp : List Nat := [0, 151, 315, 347, 377, 399, 452, 460, 469, 477, 507, 514, 521, 552, 560, 124, 141, 567, 4, 0, 0, 5, 6, 9, 11, 12, 13, 14, 7, 8, 10, 15, 16, 17, 0, 18, 0, 1, 2, 0, 430, 339, 416, 438, 491, 534, 0, 392, 387, 403, 0, 408, 571, 0, 663, 0, 19, 21, 0, 24, 25, 22, 27, 20, 29, 28, 33, 35, 30, 26, 667, 679, 691, 695, 23, 707, 744, 748, 752, 31, 32, 756, 34, 780, 784, 36, 39, 38, 37, 788, 809, 814, 818, 822, 826, 0, 0, 0, 0, 0, 0, 0, 0, 0, 0, 0, 0, 0, 0, 0]
def t_np : List Nat := [1, 10, 12, 2, 3, 0]
def mm_mck (e : Nat × Nat × Nat × Nat × Nat × Nat) : Bool :=
  decide (tables_1[e.2.2.2.2.2]? = some (Cond.methodLink (t_on e.1) e.2.1 (t_y e.2.2.1))) && (decide ((parseMethodDescriptor (t_y e.2.2.1).desc).map (fun d => d.parameters.length) = some e.2.2.2.1) && (decide ((t_y e.2.2.1).cls ≠ "java/lang/invoke/MethodHandle" ∧ (t_y e.2.2.1).cls ≠ "java/lang/invoke/VarHandle") && (plainFor (t_y e.2.2.1) && (Nat.ble (t_nl e.2.2.1) 13 &&
    (match e.2.2.2.2.1 with
    | 0 => decide (tables_1[t_ip.getD e.2.2.1 0]? = some (Cond.static (t_y e.2.2.1))) && decide (tables_1[t_np.getD (t_o e.2.2.1) 0]? = some (Cond.initialized (t_y e.2.2.1).cls))
    | 1 => decide (tables_1[t_ip.getD e.2.2.1 0]? = some (Cond.instanceMethod (t_y e.2.2.1))) && (decide (lw_tbl[t_sp.getD e.2.2.1 0]? = some (Cond.selects (t_y e.2.2.1).cls (t_y e.2.2.1) (t_y e.2.2.1))) && decide ((t_cl[t_rc e.2.2.1]?).map (fun q => q.1) = some (t_y e.2.2.1).cls))
    | _ => decide (tables_1[t_ip.getD e.2.2.1 0]? = some (Cond.instanceMethod (t_y e.2.2.1))) && (decide ((t_y e.2.2.1).name = "<init>") && ((t_hh e.2.2.1).isEmpty && (t_rt e.2.2.1).isNone)))))))
theorem tb_mck : ∀ e ∈ t_mthL, mm_mck e = true := by decide +kernel
set_option maxRecDepth 20000 in
theorem tb_cw0 : mm_cw (t_y 0) (t_b 0) (t_nl 0) (t_rt 0) (t_hh 0) ∈ tb_Ts := tb_in (i := 18) rfl rfl
set_option maxRecDepth 20000 in
theorem tb_cw1 : mm_cw (t_y 1) (t_b 1) (t_nl 1) (t_rt 1) (t_hh 1) ∈ tb_Ts := tb_in (i := 112) rfl rfl
set_option maxRecDepth 20000 in
theorem tb_cw2 : mm_cw (t_y 2) (t_b 2) (t_nl 2) (t_rt 2) (t_hh 2) ∈ tb_Ts := tb_in (i := 276) rfl rfl
set_option maxRecDepth 20000 in
theorem tb_cw3 : mm_cw (t_y 3) (t_b 3) (t_nl 3) (t_rt 3) (t_hh 3) ∈ tb_Ts := tb_in (i := 308) rfl rfl
set_option maxRecDepth 20000 in
theorem tb_cw4 : mm_cw (t_y 4) (t_b 4) (t_nl 4) (t_rt 4) (t_hh 4) ∈ tb_Ts := tb_in (i := 338) rfl rfl
set_option maxRecDepth 20000 in
theorem tb_cw5 : mm_cw (t_y 5) (t_b 5) (t_nl 5) (t_rt 5) (t_hh 5) ∈ tb_Ts := tb_in (i := 360) rfl rfl
set_option maxRecDepth 20000 in
theorem tb_cw6 : mm_cw (t_y 6) (t_b 6) (t_nl 6) (t_rt 6) (t_hh 6) ∈ tb_Ts := tb_in (i := 413) rfl rfl
set_option maxRecDepth 20000 in
theorem tb_cw7 : mm_cw (t_y 7) (t_b 7) (t_nl 7) (t_rt 7) (t_hh 7) ∈ tb_Ts := tb_in (i := 421) rfl rfl
set_option maxRecDepth 20000 in
theorem tb_cw8 : mm_cw (t_y 8) (t_b 8) (t_nl 8) (t_rt 8) (t_hh 8) ∈ tb_Ts := tb_in (i := 430) rfl rfl
set_option maxRecDepth 20000 in
theorem tb_cw9 : mm_cw (t_y 9) (t_b 9) (t_nl 9) (t_rt 9) (t_hh 9) ∈ tb_Ts := tb_in (i := 438) rfl rfl
set_option maxRecDepth 20000 in
theorem tb_cw10 : mm_cw (t_y 10) (t_b 10) (t_nl 10) (t_rt 10) (t_hh 10) ∈ tb_Ts := tb_in (i := 468) rfl rfl
set_option maxRecDepth 20000 in
theorem tb_cw11 : mm_cw (t_y 11) (t_b 11) (t_nl 11) (t_rt 11) (t_hh 11) ∈ tb_Ts := tb_in (i := 475) rfl rfl
set_option maxRecDepth 20000 in
theorem tb_cw12 : mm_cw (t_y 12) (t_b 12) (t_nl 12) (t_rt 12) (t_hh 12) ∈ tb_Ts := tb_in (i := 482) rfl rfl
set_option maxRecDepth 20000 in
theorem tb_cw13 : mm_cw (t_y 13) (t_b 13) (t_nl 13) (t_rt 13) (t_hh 13) ∈ tb_Ts := tb_in (i := 513) rfl rfl
set_option maxRecDepth 20000 in
theorem tb_cw14 : mm_cw (t_y 14) (t_b 14) (t_nl 14) (t_rt 14) (t_hh 14) ∈ tb_Ts := tb_in (i := 521) rfl rfl
set_option maxRecDepth 20000 in
theorem tb_cw15 : mm_cw (t_y 15) (t_b 15) (t_nl 15) (t_rt 15) (t_hh 15) ∈ tb_Ts := tb_in (i := 85) rfl rfl
set_option maxRecDepth 20000 in
theorem tb_cw16 : mm_cw (t_y 16) (t_b 16) (t_nl 16) (t_rt 16) (t_hh 16) ∈ tb_Ts := tb_in (i := 102) rfl rfl
set_option maxRecDepth 20000 in
theorem tb_cw17 : mm_cw (t_y 17) (t_b 17) (t_nl 17) (t_rt 17) (t_hh 17) ∈ tb_Ts := tb_in (i := 528) rfl rfl
set_option maxRecDepth 20000 in
theorem tb_cw18 : mm_cw (t_y 18) (t_b 18) (t_nl 18) (t_rt 18) (t_hh 18) ∈ tb_Ts := tb_in (i := 209) rfl rfl
set_option maxRecDepth 20000 in
theorem tb_cw19 : mm_cw (t_y 19) (t_b 19) (t_nl 19) (t_rt 19) (t_hh 19) ∈ tb_Ts := tb_in (i := 115) rfl rfl
set_option maxRecDepth 20000 in
theorem tb_cw20 : mm_cw (t_y 20) (t_b 20) (t_nl 20) (t_rt 20) (t_hh 20) ∈ tb_Ts := tb_in (i := 187) rfl rfl
set_option maxRecDepth 20000 in
theorem tb_cw21 : mm_cw (t_y 21) (t_b 21) (t_nl 21) (t_rt 21) (t_hh 21) ∈ tb_Ts := tb_in (i := 280) rfl rfl
set_option maxRecDepth 20000 in
theorem tb_cw22 : mm_cw (t_y 22) (t_b 22) (t_nl 22) (t_rt 22) (t_hh 22) ∈ tb_Ts := tb_in (i := 342) rfl rfl
set_option maxRecDepth 20000 in
theorem tb_cw23 : mm_cw (t_y 23) (t_b 23) (t_nl 23) (t_rt 23) (t_hh 23) ∈ tb_Ts := tb_in (i := 395) rfl rfl
set_option maxRecDepth 20000 in
theorem tb_cw24 : mm_cw (t_y 24) (t_b 24) (t_nl 24) (t_rt 24) (t_hh 24) ∈ tb_Ts := tb_in (i := 443) rfl rfl
set_option maxRecDepth 20000 in
theorem tb_cw25 : mm_cw (t_y 25) (t_b 25) (t_nl 25) (t_rt 25) (t_hh 25) ∈ tb_Ts := tb_in (i := 448) rfl rfl
set_option maxRecDepth 20000 in
theorem tb_cw26 : mm_cw (t_y 26) (t_b 26) (t_nl 26) (t_rt 26) (t_hh 26) ∈ tb_Ts := tb_in (i := 457) rfl rfl
set_option maxRecDepth 20000 in
theorem tb_cw27 : mm_cw (t_y 27) (t_b 27) (t_nl 27) (t_rt 27) (t_hh 27) ∈ tb_Ts := tb_in (i := 461) rfl rfl
set_option maxRecDepth 20000 in
theorem tb_cw28 : mm_cw (t_y 28) (t_b 28) (t_nl 28) (t_rt 28) (t_hh 28) ∈ tb_Ts := tb_in (i := 373) rfl rfl
set_option maxRecDepth 20000 in
theorem tb_cw29 : mm_cw (t_y 29) (t_b 29) (t_nl 29) (t_rt 29) (t_hh 29) ∈ tb_Ts := tb_in (i := 387) rfl rfl
set_option maxRecDepth 20000 in
theorem tb_cw30 : mm_cw (t_y 30) (t_b 30) (t_nl 30) (t_rt 30) (t_hh 30) ∈ tb_Ts := tb_in (i := 406) rfl rfl
set_option maxRecDepth 20000 in
theorem tb_cw31 : mm_cw (t_y 31) (t_b 31) (t_nl 31) (t_rt 31) (t_hh 31) ∈ tb_Ts := tb_in (i := 487) rfl rfl
set_option maxRecDepth 20000 in
theorem tb_cw32 : mm_cw (t_y 32) (t_b 32) (t_nl 32) (t_rt 32) (t_hh 32) ∈ tb_Ts := tb_in (i := 491) rfl rfl
set_option maxRecDepth 20000 in
theorem tb_cw33 : mm_cw (t_y 33) (t_b 33) (t_nl 33) (t_rt 33) (t_hh 33) ∈ tb_Ts := tb_in (i := 499) rfl rfl
set_option maxRecDepth 20000 in
theorem tb_cw34 : mm_cw (t_y 34) (t_b 34) (t_nl 34) (t_rt 34) (t_hh 34) ∈ tb_Ts := tb_in (i := 502) rfl rfl
set_option maxRecDepth 20000 in
theorem tb_cw35 : mm_cw (t_y 35) (t_b 35) (t_nl 35) (t_rt 35) (t_hh 35) ∈ tb_Ts := tb_in (i := 506) rfl rfl
set_option maxRecDepth 20000 in
theorem tb_cw36 : mm_cw (t_y 36) (t_b 36) (t_nl 36) (t_rt 36) (t_hh 36) ∈ tb_Ts := tb_in (i := 89) rfl rfl
set_option maxRecDepth 20000 in
theorem tb_cw37 : mm_cw (t_y 37) (t_b 37) (t_nl 37) (t_rt 37) (t_hh 37) ∈ tb_Ts := tb_in (i := 93) rfl rfl
set_option maxRecDepth 20000 in
theorem tb_cw38 : mm_cw (t_y 38) (t_b 38) (t_nl 38) (t_rt 38) (t_hh 38) ∈ tb_Ts := tb_in (i := 97) rfl rfl
set_option maxRecDepth 20000 in
theorem tb_cw39 : mm_cw (t_y 39) (t_b 39) (t_nl 39) (t_rt 39) (t_hh 39) ∈ tb_Ts := tb_in (i := 229) rfl rfl
set_option maxRecDepth 20000 in
theorem tb_cw40 : mm_cw (t_y 40) (t_b 40) (t_nl 40) (t_rt 40) (t_hh 40) ∈ tb_Ts := tb_in (i := 391) rfl rfl
set_option maxRecDepth 20000 in
theorem tb_cw41 : mm_cw (t_y 41) (t_b 41) (t_nl 41) (t_rt 41) (t_hh 41) ∈ tb_Ts := tb_in (i := 300) rfl rfl
set_option maxRecDepth 20000 in
theorem tb_cw42 : mm_cw (t_y 42) (t_b 42) (t_nl 42) (t_rt 42) (t_hh 42) ∈ tb_Ts := tb_in (i := 377) rfl rfl
set_option maxRecDepth 20000 in
theorem tb_cw43 : mm_cw (t_y 43) (t_b 43) (t_nl 43) (t_rt 43) (t_hh 43) ∈ tb_Ts := tb_in (i := 399) rfl rfl
set_option maxRecDepth 20000 in
theorem tb_cw44 : mm_cw (t_y 44) (t_b 44) (t_nl 44) (t_rt 44) (t_hh 44) ∈ tb_Ts := tb_in (i := 452) rfl rfl
set_option maxRecDepth 20000 in
theorem tb_cw45 : mm_cw (t_y 45) (t_b 45) (t_nl 45) (t_rt 45) (t_hh 45) ∈ tb_Ts := tb_in (i := 495) rfl rfl
set_option maxRecDepth 20000 in
theorem tb_cw46 : mm_cw (t_y 46) (t_b 46) (t_nl 46) (t_rt 46) (t_hh 46) ∈ tb_Ts := tb_in (i := 313) rfl rfl
set_option maxRecDepth 20000 in
theorem tb_cw47 : mm_cw (t_y 47) (t_b 47) (t_nl 47) (t_rt 47) (t_hh 47) ∈ tb_Ts := tb_in (i := 353) rfl rfl
set_option maxRecDepth 20000 in
theorem tb_cw48 : mm_cw (t_y 48) (t_b 48) (t_nl 48) (t_rt 48) (t_hh 48) ∈ tb_Ts := tb_in (i := 348) rfl rfl
set_option maxRecDepth 20000 in
theorem tb_cw49 : mm_cw (t_y 49) (t_b 49) (t_nl 49) (t_rt 49) (t_hh 49) ∈ tb_Ts := tb_in (i := 364) rfl rfl
set_option maxRecDepth 20000 in
theorem tb_cw50 : mm_cw (t_y 50) (t_b 50) (t_nl 50) (t_rt 50) (t_hh 50) ∈ tb_Ts := tb_in (i := 30) rfl rfl
set_option maxRecDepth 20000 in
theorem tb_cw51 : mm_cw (t_y 51) (t_b 51) (t_nl 51) (t_rt 51) (t_hh 51) ∈ tb_Ts := tb_in (i := 369) rfl rfl
set_option maxRecDepth 20000 in
theorem tb_cw52 : mm_cw (t_y 52) (t_b 52) (t_nl 52) (t_rt 52) (t_hh 52) ∈ tb_Ts := tb_in (i := 532) rfl rfl
set_option maxRecDepth 20000 in
theorem tb_cw53 : mm_cw (t_y 53) (t_b 53) (t_nl 53) (t_rt 53) (t_hh 53) ∈ tb_Ts := tb_in (i := 539) rfl rfl
set_option maxRecDepth 20000 in
theorem tb_cw54 : mm_cw (t_y 54) (t_b 54) (t_nl 54) (t_rt 54) (t_hh 54) ∈ tb_Ts := tb_in (i := 624) rfl rfl
set_option maxRecDepth 20000 in
theorem tb_cw55 : mm_cw (t_y 55) (t_b 55) (t_nl 55) (t_rt 55) (t_hh 55) ∈ tb_Ts := tb_in (i := 635) rfl rfl
set_option maxRecDepth 20000 in
theorem tb_cw56 : mm_cw (t_y 56) (t_b 56) (t_nl 56) (t_rt 56) (t_hh 56) ∈ tb_Ts := tb_in (i := 644) rfl rfl
set_option maxRecDepth 20000 in
theorem tb_cw57 : mm_cw (t_y 57) (t_b 57) (t_nl 57) (t_rt 57) (t_hh 57) ∈ tb_Ts := tb_in (i := 660) rfl rfl
set_option maxRecDepth 20000 in
theorem tb_cw58 : mm_cw (t_y 58) (t_b 58) (t_nl 58) (t_rt 58) (t_hh 58) ∈ tb_Ts := tb_in (i := 631) rfl rfl
set_option maxRecDepth 20000 in
theorem tb_cw59 : mm_cw (t_y 59) (t_b 59) (t_nl 59) (t_rt 59) (t_hh 59) ∈ tb_Ts := tb_in (i := 676) rfl rfl
set_option maxRecDepth 20000 in
theorem tb_cw60 : mm_cw (t_y 60) (t_b 60) (t_nl 60) (t_rt 60) (t_hh 60) ∈ tb_Ts := tb_in (i := 680) rfl rfl
set_option maxRecDepth 20000 in
theorem tb_cw61 : mm_cw (t_y 61) (t_b 61) (t_nl 61) (t_rt 61) (t_hh 61) ∈ tb_Ts := tb_in (i := 664) rfl rfl
set_option maxRecDepth 20000 in
theorem tb_cw62 : mm_cw (t_y 62) (t_b 62) (t_nl 62) (t_rt 62) (t_hh 62) ∈ tb_Ts := tb_in (i := 688) rfl rfl
set_option maxRecDepth 20000 in
theorem tb_cw63 : mm_cw (t_y 63) (t_b 63) (t_nl 63) (t_rt 63) (t_hh 63) ∈ tb_Ts := tb_in (i := 648) rfl rfl
set_option maxRecDepth 20000 in
theorem tb_cw64 : mm_cw (t_y 64) (t_b 64) (t_nl 64) (t_rt 64) (t_hh 64) ∈ tb_Ts := tb_in (i := 696) rfl rfl
set_option maxRecDepth 20000 in
theorem tb_cw65 : mm_cw (t_y 65) (t_b 65) (t_nl 65) (t_rt 65) (t_hh 65) ∈ tb_Ts := tb_in (i := 692) rfl rfl
set_option maxRecDepth 20000 in
theorem tb_cw66 : mm_cw (t_y 66) (t_b 66) (t_nl 66) (t_rt 66) (t_hh 66) ∈ tb_Ts := tb_in (i := 729) rfl rfl
set_option maxRecDepth 20000 in
theorem tb_cw67 : mm_cw (t_y 67) (t_b 67) (t_nl 67) (t_rt 67) (t_hh 67) ∈ tb_Ts := tb_in (i := 737) rfl rfl
set_option maxRecDepth 20000 in
theorem tb_cw68 : mm_cw (t_y 68) (t_b 68) (t_nl 68) (t_rt 68) (t_hh 68) ∈ tb_Ts := tb_in (i := 701) rfl rfl
set_option maxRecDepth 20000 in
theorem tb_cw69 : mm_cw (t_y 69) (t_b 69) (t_nl 69) (t_rt 69) (t_hh 69) ∈ tb_Ts := tb_in (i := 684) rfl rfl
set_option maxRecDepth 20000 in
theorem tb_cw70 : mm_cw (t_y 70) (t_b 70) (t_nl 70) (t_rt 70) (t_hh 70) ∈ tb_Ts := tb_in (i := 628) rfl rfl
set_option maxRecDepth 20000 in
theorem tb_cw71 : mm_cw (t_y 71) (t_b 71) (t_nl 71) (t_rt 71) (t_hh 71) ∈ tb_Ts := tb_in (i := 640) rfl rfl
set_option maxRecDepth 20000 in
theorem tb_cw72 : mm_cw (t_y 72) (t_b 72) (t_nl 72) (t_rt 72) (t_hh 72) ∈ tb_Ts := tb_in (i := 652) rfl rfl
set_option maxRecDepth 20000 in
theorem tb_cw73 : mm_cw (t_y 73) (t_b 73) (t_nl 73) (t_rt 73) (t_hh 73) ∈ tb_Ts := tb_in (i := 656) rfl rfl
set_option maxRecDepth 20000 in
theorem tb_cw74 : mm_cw (t_y 74) (t_b 74) (t_nl 74) (t_rt 74) (t_hh 74) ∈ tb_Ts := tb_in (i := 672) rfl rfl
set_option maxRecDepth 20000 in
theorem tb_cw75 : mm_cw (t_y 75) (t_b 75) (t_nl 75) (t_rt 75) (t_hh 75) ∈ tb_Ts := tb_in (i := 668) rfl rfl
set_option maxRecDepth 20000 in
theorem tb_cw76 : mm_cw (t_y 76) (t_b 76) (t_nl 76) (t_rt 76) (t_hh 76) ∈ tb_Ts := tb_in (i := 705) rfl rfl
set_option maxRecDepth 20000 in
theorem tb_cw77 : mm_cw (t_y 77) (t_b 77) (t_nl 77) (t_rt 77) (t_hh 77) ∈ tb_Ts := tb_in (i := 709) rfl rfl
set_option maxRecDepth 20000 in
theorem tb_cw78 : mm_cw (t_y 78) (t_b 78) (t_nl 78) (t_rt 78) (t_hh 78) ∈ tb_Ts := tb_in (i := 713) rfl rfl
set_option maxRecDepth 20000 in
theorem tb_cw79 : mm_cw (t_y 79) (t_b 79) (t_nl 79) (t_rt 79) (t_hh 79) ∈ tb_Ts := tb_in (i := 721) rfl rfl
set_option maxRecDepth 20000 in
theorem tb_cw80 : mm_cw (t_y 80) (t_b 80) (t_nl 80) (t_rt 80) (t_hh 80) ∈ tb_Ts := tb_in (i := 725) rfl rfl
set_option maxRecDepth 20000 in
theorem tb_cw81 : mm_cw (t_y 81) (t_b 81) (t_nl 81) (t_rt 81) (t_hh 81) ∈ tb_Ts := tb_in (i := 717) rfl rfl
set_option maxRecDepth 20000 in
theorem tb_cw82 : mm_cw (t_y 82) (t_b 82) (t_nl 82) (t_rt 82) (t_hh 82) ∈ tb_Ts := tb_in (i := 733) rfl rfl
set_option maxRecDepth 20000 in
theorem tb_cw83 : mm_cw (t_y 83) (t_b 83) (t_nl 83) (t_rt 83) (t_hh 83) ∈ tb_Ts := tb_in (i := 741) rfl rfl
set_option maxRecDepth 20000 in
theorem tb_cw84 : mm_cw (t_y 84) (t_b 84) (t_nl 84) (t_rt 84) (t_hh 84) ∈ tb_Ts := tb_in (i := 745) rfl rfl
set_option maxRecDepth 20000 in
theorem tb_cw85 : mm_cw (t_y 85) (t_b 85) (t_nl 85) (t_rt 85) (t_hh 85) ∈ tb_Ts := tb_in (i := 753) rfl rfl
set_option maxRecDepth 20000 in
theorem tb_cw86 : mm_cw (t_y 86) (t_b 86) (t_nl 86) (t_rt 86) (t_hh 86) ∈ tb_Ts := tb_in (i := 766) rfl rfl
set_option maxRecDepth 20000 in
theorem tb_cw87 : mm_cw (t_y 87) (t_b 87) (t_nl 87) (t_rt 87) (t_hh 87) ∈ tb_Ts := tb_in (i := 761) rfl rfl
set_option maxRecDepth 20000 in
theorem tb_cw88 : mm_cw (t_y 88) (t_b 88) (t_nl 88) (t_rt 88) (t_hh 88) ∈ tb_Ts := tb_in (i := 757) rfl rfl
set_option maxRecDepth 20000 in
theorem tb_cw89 : mm_cw (t_y 89) (t_b 89) (t_nl 89) (t_rt 89) (t_hh 89) ∈ tb_Ts := tb_in (i := 749) rfl rfl
set_option maxRecDepth 20000 in
theorem tb_cw90 : mm_cw (t_y 90) (t_b 90) (t_nl 90) (t_rt 90) (t_hh 90) ∈ tb_Ts := tb_in (i := 770) rfl rfl
set_option maxRecDepth 20000 in
theorem tb_cw91 : mm_cw (t_y 91) (t_b 91) (t_nl 91) (t_rt 91) (t_hh 91) ∈ tb_Ts := tb_in (i := 775) rfl rfl
set_option maxRecDepth 20000 in
theorem tb_cw92 : mm_cw (t_y 92) (t_b 92) (t_nl 92) (t_rt 92) (t_hh 92) ∈ tb_Ts := tb_in (i := 779) rfl rfl
set_option maxRecDepth 20000 in
theorem tb_cw93 : mm_cw (t_y 93) (t_b 93) (t_nl 93) (t_rt 93) (t_hh 93) ∈ tb_Ts := tb_in (i := 783) rfl rfl
set_option maxRecDepth 20000 in
theorem tb_cw94 : mm_cw (t_y 94) (t_b 94) (t_nl 94) (t_rt 94) (t_hh 94) ∈ tb_Ts := tb_in (i := 787) rfl rfl
set_option maxRecDepth 20000 in
theorem tb_cw95 : mm_cw (t_y 95) (t_b 95) (t_nl 95) (t_rt 95) (t_hh 95) ∈ tb_Ts := tb_in (i := 105) rfl rfl
set_option maxRecDepth 20000 in
theorem tb_cw96 : mm_cw (t_y 96) (t_b 96) (t_nl 96) (t_rt 96) (t_hh 96) ∈ tb_Ts := tb_in (i := 271) rfl rfl
set_option maxRecDepth 20000 in
theorem tb_cw97 : mm_cw (t_y 97) (t_b 97) (t_nl 97) (t_rt 97) (t_hh 97) ∈ tb_Ts := tb_in (i := 304) rfl rfl
set_option maxRecDepth 20000 in
theorem tb_cw98 : mm_cw (t_y 98) (t_b 98) (t_nl 98) (t_rt 98) (t_hh 98) ∈ tb_Ts := tb_in (i := 334) rfl rfl
set_option maxRecDepth 20000 in
theorem tb_cw99 : mm_cw (t_y 99) (t_b 99) (t_nl 99) (t_rt 99) (t_hh 99) ∈ tb_Ts := tb_in (i := 356) rfl rfl
set_option maxRecDepth 20000 in
theorem tb_cw100 : mm_cw (t_y 100) (t_b 100) (t_nl 100) (t_rt 100) (t_hh 100) ∈ tb_Ts := tb_in (i := 409) rfl rfl
set_option maxRecDepth 20000 in
theorem tb_cw101 : mm_cw (t_y 101) (t_b 101) (t_nl 101) (t_rt 101) (t_hh 101) ∈ tb_Ts := tb_in (i := 417) rfl rfl
set_option maxRecDepth 20000 in
theorem tb_cw102 : mm_cw (t_y 102) (t_b 102) (t_nl 102) (t_rt 102) (t_hh 102) ∈ tb_Ts := tb_in (i := 426) rfl rfl
set_option maxRecDepth 20000 in
theorem tb_cw103 : mm_cw (t_y 103) (t_b 103) (t_nl 103) (t_rt 103) (t_hh 103) ∈ tb_Ts := tb_in (i := 434) rfl rfl
set_option maxRecDepth 20000 in
theorem tb_cw104 : mm_cw (t_y 104) (t_b 104) (t_nl 104) (t_rt 104) (t_hh 104) ∈ tb_Ts := tb_in (i := 464) rfl rfl
set_option maxRecDepth 20000 in
theorem tb_cw105 : mm_cw (t_y 105) (t_b 105) (t_nl 105) (t_rt 105) (t_hh 105) ∈ tb_Ts := tb_in (i := 471) rfl rfl
set_option maxRecDepth 20000 in
theorem tb_cw106 : mm_cw (t_y 106) (t_b 106) (t_nl 106) (t_rt 106) (t_hh 106) ∈ tb_Ts := tb_in (i := 478) rfl rfl
set_option maxRecDepth 20000 in
theorem tb_cw107 : mm_cw (t_y 107) (t_b 107) (t_nl 107) (t_rt 107) (t_hh 107) ∈ tb_Ts := tb_in (i := 509) rfl rfl
set_option maxRecDepth 20000 in
theorem tb_cw108 : mm_cw (t_y 108) (t_b 108) (t_nl 108) (t_rt 108) (t_hh 108) ∈ tb_Ts := tb_in (i := 517) rfl rfl
set_option maxRecDepth 20000 in
theorem tb_cw109 : mm_cw (t_y 109) (t_b 109) (t_nl 109) (t_rt 109) (t_hh 109) ∈ tb_Ts := tb_in (i := 524) rfl rfl
theorem tb_cwl : ∀ e ∈ t_mthL, mm_cw (t_y e.2.2.1) (t_b e.2.2.1) (t_nl e.2.2.1) (t_rt e.2.2.1) (t_hh e.2.2.1) ∈ tb_Ts := List.forall_mem_cons.mpr ⟨tb_cw0, List.forall_mem_cons.mpr ⟨tb_cw50, List.forall_mem_cons.mpr ⟨tb_cw15, List.forall_mem_cons.mpr ⟨tb_cw36, List.forall_mem_cons.mpr ⟨tb_cw37, List.forall_mem_cons.mpr ⟨tb_cw38, List.forall_mem_cons.mpr ⟨tb_cw16, List.forall_mem_cons.mpr ⟨tb_cw95, List.forall_mem_cons.mpr ⟨tb_cw1, List.forall_mem_cons.mpr ⟨tb_cw19, List.forall_mem_cons.mpr ⟨tb_cw20, List.forall_mem_cons.mpr ⟨tb_cw18, List.forall_mem_cons.mpr ⟨tb_cw39, List.forall_mem_cons.mpr ⟨tb_cw96, List.forall_mem_cons.mpr ⟨tb_cw2, List.forall_mem_cons.mpr ⟨tb_cw21, List.forall_mem_cons.mpr ⟨tb_cw41, List.forall_mem_cons.mpr ⟨tb_cw97, List.forall_mem_cons.mpr ⟨tb_cw3, List.forall_mem_cons.mpr ⟨tb_cw46, List.forall_mem_cons.mpr ⟨tb_cw98, List.forall_mem_cons.mpr ⟨tb_cw4, List.forall_mem_cons.mpr ⟨tb_cw22, List.forall_mem_cons.mpr ⟨tb_cw48, List.forall_mem_cons.mpr ⟨tb_cw47, List.forall_mem_cons.mpr ⟨tb_cw99, List.forall_mem_cons.mpr ⟨tb_cw5, List.forall_mem_cons.mpr ⟨tb_cw49, List.forall_mem_cons.mpr ⟨tb_cw51, List.forall_mem_cons.mpr ⟨tb_cw28, List.forall_mem_cons.mpr ⟨tb_cw42, List.forall_mem_cons.mpr ⟨tb_cw29, List.forall_mem_cons.mpr ⟨tb_cw40, List.forall_mem_cons.mpr ⟨tb_cw23, List.forall_mem_cons.mpr ⟨tb_cw43, List.forall_mem_cons.mpr ⟨tb_cw42, List.forall_mem_cons.mpr ⟨tb_cw30, List.forall_mem_cons.mpr ⟨tb_cw100, List.forall_mem_cons.mpr ⟨tb_cw6, List.forall_mem_cons.mpr ⟨tb_cw101, List.forall_mem_cons.mpr ⟨tb_cw7, List.forall_mem_cons.mpr ⟨tb_cw102, List.forall_mem_cons.mpr ⟨tb_cw8, List.forall_mem_cons.mpr ⟨tb_cw103, List.forall_mem_cons.mpr ⟨tb_cw9, List.forall_mem_cons.mpr ⟨tb_cw24, List.forall_mem_cons.mpr ⟨tb_cw25, List.forall_mem_cons.mpr ⟨tb_cw44, List.forall_mem_cons.mpr ⟨tb_cw43, List.forall_mem_cons.mpr ⟨tb_cw26, List.forall_mem_cons.mpr ⟨tb_cw27, List.forall_mem_cons.mpr ⟨tb_cw104, List.forall_mem_cons.mpr ⟨tb_cw10, List.forall_mem_cons.mpr ⟨tb_cw105, List.forall_mem_cons.mpr ⟨tb_cw11, List.forall_mem_cons.mpr ⟨tb_cw106, List.forall_mem_cons.mpr ⟨tb_cw12, List.forall_mem_cons.mpr ⟨tb_cw31, List.forall_mem_cons.mpr ⟨tb_cw32, List.forall_mem_cons.mpr ⟨tb_cw45, List.forall_mem_cons.mpr ⟨tb_cw33, List.forall_mem_cons.mpr ⟨tb_cw34, List.forall_mem_cons.mpr ⟨tb_cw35, List.forall_mem_cons.mpr ⟨tb_cw107, List.forall_mem_cons.mpr ⟨tb_cw13, List.forall_mem_cons.mpr ⟨tb_cw108, List.forall_mem_cons.mpr ⟨tb_cw14, List.forall_mem_cons.mpr ⟨tb_cw109, List.forall_mem_cons.mpr ⟨tb_cw17, List.forall_mem_cons.mpr ⟨tb_cw52, List.forall_mem_cons.mpr ⟨tb_cw53, List.forall_mem_cons.mpr ⟨tb_cw54, List.forall_mem_cons.mpr ⟨tb_cw70, List.forall_mem_cons.mpr ⟨tb_cw58, List.forall_mem_cons.mpr ⟨tb_cw55, List.forall_mem_cons.mpr ⟨tb_cw71, List.forall_mem_cons.mpr ⟨tb_cw56, List.forall_mem_cons.mpr ⟨tb_cw63, List.forall_mem_cons.mpr ⟨tb_cw72, List.forall_mem_cons.mpr ⟨tb_cw73, List.forall_mem_cons.mpr ⟨tb_cw57, List.forall_mem_cons.mpr ⟨tb_cw61, List.forall_mem_cons.mpr ⟨tb_cw75, List.forall_mem_cons.mpr ⟨tb_cw74, List.forall_mem_cons.mpr ⟨tb_cw59, List.forall_mem_cons.mpr ⟨tb_cw60, List.forall_mem_cons.mpr ⟨tb_cw69, List.forall_mem_cons.mpr ⟨tb_cw62, List.forall_mem_cons.mpr ⟨tb_cw65, List.forall_mem_cons.mpr ⟨tb_cw64, List.forall_mem_cons.mpr ⟨tb_cw68, List.forall_mem_cons.mpr ⟨tb_cw76, List.forall_mem_cons.mpr ⟨tb_cw77, List.forall_mem_cons.mpr ⟨tb_cw78, List.forall_mem_cons.mpr ⟨tb_cw81, List.forall_mem_cons.mpr ⟨tb_cw79, List.forall_mem_cons.mpr ⟨tb_cw80, List.forall_mem_cons.mpr ⟨tb_cw66, List.forall_mem_cons.mpr ⟨tb_cw82, List.forall_mem_cons.mpr ⟨tb_cw67, List.forall_mem_cons.mpr ⟨tb_cw83, List.forall_mem_cons.mpr ⟨tb_cw84, List.forall_mem_cons.mpr ⟨tb_cw89, List.forall_mem_cons.mpr ⟨tb_cw85, List.forall_mem_cons.mpr ⟨tb_cw88, List.forall_mem_cons.mpr ⟨tb_cw87, List.forall_mem_cons.mpr ⟨tb_cw86, List.forall_mem_cons.mpr ⟨tb_cw90, List.forall_mem_cons.mpr ⟨tb_cw91, List.forall_mem_cons.mpr ⟨tb_cw92, List.forall_mem_cons.mpr ⟨tb_cw93, List.forall_mem_cons.mpr ⟨tb_cw94, fun _ h => absurd h List.not_mem_nil⟩⟩⟩⟩⟩⟩⟩⟩⟩⟩⟩⟩⟩⟩⟩⟩⟩⟩⟩⟩⟩⟩⟩⟩⟩⟩⟩⟩⟩⟩⟩⟩⟩⟩⟩⟩⟩⟩⟩⟩⟩⟩⟩⟩⟩⟩⟩⟩⟩⟩⟩⟩⟩⟩⟩⟩⟩⟩⟩⟩⟩⟩⟩⟩⟩⟩⟩⟩⟩⟩⟩⟩⟩⟩⟩⟩⟩⟩⟩⟩⟩⟩⟩⟩⟩⟩⟩⟩⟩⟩⟩⟩⟩⟩⟩⟩⟩⟩⟩⟩⟩⟩⟩⟩⟩⟩⟩⟩⟩⟩⟩⟩
theorem mm_ml_mem : ∀ (L : List (Nat × Nat × Nat × Nat × Nat × Nat)) (o i k n t : Nat), mm_ml L o i = some (k, n, t) → ∃ p, (o, i, k, n, t, p) ∈ L
  | [], o, i, k, n, t, h => by cases h
  | (o1, i1, k1, n1, t1, p1) :: r, o, i, k, n, t, h => by
    unfold mm_ml at h
    cases hb : (Nat.beq o1 o && Nat.beq i1 i) with
    | true =>
      rw [hb] at h
      rw [Bool.and_eq_true] at hb
      have e1 := Nat.eq_of_beq_eq_true hb.1
      have e2 := Nat.eq_of_beq_eq_true hb.2
      subst e1; subst e2
      cases h
      exact ⟨p1, List.mem_cons_self⟩
    | false =>
      rw [hb] at h
      obtain ⟨p, hp⟩ := mm_ml_mem r o i k n t h
      exact ⟨p, List.mem_cons_of_mem _ hp⟩
def mm_mth3 (o idx k np : Nat) : Prop := Cond.methodLink (t_on o) idx (t_y k) ∈ tb_Ts ∧ mm_cw (t_y k) (t_b k) (t_nl k) (t_rt k) (t_hh k) ∈ tb_Ts ∧ (parseMethodDescriptor (t_y k).desc).map (fun d => d.parameters.length) = some np ∧ ((t_y k).cls ≠ "java/lang/invoke/MethodHandle" ∧ (t_y k).cls ≠ "java/lang/invoke/VarHandle") ∧ plainFor (t_y k) = true ∧ t_nl k ≤ 13
theorem tb_mth0 {o idx k np : Nat} (h : t_mth o idx = some (k, np, 0)) : mm_mth3 o idx k np ∧ Cond.static (t_y k) ∈ tb_Ts ∧ Cond.initialized (t_y k).cls ∈ tb_Ts := by
  obtain ⟨p, hp⟩ := mm_ml_mem _ _ _ _ _ _ h
  have h1 := tb_mck _ hp
  have h2 := tb_cwl _ hp
  unfold mm_mck at h1
  simp only [Bool.and_eq_true, decide_eq_true_eq] at h1
  obtain ⟨a1, a2, a3, a4, a5, a6, a7⟩ := h1
  exact ⟨⟨tb_in a1 rfl, h2, a2, a3, a4, Nat.le_of_ble_eq_true a5⟩, tb_in a6 rfl, tb_in a7 rfl⟩
theorem tb_mth1 {o idx k np : Nat} (h : t_mth o idx = some (k, np, 1)) : mm_mth3 o idx k np ∧ Cond.instanceMethod (t_y k) ∈ tb_Ts ∧ Cond.selects (t_y k).cls (t_y k) (t_y k) ∈ tb_Ts ∧ ∃ C T N, t_cl[t_rc k]? = some (C, T, N) ∧ C = (t_y k).cls := by
  obtain ⟨p, hp⟩ := mm_ml_mem _ _ _ _ _ _ h
  have h1 := tb_mck _ hp
  have h2 := tb_cwl _ hp
  unfold mm_mck at h1
  simp only [Bool.and_eq_true, decide_eq_true_eq] at h1
  obtain ⟨a1, a2, a3, a4, a5, a6, a7, a8⟩ := h1
  refine ⟨⟨tb_in a1 rfl, h2, a2, a3, a4, Nat.le_of_ble_eq_true a5⟩, tb_in a6 rfl, tb_inL a7 rfl, ?_⟩
  cases hc : t_cl[t_rc k]? with
  | none => rw [hc] at a8; cases a8
  | some q =>
    rw [hc] at a8
    exact ⟨q.1, q.2.1, q.2.2, rfl, Option.some.inj a8⟩
theorem tb_mth2 {o idx k np : Nat} (h : t_mth o idx = some (k, np, 2)) : mm_mth3 o idx k np ∧ Cond.instanceMethod (t_y k) ∈ tb_Ts ∧ (t_y k).name = "<init>" ∧ t_hh k = [] ∧ t_rt k = none := by
  obtain ⟨p, hp⟩ := mm_ml_mem _ _ _ _ _ _ h
  have h1 := tb_mck _ hp
  have h2 := tb_cwl _ hp
  unfold mm_mck at h1
  simp only [Bool.and_eq_true, decide_eq_true_eq] at h1
  obtain ⟨a1, a2, a3, a4, a5, a6, a7, a8, a9⟩ := h1
  exact ⟨⟨tb_in a1 rfl, h2, a2, a3, a4, Nat.le_of_ble_eq_true a5⟩, tb_in a6 rfl, a7, List.isEmpty_iff.mp a8, Option.isNone_iff_eq_none.mp a9⟩
end
section
/-! Throwable's two static fields, which a throw reads: they lie below the law's first heap size and nobody writes them -/
def mm_Z1 (C n d : String) (U : State) (H0 : Heap) : Prop := ∃ (c : ClassId) (k : Class) (i : Nat) (f : Field) (a : Nat) (cell : Cell) (v : Value), U.vm.findClass C = some c ∧ U.fieldFound? C n d = some (c, k, i, f) ∧ f.isStatic = true ∧ k.statics = some a ∧ a < H0.size ∧ H0[a]? = some cell ∧ cell.vm.isStatics = true ∧ cell.cls = c ∧ f.slot < cell.slots.size ∧ k.staticTypes[f.slot]? = some f.type ∧ cell.slots[f.slot]? = some v ∧ v.isRef = true
theorem mm_Z1.moved {C n d : String} {u U : State} {H0 : Heap} (hvm : u.vm.Alike U.vm) (h : mm_Z1 C n d u H0) : mm_Z1 C n d U H0 := by
  obtain ⟨c, k, i, f, a, cell, v, h1, h2, h3, h4, h5, h6, h7, h8, h9, h10, h11, h12⟩ := h
  obtain ⟨k', hi', he⟩ := State.fieldFound?_setVm hvm h2
  exact ⟨c, k', i, f, a, cell, v, by rw [hvm.findClass]; exact h1, hi', h3, by rw [he]; exact h4, h5, h6, h7, h8, h9, by rw [he]; exact h10, h11, h12⟩
theorem mm_Z1.lays {C n d : String} {U : State} {H0 : Heap} {A : Array Value} (hq : ∀ q : Nat, q < H0.size → U.heap[q]? = H0[q]?) (h : mm_Z1 C n d U H0) : (Cond.laysStatic C n d).before A U = true := by
  obtain ⟨c, k, i, f, a, cell, v, h1, h2, h3, h4, h5, h6, h7, h8, h9, h10, h11, h12⟩ := h
  show (Cond.laysStatic C n d).holds A U none U [] = true
  exact Cond.laysStatic_of h1 h2 h3 h4 (by rw [hq a h5]; exact h6) h7 h8 h9 h10
theorem mm_Z1.ref {C n d : String} {U : State} {H0 : Heap} {A : Array Value} (hq : ∀ q : Nat, q < H0.size → U.heap[q]? = H0[q]?) (h : mm_Z1 C n d U H0) : (Cond.isRef (.static C n d)).before A U = true := by
  obtain ⟨c, k, i, f, a, cell, v, h1, h2, h3, h4, h5, h6, h7, h8, h9, h10, h11, h12⟩ := h
  have h6' : U.heap[a]? = some cell := by rw [hq a h5]; exact h6
  have he : (Term.static C n d).eval A U none [] U = some v := by
    simp [Term.eval, State.fieldNamed?, h2, h3, h4, h6', h7, h11]
  simp only [Cond.before, Cond.holds, Cond.value, he]
  cases v <;> simp_all [Value.isRef]
theorem mm_Z1.of {C n d : String} {s : State} {A : Array Value} (hl : (Cond.laysStatic C n d).before A s = true) (h : (Cond.isRef (.static C n d)).before A s = true) : mm_Z1 C n d s s.heap := by
  obtain ⟨c, k, i, f, a, cell, h1, h2, h3, h4, h5, h6, h7, h8, h9⟩ := Cond.laysStatic_spec hl
  obtain ⟨u, hu⟩ := Cond.staticRefV h2 h3 h4 h5 h6 h
  exact ⟨c, k, i, f, a, cell, u.v, h1, h2, h3, h4, (Array.getElem?_eq_some_iff.mp h5).1, h5, h6, h7, h8, h9, hu, u.2⟩
def mm_Zs (U : State) (H0 : Heap) : Prop := mm_Z1 "java/lang/Throwable" "UNASSIGNED_STACK" "[Ljava/lang/StackTraceElement;" U H0 ∧ mm_Z1 "java/lang/Throwable" "SUPPRESSED_SENTINEL" "Ljava/util/List;" U H0
theorem mm_Zs.moved {u U : State} {H0 : Heap} (hvm : u.vm.Alike U.vm) (h : mm_Zs u H0) : mm_Zs U H0 := ⟨h.1.moved hvm, h.2.moved hvm⟩
end
section
/-! THE MINI MACHINE itself: a big-step interpreter with fuel and depth. It is a function; what it answers, the machine does (mm_sim). -/
/-- how many words a stack has -/
def mm_w : List Value → Nat
  | [] => 0
  | v :: r => v.category + mm_w r
theorem mm_w_eq : ∀ r : List Value, (r.map fun v => v.category).sum = mm_w r
  | [] => rfl
  | v :: r => by
    rw [List.map_cons, List.sum_cons, mm_w_eq r]
    rfl
theorem mm_sum12 {r : List Value} (h : Nat.ble (mm_w r) 12 = true) : (r.map fun v => v.category).sum ≤ 12 := by
  rw [mm_w_eq]
  exact Nat.le_of_ble_eq_true h
/-- fields, constants, the JDK's own small members, what is made -/
def mm_fa (k d : Nat) (i : Instr) (len : Nat) (st : List Value) (h : mm_H) : Option (List Value × mm_H) :=
  match i, len, st with
  | .getfield idx, 3, .ref a :: r => match t_fld (t_o k) idx, h.2.2 a with
    | some (ci, j), some (.inl (ci', fs)) => cond (Nat.beq ci' ci) ((fs[j]?).map (fun v => (v :: r, h))) none
    | _, _ => none
  | .putfield idx, 3, v :: .ref a :: r => match t_fld (t_o k) idx, h.2.2 a with
    | some (ci, j), some (.inl (ci', fs)) => cond (Nat.beq ci' ci && (mm_fit (t_ct ci j) v && (Nat.ble (j + 1) fs.length && (!(t_fin ci j) || t_ini k ci)))) (some (r, mm_upd h a (.inl (ci, fs.set j v)))) none
    | _, _ => none
  | .ldc idx, 2, r => match t_ci (t_o k) idx with
    | some x => some (.int x :: r, h)
    | none => none
  | .ldc2_w idx, 3, r => match t_cj (t_o k) idx with
    | some x => some (.long x :: r, h)
    | none => none
  | .invokespecial idx, 3, .ref _ :: r => cond (t_obi (t_o k) idx && (Nat.ble 1 d && Nat.ble (mm_w r) 12)) (some (r, h)) none
  | .invokestatic idx, 3, .long y :: .long x :: r => match t_mx (t_o k) idx with
    | some true => cond (Nat.ble 1 d && Nat.ble (mm_w r) 12) (some (.long (if y < x then x else y) :: r, h)) none
    | some false => cond (Nat.ble 1 d && Nat.ble (mm_w r) 12) (some (.long (if y < x then y else x) :: r, h)) none
    | none => none
  | .new idx, 3, r => match t_cls (t_o k) idx with
    | some ci => cond (Nat.ble 1 h.2.1.1 && Nat.ble (t_N ci) h.2.1.2) (some (.ref h.1 :: r, mm_push h (t_N ci) (.inl (ci, t_df ci)))) none
    | none => none
  | .newarray ty, 2, .int n :: r => match t_at ty with
    | some t => if n < 0 ∨ 60000000 < n.toNatClampNeg ∨ h.2.1.1 < 1 ∨ h.2.1.2 < n.toNatClampNeg then none else some (.ref h.1 :: r, mm_push h n.toNatClampNeg (.inr (t, n.toNatClampNeg, fun _ => defaultValue (mm_ty t))))
    | none => none
  | .anewarray idx, 3, .int n :: r => match t_ary (t_o k) idx with
    | some t => if n < 0 ∨ 60000000 < n.toNatClampNeg ∨ h.2.1.1 < 1 ∨ h.2.1.2 < n.toNatClampNeg then none else some (.ref h.1 :: r, mm_push h n.toNatClampNeg (.inr (t, n.toNatClampNeg, fun _ => .null)))
    | none => none
  | _, _, _ => none
/-- one instruction that stays in the method -/
def mm_step (k d : Nat) (i : Instr) (len pc : Nat) (lv : mm_L) (st : List Value) (h : mm_H) : Option (Nat × mm_L × List Value × mm_H) :=
  match mm_load lv i len with
  | some v => some (pc + len, lv, v :: st, h)
  | none => match mm_store (t_nl k) lv i len st with
    | some (lv', st') => some (pc + len, lv', st', h)
    | none => match mm_arith i len st with
      | some st' => some (pc + len, lv, st', h)
      | none => match mm_stack i len st with
        | some st' => some (pc + len, lv, st', h)
        | none => match mm_jump pc i len st with
          | some (pc', st') => some (pc', lv, st', h)
          | none => match mm_rd h i len st with
            | some st' => some (pc + len, lv, st', h)
            | none => match mm_wr h i len st with
              | some (st', h') => some (pc + len, lv, st', h')
              | none => match mm_fa k d i len st h with
                | some (st', h') => some (pc + len, lv, st', h')
                | none => none
/-- what a return instruction answers -/
def mm_ret (rt : Option FieldType) (i : Instr) (len : Nat) (st : List Value) : Option (Option Value) :=
  match rt, i, len, st with
  | some .int, .ireturn, 1, [.int x] => some (some (.int x))
  | some .boolean, .ireturn, 1, [.int x] => cond (x == 0 || x == 1) (some (some (.int x))) none
  | some .long, .lreturn, 1, [.long x] => some (some (.long x))
  | some (.object _), .areturn, 1, [.ref a] => some (some (.ref a))
  | none, .return_, 1, [] => some none
  | _, _, _, _ => none
/-- 'throw new X("..")': the class's number, the heap with the new object -/
def mm_thr (k d pc : Nat) (i : Instr) (len : Nat) (st : List Value) (h : mm_H) : Option (Nat × mm_H) :=
  match i, len with
  | .new idx, 3 => match t_exc (t_o k) idx, t_cod k (pc + 3), t_cod k (pc + 4), t_cod k (pc + 6), t_cod k (pc + 9) with
    | some x, some (.dup, 1), some (.ldc si, 2), some (.invokespecial ic, 3), some (.athrow, 1) =>
      cond (Nat.ble (mm_w st) 12 && (t_str (t_o k) si && (t_ctr (t_o k) ic x && (Nat.beq (t_hh k).length 0 && (Nat.ble 6 d && (Nat.ble 1 h.2.1.1 && Nat.ble 6 h.2.1.2)))))) (some (x, mm_push h 6 (.inl (x, [])))) none
    | _, _, _, _, _ => none
  | _, _ => none
def mm_split : Nat → List Value → Option (List Value × List Value)
  | 0, st => some ([], st)
  | _ + 1, [] => none
  | n + 1, v :: st => match mm_split n st with
    | some (as, r) => some (as ++ [v], r)
    | none => none
/-- a call: the callee, its arguments, the stack below -/
def mm_inv (k : Nat) (i : Instr) (len : Nat) (st : List Value) (h : mm_H) : Option (Nat × List Value × List Value) :=
  match i, len with
  | .invokestatic idx, 3 => match t_mth (t_o k) idx with
    | some (k', np, 0) => match mm_split np st with
      | some (as, r) => cond (Nat.ble (mm_w r) 12 && Nat.ble (lg_sl as).length (t_nl k')) (some (k', as, r)) none
      | none => none
    | _ => none
  | .invokevirtual idx, 3 => match t_mth (t_o k) idx with
    | some (k', np, 1) => match mm_split np st with
      | some (as, .ref b :: r) => match h.2.2 b with
        | some (.inl (ci, _)) => cond (Nat.beq ci (t_rc k') && (Nat.ble (mm_w r) 12 && Nat.ble (lg_sl (.ref b :: as)).length (t_nl k'))) (some (k', .ref b :: as, r)) none
        | _ => none
      | _ => none
    | _ => none
  | .invokespecial idx, 3 => match t_mth (t_o k) idx with
    | some (k', np, 2) => match mm_split np st with
      | some (as, .ref b :: r) => cond (Nat.ble (mm_w r) 12 && Nat.ble (lg_sl (.ref b :: as)).length (t_nl k')) (some (k', .ref b :: as, r)) none
      | _ => none
    | _ => none
  | _, _ => none
def mm_find : List (Nat × Nat × Nat × Nat) → Nat → Nat → Option Nat
  | [], _, _ => none
  | (a, b, t, x) :: r, pc, y => cond (Nat.ble a pc && (Nat.ble (pc + 1) b && Nat.beq x y)) (some t) (mm_find r pc y)
def mm_exec : Nat → Nat → Nat → Nat → mm_L → List Value → mm_H → Option (mm_O × mm_H)
  | 0, _, _, _, _, _, _ => none
  | n + 1, d, k, pc, lv, st, h => match t_cod k pc with
    | none => none
    | some (i, len) => match mm_step k d i len pc lv st h with
      | some (pc', lv', st', h') => mm_exec n d k pc' lv' st' h'
      | none => match mm_ret (t_rt k) i len st with
        | some v => some (.inl v, h)
        | none => match mm_thr k d pc i len st h with
          | some (x, h') => some (.inr (x, h.1), h')
          | none => match mm_inv k i len st h with
            | none => none
            | some (k', as, rest) => match d with
              | 0 => none
              | d' + 1 => match mm_exec n d' k' 0 (lv_args 0 as) [] h with
                | none => none
                | some (.inl v, h') => mm_exec n (d' + 1) k (pc + len) lv (v.toList ++ rest) h'
                | some (.inr x, h') => match mm_find (t_hx k) pc x.1 with
                  | some pc' => mm_exec n (d' + 1) k pc' lv [.ref x.2] h'
                  | none => cond (Nat.beq (t_hh k).length 0) (some (.inr x, h')) none
end
section
set_option maxRecDepth 20000 in
theorem tb_oa5 : ∀ w ∈ Bundle.ownAtoms "TrusteeDesk" 140 "java/lang/IllegalArgumentException" ["java/lang/RuntimeException", "java/lang/Exception"], w ∈ tb_Ts ∨ w = .isRef (.static "java/lang/Throwable" "UNASSIGNED_STACK" "[Ljava/lang/StackTraceElement;") ∨ w = .isRef (.static "java/lang/Throwable" "SUPPRESSED_SENTINEL" "Ljava/util/List;") ∨ w = .laysStatic "java/lang/Throwable" "UNASSIGNED_STACK" "[Ljava/lang/StackTraceElement;" ∨ w = .laysStatic "java/lang/Throwable" "SUPPRESSED_SENTINEL" "Ljava/util/List;" := by decide +kernel
theorem tb_ft5 : Bundle.fit "java/lang/IllegalArgumentException" = true := by decide +kernel
set_option maxRecDepth 20000 in
theorem tb_oa8 : ∀ w ∈ Bundle.ownAtoms "TrusteeDesk" 48 "java/lang/UnsupportedOperationException" ["java/lang/RuntimeException", "java/lang/Exception"], w ∈ tb_Ts ∨ w = .isRef (.static "java/lang/Throwable" "UNASSIGNED_STACK" "[Ljava/lang/StackTraceElement;") ∨ w = .isRef (.static "java/lang/Throwable" "SUPPRESSED_SENTINEL" "Ljava/util/List;") ∨ w = .laysStatic "java/lang/Throwable" "UNASSIGNED_STACK" "[Ljava/lang/StackTraceElement;" ∨ w = .laysStatic "java/lang/Throwable" "SUPPRESSED_SENTINEL" "Ljava/util/List;" := by decide +kernel
theorem tb_ft8 : Bundle.fit "java/lang/UnsupportedOperationException" = true := by decide +kernel
set_option maxRecDepth 20000 in
theorem tb_oa6 : ∀ w ∈ Bundle.ownAtoms "TrusteeDesk" 72 "java/lang/IllegalStateException" ["java/lang/RuntimeException", "java/lang/Exception"], w ∈ tb_Ts ∨ w = .isRef (.static "java/lang/Throwable" "UNASSIGNED_STACK" "[Ljava/lang/StackTraceElement;") ∨ w = .isRef (.static "java/lang/Throwable" "SUPPRESSED_SENTINEL" "Ljava/util/List;") ∨ w = .laysStatic "java/lang/Throwable" "UNASSIGNED_STACK" "[Ljava/lang/StackTraceElement;" ∨ w = .laysStatic "java/lang/Throwable" "SUPPRESSED_SENTINEL" "Ljava/util/List;" := by decide +kernel
theorem tb_ft6 : Bundle.fit "java/lang/IllegalStateException" = true := by decide +kernel
set_option maxRecDepth 20000 in
theorem tb_oa7 : ∀ w ∈ Bundle.ownAtoms "TrusteeDesk" 227 "java/lang/IndexOutOfBoundsException" ["java/lang/RuntimeException", "java/lang/Exception"], w ∈ tb_Ts ∨ w = .isRef (.static "java/lang/Throwable" "UNASSIGNED_STACK" "[Ljava/lang/StackTraceElement;") ∨ w = .isRef (.static "java/lang/Throwable" "SUPPRESSED_SENTINEL" "Ljava/util/List;") ∨ w = .laysStatic "java/lang/Throwable" "UNASSIGNED_STACK" "[Ljava/lang/StackTraceElement;" ∨ w = .laysStatic "java/lang/Throwable" "SUPPRESSED_SENTINEL" "Ljava/util/List;" := by decide +kernel
theorem tb_ft7 : Bundle.fit "java/lang/IndexOutOfBoundsException" = true := by decide +kernel
theorem tb_ftn : ∀ n ∈ (["java/lang/RuntimeException", "java/lang/Exception"] : List String), Bundle.fit n = true := by decide +kernel
theorem tb_thr {o idx x ic : Nat} (h : t_exc o idx = some x) (hc : t_ctr o ic x = true) : ∃ (Cn : String) (Tn : u_T) (names : List String), t_cl[x]? = some (Cn, Tn, 0) ∧ Bundle.fit Cn = true ∧ (∀ n ∈ names, Bundle.fit n = true) ∧ names.length ≤ 2 ∧
    (∀ w ∈ Bundle.ownAtoms (t_on o) ic Cn names, w ∈ tb_Ts ∨ w = .isRef (.static "java/lang/Throwable" "UNASSIGNED_STACK" "[Ljava/lang/StackTraceElement;") ∨ w = .isRef (.static "java/lang/Throwable" "SUPPRESSED_SENTINEL" "Ljava/util/List;") ∨ w = .laysStatic "java/lang/Throwable" "UNASSIGNED_STACK" "[Ljava/lang/StackTraceElement;" ∨ w = .laysStatic "java/lang/Throwable" "SUPPRESSED_SENTINEL" "Ljava/util/List;") ∧ Cond.classLink (t_on o) idx Cn ∈ tb_Ts ∧ Cond.initialized Cn ∈ tb_Ts := by
  unfold t_exc at h
  split at h
  · cases h
    unfold t_ctr at hc
    split at hc
    · exact ⟨"java/lang/IllegalArgumentException", F_x, ["java/lang/RuntimeException", "java/lang/Exception"], rfl, tb_ft5, tb_ftn, by decide, tb_oa5, tb_in (i := 116) (by decide +kernel) rfl, tb_in (i := 7) (by decide +kernel) rfl⟩
    · rename_i hz; exact absurd hz (by decide)
    · rename_i hz; exact absurd hz (by decide)
    · rename_i hz; exact absurd hz (by decide)
    · cases hc
  · cases h
    unfold t_ctr at hc
    split at hc
    · rename_i hz; exact absurd hz (by decide)
    · exact ⟨"java/lang/UnsupportedOperationException", F_x, ["java/lang/RuntimeException", "java/lang/Exception"], rfl, tb_ft8, tb_ftn, by decide, tb_oa8, tb_in (i := 190) (by decide +kernel) rfl, tb_in (i := 8) (by decide +kernel) rfl⟩
    · rename_i hz; exact absurd hz (by decide)
    · rename_i hz; exact absurd hz (by decide)
    · cases hc
  · cases h
    unfold t_ctr at hc
    split at hc
    · rename_i hz; exact absurd hz (by decide)
    · rename_i hz; exact absurd hz (by decide)
    · exact ⟨"java/lang/IllegalStateException", F_x, ["java/lang/RuntimeException", "java/lang/Exception"], rfl, tb_ft6, tb_ftn, by decide, tb_oa6, tb_in (i := 210) (by decide +kernel) rfl, tb_in (i := 9) (by decide +kernel) rfl⟩
    · rename_i hz; exact absurd hz (by decide)
    · cases hc
  · cases h
    unfold t_ctr at hc
    split at hc
    · rename_i hz; exact absurd hz (by decide)
    · rename_i hz; exact absurd hz (by decide)
    · rename_i hz; exact absurd hz (by decide)
    · exact ⟨"java/lang/IndexOutOfBoundsException", F_x, ["java/lang/RuntimeException", "java/lang/Exception"], rfl, tb_ft7, tb_ftn, by decide, tb_oa7, tb_in (i := 281) (by decide +kernel) rfl, tb_in (i := 11) (by decide +kernel) rfl⟩
    · cases hc
  · cases h
theorem mm_str {own tx : String} {si : Nat} {s : State} (h : (Cond.stringRef own si tx).before #[] s = true) : ∃ sa, vk_R own si tx sa s := by
  cases hc : s.vm.findClass own with
  | none => simp [Cond.before, Cond.holds, Cond.value, hc] at h
  | some cur =>
    obtain ⟨k, cf, i, a, -, -, -, -, -, he⟩ := Cond.stringRef_spec (first := s) (o := none) (idx := []) hc h
    exact ⟨a, h, he⟩
theorem tb_strs {o si : Nat} (h : t_str o si = true) {s : State} (hwd : mm_Wd s) : ∃ tx sa, vk_R (t_on o) si tx sa s := by
  unfold t_str at h
  split at h
  · exact ⟨"there is no such rank", mm_str (hwd.1 _ (tb_in (i := 158) (by decide +kernel) rfl) #[])⟩
  · exact ⟨"no such cents", mm_str (hwd.1 _ (tb_in (i := 189) (by decide +kernel) rfl) #[])⟩
  · exact ⟨"there are 60 claims", mm_str (hwd.1 _ (tb_in (i := 199) (by decide +kernel) rfl) #[])⟩
  · exact ⟨"all is at its end", mm_str (hwd.1 _ (tb_in (i := 219) (by decide +kernel) rfl) #[])⟩
  · exact ⟨"there is no such claim", mm_str (hwd.1 _ (tb_in (i := 290) (by decide +kernel) rfl) #[])⟩
  · exact ⟨"the claim is out, or not fresh", mm_str (hwd.1 _ (tb_in (i := 301) (by decide +kernel) rfl) #[])⟩
  · exact ⟨"there are 20 assets", mm_str (hwd.1 _ (tb_in (i := 309) (by decide +kernel) rfl) #[])⟩
  · exact ⟨"there is no such asset", mm_str (hwd.1 _ (tb_in (i := 343) (by decide +kernel) rfl) #[])⟩
  · exact ⟨"the asset has 4 securities", mm_str (hwd.1 _ (tb_in (i := 344) (by decide +kernel) rfl) #[])⟩
  · exact ⟨"the asset or the claim does not allow a security", mm_str (hwd.1 _ (tb_in (i := 349) (by decide +kernel) rfl) #[])⟩
  · exact ⟨"the asset is realised, or a claim in it is contested", mm_str (hwd.1 _ (tb_in (i := 365) (by decide +kernel) rfl) #[])⟩
  · exact ⟨"the claim is not admitted, or not fresh", mm_str (hwd.1 _ (tb_in (i := 414) (by decide +kernel) rfl) #[])⟩
  · exact ⟨"the cents are below 0, or above the amount", mm_str (hwd.1 _ (tb_in (i := 422) (by decide +kernel) rfl) #[])⟩
  · exact ⟨"the claim is not contested", mm_str (hwd.1 _ (tb_in (i := 423) (by decide +kernel) rfl) #[])⟩
  · exact ⟨"the cash has less", mm_str (hwd.1 _ (tb_in (i := 431) (by decide +kernel) rfl) #[])⟩
  · exact ⟨"the percentage is not 1 .. 10000", mm_str (hwd.1 _ (tb_in (i := 439) (by decide +kernel) rfl) #[])⟩
  · exact ⟨"not above the rank's, or a rank before it is not whole", mm_str (hwd.1 _ (tb_in (i := 444) (by decide +kernel) rfl) #[])⟩
  · exact ⟨"an asset is not realised", mm_str (hwd.1 _ (tb_in (i := 483) (by decide +kernel) rfl) #[])⟩
  · exact ⟨"nothing else is told of a claim", mm_str (hwd.1 _ (tb_in (i := 514) (by decide +kernel) rfl) #[])⟩
  · exact ⟨"no such entry is kept", mm_str (hwd.1 _ (tb_in (i := 533) (by decide +kernel) rfl) #[])⟩
  · exact ⟨"nothing else is told of an entry", mm_str (hwd.1 _ (tb_in (i := 534) (by decide +kernel) rfl) #[])⟩
  · cases h
def mm_hrel (o : Nat) : List (Nat × Nat × Nat × Nat) → List (Nat × Nat × Nat × Nat) → Prop
  | [], [] => True
  | (a, b, t, i) :: r, (a', b', t', x) :: r' => a = a' ∧ b = b' ∧ t = t' ∧ i ≠ 0 ∧ (∃ q : vw_C, t_cl[x]? = some q ∧ Cond.classLink (t_on o) i q.1 ∈ tb_Ts) ∧ mm_hrel o r r'
  | _, _ => False
theorem mm_hrel_map : ∀ hh : List (Nat × Nat × Nat × Nat), (∀ q ∈ hh, q.2.2.2 = 13 ∨ q.2.2.2 = 15 ∨ q.2.2.2 = 17 ∨ q.2.2.2 = 23) → mm_hrel 5 hh (hh.map (fun q => (q.1, q.2.1, q.2.2.1, t_hc q.2.2.2)))
  | [], _ => trivial
  | (a, b, t, i) :: r, h => by
    have hr := mm_hrel_map r (fun q hq => h q (List.mem_cons_of_mem _ hq))
    rcases h _ List.mem_cons_self with e | e | e | e
    · cases e; exact ⟨rfl, rfl, rfl, by decide, ⟨_, rfl, tb_in (i := 106) (by decide +kernel) rfl⟩, hr⟩
    · cases e; exact ⟨rfl, rfl, rfl, by decide, ⟨_, rfl, tb_in (i := 107) (by decide +kernel) rfl⟩, hr⟩
    · cases e; exact ⟨rfl, rfl, rfl, by decide, ⟨_, rfl, tb_in (i := 108) (by decide +kernel) rfl⟩, hr⟩
    · cases e; exact ⟨rfl, rfl, rfl, by decide, ⟨_, rfl, tb_in (i := 272) (by decide +kernel) rfl⟩, hr⟩
theorem tb_h1 : ∀ k, k < 111 → (t_hh k = [] ∨ t_o k = 5) ∧ ∀ q ∈ t_hh k, q.2.2.2 = 13 ∨ q.2.2.2 = 15 ∨ q.2.2.2 = 17 ∨ q.2.2.2 = 23 := by decide +kernel
theorem tb_hx (k : Nat) : mm_hrel (t_o k) (t_hh k) (t_hx k) := by
  by_cases hk : k < 111
  · obtain ⟨h1, h2⟩ := tb_h1 k hk
    unfold t_hx
    rcases h1 with h1 | h1
    · rw [h1]; exact trivial
    · rw [h1]; exact mm_hrel_map _ h2
  · have h0 : t_hh k = [] := by
      unfold t_hh
      rw [List.getD_eq_getElem?_getD, List.getElem?_eq_none (by show 111 ≤ k; omega)]
      rfl
    unfold t_hx
    rw [h0]
    exact trivial
theorem t_hc5 (i : Nat) : 5 ≤ t_hc i := by
  unfold t_hc
  split <;> omega
theorem tb_hxs (k : Nat) : ∀ q ∈ t_hx k, 5 ≤ q.2.2.2 := by
  intro q hq
  obtain ⟨q0, -, rfl⟩ := List.mem_map.mp hq
  exact t_hc5 _
theorem mm_find5 : ∀ (L : List (Nat × Nat × Nat × Nat)) (pc x pc' : Nat), (∀ q ∈ L, 5 ≤ q.2.2.2) → mm_find L pc x = some pc' → 5 ≤ x
  | [], pc, x, pc', _, h => by cases h
  | (a, b, t, y) :: r, pc, x, pc', h5, h => by
    unfold mm_find at h
    cases hb : (Nat.ble a pc && (Nat.ble (pc + 1) b && Nat.beq y x)) with
    | true =>
      simp only [Bool.and_eq_true] at hb
      have e := Nat.eq_of_beq_eq_true hb.2.2
      subst e
      exact h5 _ List.mem_cons_self
    | false =>
      rw [hb] at h
      exact mm_find5 r pc x pc' (fun q hq => h5 q (List.mem_cons_of_mem _ hq)) h
theorem tb_hx5 {k pc x pc' : Nat} (h : mm_find (t_hx k) pc x = some pc') : 5 ≤ x := mm_find5 _ _ _ _ (tb_hxs k) h
theorem tb_apart {D : va_G} {aC : Nat → ClassId} {s : State} (hK : mm_Kn D aC t_cl s) (hwd : mm_Wd s) : ∀ x y : Nat, 5 ≤ x → x ≠ y → x < t_cl.length → y < t_cl.length → 5 ≤ y → s.vm.assignable (D.1 x) (D.1 y) = false := by
  intro x y hx hxy hxl hyl hy
  have hxl : x < 9 := hxl
  have hyl : y < 9 := hyl
  have key : ∀ (a b : Nat) (A B : String) (TA TB : u_T), t_cl[a]? = some (A, TA, 0) → t_cl[b]? = some (B, TB, 0) → (A, B) ∈ tb_nc → s.vm.assignable (D.1 a) (D.1 b) = false := by
    intro a b A B TA TB ha hb hm
    obtain ⟨c, t, h1, h2, h3⟩ := hwd.2 _ hm
    have e1 := Option.some.inj ((hK.1 a _ ha).2.1.symm.trans h1)
    have e2 := Option.some.inj ((hK.1 b _ hb).2.1.symm.trans h2)
    rw [e1, e2]
    exact h3
  rcases (show x = 5 ∨ x = 6 ∨ x = 7 ∨ x = 8 by omega) with rfl | rfl | rfl | rfl <;> rcases (show y = 5 ∨ y = 6 ∨ y = 7 ∨ y = 8 by omega) with rfl | rfl | rfl | rfl <;>
    first | exact absurd rfl hxy | exact key _ _ _ _ _ _ rfl rfl (by decide +kernel)
end
section
/-- what a walk of the method k, entered with the budget z at depth d, rests on -/
def mm_Cx (p : Program) (D : va_G) (aC : Nat → ClassId) (H0 : Heap) (R : Room) (s : State) (m : MethodId) (meth : Method) (c : Code) (d k : Nat) (z : Nat × Nat) : Prop :=
  p.tables.exec = Jvm.exec ∧ mm_Wd s ∧ mm_Kn D aC t_cl s ∧ mm_Mt (t_y k) (t_b k) (t_nl k) (t_rt k) (t_hh k) s m meth c ∧ d ≤ R.frames ∧ 36 * d ≤ R.locals ∧ z.1 ≤ R.cells ∧ z.2 ≤ R.slots ∧ mm_Zs s H0
/-- where a walk stands: the mini machine's heap lies in the machine's, what has been made is what the budget lost -/
def mm_Ok (D : va_G) (aC : Nat → ClassId) (H0 : Heap) (z : Nat × Nat) (h : mm_H) (H : Heap) (locs : List Loc) (cells slots : Nat) : Prop :=
  mm_emb D aC t_cl H0 h H ∧ (∀ q ∈ locs, H0.size ≤ q.base) ∧ h.2.1.1 ≤ z.1 ∧ h.2.1.2 ≤ z.2 ∧ cells = z.1 - h.2.1.1 ∧ slots = z.2 - h.2.1.2
end
section
section MMS
variable {p : Program} {l : Launch} {e : Env} {R : Room} {s : State} {m : MethodId} {args : Array Value} {below : List Frame} {meth : Method} {c : Code} {H : Heap} {locs : List Loc} {cells slots : Nat} {Q : State → Prop}
variable {pc len d k : Nat} {ls : Array Slot} {st st' : List Value} {i : Instr} {D : va_G} {aC : Nat → ClassId} {H0 : Heap} {h h' : mm_H} {z : Nat × Nat} {lv lv' : mm_L}
theorem mm_Cx.own (C : mm_Cx p D aC H0 R s m meth c d k z) : s.vm.findClass (t_on (t_o k)) = some m.cls := by
  have h1 := findClass_of_methodNamed C.2.2.2.1.1
  rw [tb_on] at h1
  exact h1
theorem mm_Cx.hts (C : mm_Cx p D aC H0 R s m meth c d k z) : ∀ w ∈ tb_Ts, w.before args s = true := fun w hw => C.2.1.1 w hw args
set_option maxHeartbeats 8000000 in
theorem mm_fa_W (C : mm_Cx p D aC H0 R s m meth c d k z) (O : mm_Ok D aC H0 z h H locs cells slots) (hsz : ls.size = t_nl k) (hd : decode (t_b k) pc = .ok (i, len)) (hr : mm_fa k d i len st h = some (st', h'))
    (kk : ∀ (H1 : Heap) (L : List Loc) (cells' slots' : Nat), mm_Ok D aC H0 z h' H1 (locs ++ L) cells' slots' → W p l e R s m args below meth c H1 (locs ++ L) cells' slots' Q (F0 m (pc + len) ls st')) :
    W p l e R s m args below meth c H locs cells slots Q (F0 m pc ls st) := by
  have hown := C.own
  have hts := C.hts (args := args)
  obtain ⟨hx, -, hK, ⟨hnm, hme, hco, hb, hml, hrt, hlk, hhh, hsig⟩, hRf, hRl, hRc, hRs, -⟩ := id C
  obtain ⟨hE, hL, hz1, hz2, ec, es⟩ := O
  have kk0 : ∀ st2 : List Value, (st2, h) = (st', h') → W p l e R s m args below meth c H locs cells slots Q (F0 m (pc + len) ls st') := by
    intro st2 e2
    cases e2
    have := kk H [] cells slots (by rw [List.append_nil]; exact ⟨hE, hL, hz1, hz2, ec, es⟩)
    rw [List.append_nil] at this
    exact this
  unfold mm_fa at hr
  split at hr
  · split at hr
    · rename_i ci j ci' fs hf ha
      obtain ⟨h1, h2⟩ := mm_cond2 hr
      have e1 := Nat.eq_of_beq_eq_true h1
      subst e1
      cases hv : fs[j]? with
      | none => rw [hv] at h2; cases h2
      | some v =>
        rw [hv] at h2
        have e3 := Option.some.inj h2
        obtain ⟨Cn, T, N, hc, hk, hlink⟩ := tb_fld hf
        have e4 := kk0 _ e3
        cases e3
        exact mm_getf_W hx hb hts hown hK hE hc (tb_cl hc).1 hk hlink ha hv hd e4
    · cases hr
  · split at hr
    · rename_i ci j ci' fs hf ha
      obtain ⟨h1, h2⟩ := mm_cond2 hr
      simp only [Bool.and_eq_true] at h1
      obtain ⟨h1, h3, h4, h5⟩ := h1
      have e1 := Nat.eq_of_beq_eq_true h1
      subst e1
      obtain ⟨Cn, T, N, hc, hk, hlink⟩ := tb_fld hf
      cases Option.some.inj h2
      refine mm_putf_W hx hb hts hown hK hE hc (tb_cl hc).1 (t_ct ci') (tb_cl hc).2.1 (tb_cl hc).2.2.1 hk hlink (fun hfin => ?_) ha (Nat.le_of_ble_eq_true h4) h3 hd (fun H1 L hE1 hL1 => ?_)
      · have h6 := tb_fin hc hk
        rw [hfin] at h6
        rw [h6] at h5
        obtain ⟨h7, h8⟩ := tb_ini hc hk (by simpa using h5)
        exact ⟨(name_of_methodNamed hnm hme).1.trans h7, h8⟩
      · exact kk H1 L cells slots ⟨hE1, fun q hq => (List.mem_append.mp hq).elim (hL q) (hL1 q), hz1, hz2, ec, es⟩
    · cases hr
  · split at hr
    · rename_i x hcx
      have e3 := Option.some.inj hr
      have e4 := kk0 _ e3
      cases e3
      exact lv_ldc hx hb hown (hts _ (tb_ci hcx)) hd e4
    · cases hr
  · split at hr
    · rename_i x hcx
      have e3 := Option.some.inj hr
      have e4 := kk0 _ e3
      cases e3
      exact lv_ldc2 hx hb hown (hts _ (tb_cj hcx)) hd e4
    · cases hr
  · obtain ⟨h1, h2⟩ := mm_cond2 hr
    simp only [Bool.and_eq_true] at h1
    obtain ⟨h1, h3, h4⟩ := h1
    have e3 := Option.some.inj h2
    have e4 := kk0 _ e3
    cases e3
    have h5 := mm_sum12 h4
    have h6 : 1 ≤ d := Nat.le_of_ble_eq_true h3
    refine W.objInit hx hb hown (hts _ (tb_obi h1)) (hts _ tb_ob1) (hts _ tb_ob2) rfl (by rw [hml]; exact hsz) rfl hd (by omega) ?_ e4
    show 2 * 0 + _ + 12 ≤ _
    omega
  · split at hr
    · rename_i hm
      obtain ⟨h1, h2⟩ := mm_cond2 hr
      simp only [Bool.and_eq_true] at h1
      have e3 := Option.some.inj h2
      have e4 := kk0 _ e3
      cases e3
      have h5 := mm_sum12 h1.2
      have h6 : 1 ≤ d := Nat.le_of_ble_eq_true h1.1
      exact va_mmax_long hx hb (by rw [hml]; exact hsz.symm) hown (hts _ (tb_mx1 hm)) (hts _ tb_mxs) (hts _ tb_mxi) (hts _ tb_mxc) (by omega) (by omega) (by omega) (by omega) hd e4
    · rename_i hm
      obtain ⟨h1, h2⟩ := mm_cond2 hr
      simp only [Bool.and_eq_true] at h1
      have e3 := Option.some.inj h2
      have e4 := kk0 _ e3
      cases e3
      have h5 := mm_sum12 h1.2
      have h6 : 1 ≤ d := Nat.le_of_ble_eq_true h1.1
      exact va_mmin_long hx hb (by rw [hml]; exact hsz.symm) hown (hts _ (tb_mn1 hm)) (hts _ tb_mns) (hts _ tb_mxi) (hts _ tb_mnc) (by omega) (by omega) (by omega) (by omega) hd e4
    · cases hr
  · split at hr
    · rename_i ci hcl
      obtain ⟨h1, h2⟩ := mm_cond2 hr
      simp only [Bool.and_eq_true] at h1
      have h3 : 1 ≤ h.2.1.1 := Nat.le_of_ble_eq_true h1.1
      have h4 : t_N ci ≤ h.2.1.2 := Nat.le_of_ble_eq_true h1.2
      cases Option.some.inj h2
      obtain ⟨Cn, T, hc, hl1, hl2, hl3⟩ := tb_cls hcl
      refine mm_new_W hx hb hts hown hK hE hc (tb_cl hc).1 (t_ct ci) (tb_cl hc).2.1 (tb_cl hc).2.2.2 hl1 hl2 hl3 (by omega) (by omega) hd (fun H1 hE1 => ?_)
      have := kk H1 [] (cells + 1) (slots + t_N ci) (by rw [List.append_nil]; exact ⟨hE1, hL, by show h.2.1.1 - 1 ≤ _; omega, by show h.2.1.2 - _ ≤ _; omega, by show _ = z.1 - (h.2.1.1 - 1); omega, by show _ = z.2 - (h.2.1.2 - _); omega⟩)
      rw [List.append_nil] at this
      exact this
    · cases hr
  · split at hr
    · rename_i nn rr xx t ht
      split at hr
      · cases hr
      · rename_i hn
        cases Option.some.inj hr
        obtain ⟨ht1, ht2, ht3⟩ := tb_at ht
        refine mm_newa_W hx hb hts hK hE ht1 ht2 ht3 (fun q => hn (Or.inl q)) rfl (by omega) (by omega) (by omega) hd (fun H1 hE1 => ?_)
        have := kk H1 [] (cells + 1) (slots + nn.toNatClampNeg) (by rw [List.append_nil]; exact ⟨hE1, hL, by show h.2.1.1 - 1 ≤ _; omega, by show h.2.1.2 - _ ≤ _; omega, by show _ = z.1 - (h.2.1.1 - 1); omega, by show _ = z.2 - (h.2.1.2 - _); omega⟩)
        rw [List.append_nil] at this
        exact this
    · cases hr
  · split at hr
    · rename_i nn rr xx t ht
      split at hr
      · cases hr
      · rename_i hn
        cases Option.some.inj hr
        obtain ⟨Cn, ht1, ht2, ht3, ht4⟩ := tb_ary ht
        refine mm_anew_W hx hb hts hown hK hE ht1 ht2 ht3 ht4 (fun q => hn (Or.inl q)) rfl (by omega) (by omega) (by omega) hd (fun H1 hE1 => ?_)
        have := kk H1 [] (cells + 1) (slots + nn.toNatClampNeg) (by rw [List.append_nil]; exact ⟨hE1, hL, by show h.2.1.1 - 1 ≤ _; omega, by show h.2.1.2 - _ ≤ _; omega, by show _ = z.1 - (h.2.1.1 - 1); omega, by show _ = z.2 - (h.2.1.2 - _); omega⟩)
        rw [List.append_nil] at this
        exact this
    · cases hr
  · cases hr
set_option maxHeartbeats 4000000 in
theorem mm_step_W {pc' : Nat} (C : mm_Cx p D aC H0 R s m meth c d k z) (O : mm_Ok D aC H0 z h H locs cells slots) (hl : lv_has ls (t_nl k) lv) (hd : decode (t_b k) pc = .ok (i, len)) (hr : mm_step k d i len pc lv st h = some (pc', lv', st', h'))
    (kk : ∀ (ls' : Array Slot) (H1 : Heap) (L : List Loc) (cells' slots' : Nat), lv_has ls' (t_nl k) lv' → mm_Ok D aC H0 z h' H1 L cells' slots' → W p l e R s m args below meth c H1 L cells' slots' Q (F0 m pc' ls' st')) :
    W p l e R s m args below meth c H locs cells slots Q (F0 m pc ls st) := by
  obtain ⟨hx, -, hK, ⟨-, -, -, hb, -⟩, -⟩ := id C
  unfold mm_step at hr
  split at hr
  · rename_i v h1
    cases hr
    exact mm_load_W hx hb hl hd h1 (kk ls H locs cells slots hl O)
  · split at hr
    · rename_i lv2 st2 h1
      cases hr
      exact mm_store_W hx hb hl hd h1 (fun ls' hl' => kk ls' H locs cells slots hl' O)
    · split at hr
      · rename_i st2 h1
        cases hr
        exact mm_arith_W hx hb hd h1 (kk ls H locs cells slots hl O)
      · split at hr
        · rename_i st2 h1
          cases hr
          exact mm_stack_W hx hb hd h1 (kk ls H locs cells slots hl O)
        · split at hr
          · rename_i pc2 st2 h1
            cases hr
            exact mm_jump_W hx hb hd h1 (kk ls H locs cells slots hl O)
          · split at hr
            · rename_i st2 h1
              cases hr
              exact mm_rd_W hx hb hK O.1 hd h1 (kk ls H locs cells slots hl O)
            · split at hr
              · rename_i st2 h2 h1
                cases hr
                refine mm_wr_W hx hb hK O.1 tb_c1 tb_c2 rfl rfl hd h1 (fun H1 L hE1 hL1 => kk ls H1 (locs ++ L) cells slots hl ?_)
                obtain ⟨hE, hL, hz1, hz2, ec, es⟩ := O
                have hbud := mm_wr_bud h1
                rw [← hbud] at hz1 hz2 ec es
                exact ⟨hE1, fun q hq => (List.mem_append.mp hq).elim (hL q) (hL1 q), hz1, hz2, ec, es⟩
              · split at hr
                · rename_i st2 h2 h1
                  cases hr
                  exact mm_fa_W C O hl.1 hd h1 (fun H1 L cells' slots' O' => kk ls H1 (locs ++ L) cells' slots' hl O')
                · cases hr
end MMS
end
section
section MMR
variable {p : Program} {l : Launch} {e : Env} {R : Room} {s : State} {m : MethodId} {args : Array Value} {below : List Frame} {meth : Method} {c : Code} {H : Heap} {locs : List Loc} {cells slots : Nat} {Q Q' : State → Prop}
variable {pc len d k : Nat} {ls : Array Slot} {st : List Value} {i : Instr} {D : va_G} {aC : Nat → ClassId} {H0 : Heap} {h : mm_H} {z : Nat × Nat}
theorem mm_mono {g : JFrame} (hq : ∀ t, Q t → Q' t) (kk : W p l e R s m args below meth c H locs cells slots Q g) : W p l e R s m args below meth c H locs cells slots Q' g := by
  intro T hT X
  obtain ⟨t, a, b⟩ := kk T hT X
  exact ⟨t, a, hq t b⟩
theorem mm_ret_W {v : Option Value} (C : mm_Cx p D aC H0 R s m meth c d k z) (O : mm_Ok D aC H0 z h H locs cells slots) (hd : decode (t_b k) pc = .ok (i, len)) (hr : mm_ret (t_rt k) i len st = some v) :
    W p l e R s m args below meth c H locs cells slots (mm_Res D aC t_cl H0 s below z (.inl v, h)) (F0 m pc ls st) := by
  obtain ⟨hx, -, hK, ⟨hnm, hme, hco, hb, hml, hrt, hlk, hhh, hsig⟩, -⟩ := id C
  obtain ⟨hE, hL, hz1, hz2, ec, es⟩ := O
  have key : ∀ v : Option Value, ∀ t, MQ below (fun _ _ o t => o = .returned v ∧ t.heap = H) args s cells slots (fun q => H0.size ≤ q) t → mm_Res D aC t_cl H0 s below z (.inl v, h) t := by
    rintro v t ⟨o, h1, h2, ⟨h3, h4⟩, L, ⟨-, h5, h6⟩, h7⟩
    subst h3
    exact ⟨h1, h2, h5, ⟨L, h7, by rw [← ec, ← es]; exact h6⟩, by rw [h4]; exact hE, trivial, hz1, hz2⟩
  generalize t_rt k = rt at hr hrt
  unfold mm_ret at hr
  split at hr
  · cases hr
    exact mm_mono (key _) (W.iret hx hb hrt (fun t ht _ => ⟨rfl, ht⟩) hL hd hlk)
  · obtain ⟨h1, h2⟩ := mm_cond2 hr
    cases h2
    exact mm_mono (key _) (W.zret hx hb hrt (mm_fit_ok (ty := .boolean) (v := .int _) h1).1 (fun t ht _ => ⟨rfl, ht⟩) hL hd hlk)
  · cases hr
    exact mm_mono (key _) (W.lret hx hb hrt (fun t ht _ => ⟨rfl, ht⟩) hL hd hlk)
  · cases hr
    exact mm_mono (key _) (W.aret hx hb hrt (Or.inl ⟨_, rfl⟩) (Or.inr ⟨_, rfl⟩) (fun t ht _ => ⟨rfl, ht⟩) hL hd hlk)
  · cases hr
    exact mm_mono (key _) (W.vret hx hb hrt (fun t ht _ => ⟨rfl, ht⟩) hL hd hlk)
  · cases hr
end MMR
end
section
section MMTH
variable {p : Program} {l : Launch} {e : Env} {R : Room} {s : State} {m : MethodId} {args : Array Value} {below : List Frame} {meth : Method} {c : Code} {T : State} {locs : List Loc} {cells slots : Nat}
/-- the walk begun anew where it stands: what has been made and written so far is past -/
theorem mm_restart (X : Stand p l e R s m args below meth c T locs cells slots) (hcl : cells + 1 ≤ R.cells) (hsl : slots + 6 ≤ R.slots) :
    Stand p l e { frames := R.frames, cells := 1, slots := 6, locals := R.locals } ((T.setVm s.vm).setFrames (.invoking m args :: below)) m args below meth c T [] 0 0 := by
  obtain ⟨g₀, hfr⟩ := X.frames_eq
  have hfr' : (T.setVm s.vm).frames = .java g₀ :: below := hfr
  obtain ⟨th, hth, -⟩ := State.frames_cons hfr'
  have hcur : (T.setVm s.vm).cur < (T.setVm s.vm).threads.size := State.cur_lt_of_frames hfr'
  have hf : ((T.setVm s.vm).setFrames (.invoking m args :: below)).frames = .invoking m args :: below := State.frames_setFrames _ hcur
  obtain ⟨th', hth', -⟩ := State.frames_cons hf
  have hlim : e.platform.stackLimits (T.setVm s.vm).me = e.platform.stackLimits s.me := X.limits
  have hbyt : (T.setVm s.vm).me.stackBytes = s.me.stackBytes := X.bytes
  refine ⟨X.admits, X.cas, X.clock, hf, ?_, X.hears, X.method, X.code, X.here, X.tail, X.warmed, ?_, ?_, ?_⟩
  · have hr := X.room
    have hU : ((T.setVm s.vm).setFrames (.invoking m args :: below)).localsInUse = s.localsInUse := by
      rw [State.localsInUse_invoking hf (meth := meth) (c := c) X.method X.code, State.localsInUse_invoking X.frames X.method X.code]
    simp only [State.hasRoom, Bool.and_eq_true, decide_eq_true_eq] at hr ⊢
    obtain ⟨⟨⟨⟨h1, h2, h3, h4, h5, h6⟩, h7⟩, h8⟩, h9⟩ := hr
    rw [X.frames, List.length_cons] at h2 h3
    have q1 := X.heapSize
    have q2 := X.used
    simp only [hf, hU, List.length_cons, State.stackLimits_setFrames, State.stackBytes_setFrames, hlim, hbyt]
    refine ⟨⟨⟨⟨h1, h2, h3, h4, h5, h6⟩, ?_⟩, ?_⟩, X.book⟩
    · show T.heap.size + 1 ≤ e.platform.maxCells
      omega
    · show T.slotsUsed + 6 ≤ e.platform.maxSlots
      omega
  · rw [State.stackLimits_setFrames]; rfl
  · rw [State.stackBytes_setFrames]; rfl
  · have h := (State.sameButNew.refl ((T.setVm s.vm).setFrames (.invoking m args :: below)) hth').setFrames (T.setVm s.vm).frames (State.cur_lt_of_frames hf)
    rw [State.setFrames_setFrames, State.setFrames_self hth] at h
    exact h
theorem mm_oldKept {s U : State} {k n : Nat} (h : s.sameButNew ({ U with vm := s.vm } : State) [] k n) : s.heap.size ≤ U.heap.size ∧ U.heap.size ≤ s.heap.size + k ∧ ∀ q : Nat, q < s.heap.size → U.heap[q]? = s.heap[q]? := by
  obtain ⟨-, h2, h3, -, -, h6⟩ := h
  refine ⟨h2, h3, fun q hq => ?_⟩
  obtain ⟨c9, e1, e2, e3, e4⟩ := h6 q _ (Array.getElem?_eq_getElem hq)
  have hs : c9.slots = (s.heap[q]).slots := Array.ext_getElem? fun i => e4 i (by simp)
  have h9 : c9 = s.heap[q] := by
    rw [hs] at e2
    exact e2
  have e5 : U.heap[q]? = some c9 := e1
  rw [e5, h9, Array.getElem?_eq_getElem hq]
variable {H : Heap} {pc len d k : Nat} {ls : Array Slot} {st : List Value} {i : Instr} {D : va_G} {aC : Nat → ClassId} {H0 : Heap} {h h' : mm_H} {z : Nat × Nat} {lv : mm_L}
set_option maxHeartbeats 4000000 in
theorem mm_thr_W {x : Nat} (hltr : l.stackTraces = false) (C : mm_Cx p D aC H0 R s m meth c d k z) (O : mm_Ok D aC H0 z h H locs cells slots) (hl : lv_has ls (t_nl k) lv) (hd : decode (t_b k) pc = .ok (i, len)) (hr : mm_thr k d pc i len st h = some (x, h')) :
    W p l e R s m args below meth c H locs cells slots (mm_Res D aC t_cl H0 s below z (.inr (x, h.1), h')) (F0 m pc ls st) := by
  have hown := C.own
  have hts := C.hts (args := args)
  obtain ⟨hx, hwd, hK, ⟨hnm, hme, hco, hb, hml, hrt, hlk, hhh, hsig⟩, hRf, hRl, hRc, hRs, hZ⟩ := id C
  obtain ⟨hE, hL, hz1, hz2, ec, es⟩ := O
  unfold mm_thr at hr
  split at hr
  · rename_i idx
    split at hr
    · rename_i x' si ic hxc d3 d4 d6 d9
      obtain ⟨g1, g2⟩ := mm_cond2 hr
      simp only [Bool.and_eq_true] at g1
      obtain ⟨g0, g3, g4, g5, g6, g7, g8⟩ := g1
      cases Option.some.inj g2
      have g6 : 6 ≤ d := Nat.le_of_ble_eq_true g6
      have g7 : 1 ≤ h.2.1.1 := Nat.le_of_ble_eq_true g7
      have g8 : 6 ≤ h.2.1.2 := Nat.le_of_ble_eq_true g8
      have hh2 : t_hh k = [] := List.eq_nil_of_length_eq_zero (Nat.eq_of_beq_eq_true g5)
      have hh3 : c.exceptionTable.toList = [] := by
        rw [hh2] at hhh
        exact List.map_eq_nil_iff.mp hhh
      obtain ⟨Cn, Tn, names, hcl, hfitC, hfitN, hnl, hats, hlk1, hlk2⟩ := tb_thr hxc g4
      obtain ⟨tx, sa, hstr⟩ := tb_strs g3 hwd
      intro T hT X
      subst hT
      have htr : e.platform.stackTraces = false := (show e.platform.stackTraces = l.stackTraces by rw [X.admits.platform]).trans hltr
      have Y := mm_restart X (by omega) (by omega)
      have hvm : ((T.setVm s.vm).setFrames (.invoking m args :: below)).vm = s.vm := rfl
      have hhp : ((T.setVm s.vm).setFrames (.invoking m args :: below)).heap = T.heap := rfl
      generalize hA : (T.setVm s.vm).setFrames (.invoking m args :: below) = s' at Y hvm hhp
      have hW0 : s.WarmedH s'.vm := by rw [hvm]; exact State.WarmedH.refl s
      have hwd' : mm_Wd s' := hwd.moved hW0
      have hZ' : mm_Zs s' H0 := mm_Zs.moved (by rw [hvm]; exact Vm.Alike.refl _) hZ
      have hbel : ∀ q : Nat, q < H0.size → s'.heap[q]? = H0[q]? := fun q hq => by rw [hhp]; exact hE.2.2.2.2 q hq
      have hat : ∀ w ∈ Bundle.ownAtoms (t_on (t_o k)) ic Cn names, w.before args s' = true := by
        intro w hw
        rcases hats w hw with q | q | q | q | q
        · exact hwd'.1 w q args
        · rw [q]; exact hZ'.1.ref hbel
        · rw [q]; exact hZ'.2.ref hbel
        · rw [q]; exact hZ'.1.lays hbel
        · rw [q]; exact hZ'.2.lays hbel
      have hown' : s'.vm.findClass (t_on (t_o k)) = some m.cls := by rw [hvm]; exact hown
      have hins : (Cond.instantiable Cn 6).before args s' = true := hat _ (by simp [Bundle.ownAtoms])
      obtain ⟨vm₁, cX, kX, hfX, hkX, -, -, X₁, st1⟩ := Y.newCold hx (own := t_on (t_o k)) (C := Cn) (index := idx) (n := 6) hown' (hwd'.1 _ hlk1 args) hins (hwd'.1 _ hlk2 args) (g := F0 m pc ls st) rfl (by rw [hb]; exact hd) (Nat.le_refl _) (Nat.le_refl _)
      generalize hT1 : (T.setVm vm₁).pushCell { cls := cX, slots := kX.instanceTypes.map defaultValue, vm := .none } = T1 at X₁ st1
      have hcellA : T1.heap[T.heap.size]? = some (freshCell cX kX) := by rw [← hT1]; exact State.heap_pushCell_size _ _
      have hd3 : decode c.code (pc + 3) = .ok (.dup, 1) := by rw [hb]; exact tb_cod d3
      have hd4 : decode c.code (pc + 4) = .ok (.ldc si, 2) := by rw [hb]; exact tb_cod d4
      have hsum := mm_sum12 g0
      have hcat : (Value.ref T.heap.size).category = 1 := rfl
      have hstr' : vk_R (t_on (t_o k)) si tx sa s' := vk_R.warm hW0 hstr
      obtain ⟨U, hsteps, hrun, hend, hW, hsame, ce, hce, hO⟩ := X₁.ctorThrowS hx htr (own := t_on (t_o k)) (cls := Cn) (names := names) (ic := ic) hown' hfitC hfitN hat (fun x hx => nomatch hx) hfX hkX hcellA (by rw [hhp]; exact Nat.le_refl _) (msg := .ref sa) rfl
        (g := { method := m, pc := pc + 6, locals := ls, stack := .ref sa :: .ref T.heap.size :: .ref T.heap.size :: st, locked := none }) rfl (by rw [hml]; exact hl.1) rfl rfl (rest := st) rfl
        (by rw [hb]; exact tb_cod d6) (by rw [hb]; exact tb_cod d9) (fun q hq => by rw [hh3] at hq; cases hq) (by show names.length + 3 < R.frames; omega) (by show _ ≤ R.locals; simp only [List.map_cons, List.sum_cons, hcat]; show 2 * 0 + _ + _ ≤ _; omega) hlk
      obtain ⟨f1, f2, f3⟩ := mm_oldKept hsame
      rw [hhp] at f1 f2 f3
      have hWs : s.WarmedH U.vm := State.WarmedH.trans hW0 hW
      have hclc : s.vm.findClass Cn = some ce.cls := by
        have h9 := hO.cls
        rw [hvm] at h9
        exact h9
      have hcls : ce.cls = D.1 x := Option.some.inj (hclc.symm.trans (hK.1 x _ hcl).2.1)
      have hsz : U.heap.size = h.1 + 1 := by
        have := (Array.getElem?_eq_some_iff.mp hce).1
        rw [← hE.1]
        omega
      have hall : s.sameButNew ({ U with vm := s.vm } : State) locs (cells + 1) (slots + 6) := by
        subst hA
        obtain ⟨e1, e2⟩ := hsame
        rw [State.setFrames_setFrames] at e1
        have h2 : (T.setVm s.vm).sameButNew ({ U with vm := s.vm } : State) [] (0 + 1) (0 + 6) := ⟨e1, e2⟩
        have h3 := X.same.trans h2
        rw [List.append_nil] at h3
        exact h3
      refine ⟨U, ?_, hrun, ?_, hWs, ⟨locs, hL, ?_⟩, ?_, mm_push_self _ _ _, ?_, ?_⟩
      · refine st1 _ ?_
        show Steps p.tables e below (T1.setTop { method := m, pc := pc + 3, locals := ls, stack := .ref T.heap.size :: st, locked := none }) _
        jvm_step X₁.here [X₁.here.top, hx, hd3, Value.category]
        exact X₁.ldcString hx (own := t_on (t_o k)) (text := tx) (index := si) (a := sa) hown' hstr'.1 hstr'.2
          (g := { method := m, pc := pc + 4, locals := ls, stack := .ref T.heap.size :: .ref T.heap.size :: st, locked := none }) rfl hd4 _ hsteps
      · show Ended U below (.threw h.1)
        rw [← hE.1]
        exact hend
      · have e1 : z.1 - (h.2.1.1 - 1) = cells + 1 := by omega
        have e2 : z.2 - (h.2.1.2 - 6) = slots + 6 := by omega
        show s.sameButNew _ locs (z.1 - (h.2.1.1 - 1)) (z.2 - (h.2.1.2 - 6))
        rw [e1, e2]
        exact hall
      · refine hE.push hsz (fun q hq => f3 q (by rw [hE.1]; exact hq)) ⟨_, hcl, ce, by rw [← hE.1]; exact hce, hcls, hO.vm, fun j hj => absurd hj (Nat.not_lt_zero j)⟩ (fun cell hc9 => ?_)
        rw [← hE.1, hce] at hc9
        cases hc9
        rw [hO.vm]
        rfl
      · show h.2.1.1 - 1 ≤ z.1
        omega
      · show h.2.1.2 - 6 ≤ z.2
        omega
    · cases hr
  · cases hr
end MMTH
end
section
theorem mm_split_ok : ∀ (n : Nat) (st as r : List Value), mm_split n st = some (as, r) → st = as.reverse ++ r ∧ as.length = n
  | 0, st, as, r, h => by
    cases h
    exact ⟨rfl, rfl⟩
  | n + 1, [], as, r, h => by cases h
  | n + 1, v :: st, as, r, h => by
    unfold mm_split at h
    split at h
    · rename_i as1 r1 h1
      cases h
      obtain ⟨h2, h3⟩ := mm_split_ok n st _ _ h1
      refine ⟨?_, by simp [h3]⟩
      rw [h2]
      simp
    · cases h
theorem mm_inv_len {k k' len : Nat} {i : Instr} {st as rest : List Value} {h : mm_H} (hr : mm_inv k i len st h = some (k', as, rest)) : len = 3 := by
  unfold mm_inv at hr
  split at hr
  · rfl
  · rfl
  · rfl
  · cases hr
section MMI
variable {p : Program} {l : Launch} {e : Env} {R : Room} {s : State} {m : MethodId} {args : Array Value} {below : List Frame} {meth : Method} {c : Code} {T : State} {locs : List Loc} {cells slots : Nat}
variable {pc len d k k' : Nat} {ls : Array Slot} {st as rest : List Value} {i : Instr} {D : va_G} {aC : Nat → ClassId} {H0 : Heap} {h : mm_H} {z : Nat × Nat}
set_option maxHeartbeats 4000000 in
theorem mm_inv_T (C : mm_Cx p D aC H0 R s m meth c d k z) (X : Stand p l e R s m args below meth c T locs cells slots) (hE : mm_emb D aC t_cl H0 h T.heap) (hd : decode (t_b k) pc = .ok (i, len)) (hr : mm_inv k i len st h = some (k', as, rest)) :
    ∃ (mk : MethodId) (methk : Method) (ck : Code) (vm' : Vm), mm_Mt (t_y k') (t_b k') (t_nl k') (t_rt k') (t_hh k') s mk methk ck ∧ Stand p l e R s m args below meth c (T.setVm vm') locs cells slots ∧ (rest.map fun v => v.category).sum ≤ 12 ∧ (lg_sl as).length ≤ t_nl k' ∧ t_nl k' ≤ 13 ∧ plainFor (t_y k') = true ∧
      ∀ target, (∀ acts, Steps p.tables e below (doInvoke e ((T.setVm vm').setTop (F0 m pc ls rest)) acts mk as.toArray).1 target) → Steps p.tables e below (T.setTop (F0 m pc ls st)) target := by
  have hown := C.own
  have hts := C.hts (args := args)
  obtain ⟨hx, -, hK, ⟨hnm, hme, hco, hb, hml, hrt, hlk, hhh, hsig⟩, -⟩ := id C
  unfold mm_inv at hr
  split at hr
  · split at hr
    · rename_i k1 np hm
      split at hr
      · rename_i as1 r1 hs
        obtain ⟨h1, h2⟩ := mm_cond2 hr
        cases h2
        simp only [Bool.and_eq_true] at h1
        obtain ⟨hst, hlen⟩ := mm_split_ok _ _ _ _ hs
        obtain ⟨⟨hlink, hcw, hnp, hmh, hpl, hnl⟩, hw1, hw2⟩ := tb_mth0 hm
        obtain ⟨mk, methk, ck, hM⟩ := mm_Mt.of (hts _ hcw)
        obtain ⟨g1, g2, g3, g4, g5, g6, g7, g8, g9⟩ := id hM
        have hstat : methk.isStatic = true := Cond.static_spec g1 g2 (hts _ hw1)
        obtain ⟨kP, hkP, -⟩ := className_of_methodNamed g1
        have hini : kP.init = .initialized := Cond.initialized_spec (findClass_of_methodNamed g1) hkP (hts _ hw2)
        have hl2 : as.length = methk.sig.parameters.length := by
          rw [g9] at hnp
          exact hlen.trans (Option.some.inj hnp).symm
        obtain ⟨vm1, X1, hst1⟩ := X.invokestatic hx hown (hts _ hlink) g1 g2 hstat hkP hini hmh (g := F0 m pc ls st) rfl (argsL := as) (rest := rest) hl2 hst (by rw [hb]; exact hd)
        exact ⟨mk, methk, ck, vm1, hM, X1, mm_sum12 h1.1, Nat.le_of_ble_eq_true h1.2, hnl, hpl, hst1⟩
      · cases hr
    · cases hr
  · split at hr
    · rename_i k1 np hm
      split at hr
      · rename_i as1 b r1 hs
        split at hr
        · rename_i ci fs hbv
          obtain ⟨h1, h2⟩ := mm_cond2 hr
          cases h2
          simp only [Bool.and_eq_true] at h1
          obtain ⟨h3, h1⟩ := h1
          have e3 := Nat.eq_of_beq_eq_true h3
          obtain ⟨hst, hlen⟩ := mm_split_ok _ _ _ _ hs
          obtain ⟨⟨hlink, hcw, hnp, hmh, hpl, hnl⟩, hw1, hw2, Cn, T0, N0, hc, hcn⟩ := tb_mth1 hm
          obtain ⟨mk, methk, ck, hM⟩ := mm_Mt.of (hts _ hcw)
          obtain ⟨g1, g2, g3, g4, g5, g6, g7, g8, g9⟩ := id hM
          obtain ⟨mk', methM, hn', hm', hstM, habM⟩ := Cond.instanceMethod_spec (hts _ hw1)
          cases g1.symm.trans hn'
          cases g2.symm.trans hm'
          obtain ⟨⟨rv, hrv, cellB, v1, v2, v3, -⟩, -⟩ := hE.2.1 _ _ hbv
          have hcls : s.vm.findClass (t_y k').cls = some cellB.cls := by
            rw [v2, e3, ← hcn]
            exact (hK.1 (t_rc k') _ hc).2.1
          obtain ⟨c2, r2, m2, q1, q2, q3, q4, kP, hkP, hkPi⟩ := Cond.selects_spec (hts _ hw2)
          cases hcls.symm.trans q1
          cases (State.methodFound?_of_named g1 hmh).symm.trans q2
          cases g1.symm.trans q3
          have hselP : selectMethod e.platform s.vm cellB.cls mk = .method mk := by rw [Launch.admits_selectMethod X.admits]; exact q4
          have hl2 : as1.length = methk.sig.parameters.length := by
            rw [g9] at hnp
            exact hlen.trans (Option.some.inj hnp).symm
          obtain ⟨vm1, X1, hst1⟩ := X.invokevirtual hx hown (hts _ hlink) g1 g2 hstM hkP hkPi hmh (a := b) (cell := cellB) v1 (fun z hz => by rw [v3] at hz; cases hz) hselP g2 habM hkP hkPi (g := F0 m pc ls st) rfl (argsL := as1) (rest := rest) hl2 hst (by rw [hb]; exact hd)
          exact ⟨mk, methk, ck, vm1, hM, X1, mm_sum12 h1.1, Nat.le_of_ble_eq_true h1.2, hnl, hpl, hst1⟩
        · cases hr
      · cases hr
    · cases hr
  · split at hr
    · rename_i k1 np hm
      split at hr
      · rename_i as1 b r1 hs
        obtain ⟨h1, h2⟩ := mm_cond2 hr
        cases h2
        simp only [Bool.and_eq_true] at h1
        obtain ⟨hst, hlen⟩ := mm_split_ok _ _ _ _ hs
        obtain ⟨⟨hlink, hcw, hnp, hmh, hpl, hnl⟩, hw1, hin, hhh', hrt'⟩ := tb_mth2 hm
        have hcw' := hcw
        rw [hhh', hrt'] at hcw'
        obtain ⟨mk, methk, ck, hM⟩ := mm_Mt.of (hts _ hcw)
        obtain ⟨g1, g2, g3, g4, g5, g6, g7, g8, g9⟩ := id hM
        have hplt : e.platform.magicAccessors = ({} : Platform).magicAccessors := by rw [X.admits.platform]
        obtain ⟨mk', methM, cM, kP, vm1, hn', hm', -, -, -, -, hkP, -, hW1, hst1⟩ := Steps.initColdArgs (tb := p.tables) (e := e) X.here hx X.warmed hplt hown hin hmh (hts _ hlink) (hts _ hw1) (hts _ hcw') (f := F0 m pc ls st) rfl
          (argsL := as1) (a := b) (rest := rest) (fun sig hsg => by rw [hsg] at hnp; exact hlen.trans (Option.some.inj hnp).symm) hst (by rw [hb]; exact hd)
        cases g1.symm.trans hn'
        exact ⟨mk, methk, ck, vm1, hM, X.noted hW1, mm_sum12 h1.1, Nat.le_of_ble_eq_true h1.2, hnl, hpl, hst1⟩
      · cases hr
    · cases hr
  · cases hr
end MMI
end
section
/-! a handler of the method's own table, whose class may not have been resolved yet -/
theorem mm_go_transfer {E : CtlPost} {e : Env} {d : Bool} {acts : List Action} {S : State} {f : JFrame} {a : Addr} {Q : Handler → Pre} {x : ExceptionTableEntry} {t : List ExceptionTableEntry} {c : ClassId} {vm' : Vm} (hx : covers x f.pc = true) (h0 : x.catchType ≠ 0)
    (hg : (Jvm.resolveClass f.method.cls x.catchType).Gives e.toSetting S.vm (.ok c) vm') (hr : vm'.classReady f.method.cls x.catchType c) (hsz : vm'.classes.size ≤ S.vm.classes.size) :
    wp (findHandler.go f a (x :: t)) Q E e d acts S ↔ wp (findHandler.go f a (x :: t)) Q E e d acts (S.setVm vm') := by
  simp only [covers] at hx
  obtain ⟨ha, ht⟩ := hg.op (op := VmOp.resolveClass f.method.cls x.catchType) rfl
  obtain ⟨k, hkd, hres⟩ := hr
  obtain ⟨ha', ht'⟩ := resolveClass_memo e hkd hres
  simp [findHandler.go, hx, h0, ha, ht, hsz, ha', ht', VmOp.dirties, VmOp.acts]
  exact Iff.rfl
section MMCATCH
variable {p : Program} {l : Launch} {e : Env} {R : Room} {s : State} {m : MethodId} {args : Array Value} {below : List Frame} {meth : Method} {c : Code} {T : State} {locs : List Loc} {cells slots : Nat}
variable {pc d k : Nat} {ls : Array Slot} {rest : List Value} {D : va_G} {aC : Nat → ClassId} {H0 : Heap} {h : mm_H} {z : Nat × Nat}
theorem mm_goFind (hpl : e.platform.magicAccessors = ({} : Platform).magicAccessors) (hts : ∀ w ∈ tb_Ts, w.before args s = true) (hown : s.vm.findClass (t_on (t_o k)) = some m.cls) (hK : mm_Kn D aC t_cl s) (hapart : ∀ x y : Nat, 5 ≤ x → x ≠ y → x < t_cl.length → y < t_cl.length → 5 ≤ y → s.vm.assignable (D.1 x) (D.1 y) = false)
    {f : JFrame} (hf : f.method = m) {a : Addr} {cell : Cell} {x pc' : Nat} (hx5 : 5 ≤ x) (hxl : x < t_cl.length) (hcls : cell.cls = D.1 x) (hvm : cell.vm = .none) :
    ∀ (tl : List ExceptionTableEntry) (hh hx : List (Nat × Nat × Nat × Nat)), tl.map (fun h => (h.startPc, h.endPc, h.handlerPc, h.catchType)) = hh → mm_hrel (t_o k) hh hx → (∀ q ∈ hx, 5 ≤ q.2.2.2) → mm_find hx f.pc x = some pc' →
      ∀ S : State, s.WarmedH S.vm → S.heap[a]? = some cell → ∃ vm' : Vm, s.WarmedH vm' ∧ ∀ (Q : Handler → Pre) (E : CtlPost) (d : Bool) (acts : List Action), wp (findHandler.go f a tl) Q E e d acts S ↔ Q (.found pc') d acts (S.setVm vm') := by
  intro tl
  induction tl with
  | nil =>
    intro hh hx e1 hrel h5 hfind S hW hc
    subst e1
    cases hx with
    | nil => cases hfind
    | cons q r => exact hrel.elim
  | cons y tl ih =>
    intro hh hx e1 hrel h5 hfind S hW hc
    subst e1
    cases hx with
    | nil => exact hrel.elim
    | cons q r =>
      obtain ⟨a', b', t', x'⟩ := q
      obtain ⟨r1, r2, r3, r4, ⟨qc, r5, r6⟩, r7⟩ := (show y.startPc = a' ∧ y.endPc = b' ∧ y.handlerPc = t' ∧ y.catchType ≠ 0 ∧ (∃ q : vw_C, t_cl[x']? = some q ∧ Cond.classLink (t_on (t_o k)) y.catchType q.1 ∈ tb_Ts) ∧ mm_hrel (t_o k) (tl.map (fun h => (h.startPc, h.endPc, h.handlerPc, h.catchType))) r from hrel)
      subst r1; subst r2; subst r3
      have h5r : ∀ q ∈ r, 5 ≤ q.2.2.2 := fun q hq => h5 q (List.mem_cons_of_mem _ hq)
      have h5x : 5 ≤ x' := h5 _ List.mem_cons_self
      have hlx : x' < t_cl.length := (List.getElem?_eq_some_iff.mp r5).1
      cases hcov : covers y f.pc with
      | false =>
        have hf2 : mm_find r f.pc x = some pc' := by
          unfold mm_find at hfind
          simp only [covers] at hcov
          have : (Nat.ble y.startPc f.pc && (Nat.ble (f.pc + 1) y.endPc && Nat.beq x' x)) = false := by
            cases hb : (Nat.ble y.startPc f.pc && (Nat.ble (f.pc + 1) y.endPc && Nat.beq x' x)) with
            | false => rfl
            | true =>
              simp only [Bool.and_eq_true] at hb
              have g1 := Nat.le_of_ble_eq_true hb.1
              have g2 : f.pc < y.endPc := Nat.le_of_ble_eq_true hb.2.1
              rw [decide_eq_true g1, decide_eq_true g2] at hcov
              cases hcov
          rw [this] at hfind
          exact hfind
        obtain ⟨vm', w1, w2⟩ := ih _ r rfl r7 h5r hf2 S hW hc
        exact ⟨vm', w1, fun Q E d acts => (W.findHandler_go_skip hcov).trans (w2 Q E d acts)⟩
      | true =>
        obtain ⟨cc, hfc, hcl⟩ := Cond.classLink_spec hown (hts _ r6) e.platform hpl
        have hcc : cc = D.1 x' := Option.some.inj (hfc.symm.trans (hK.1 x' qc r5).2.1)
        subst hcc
        obtain ⟨hg1, hwarm1, hready1⟩ := State.classEntry (e := e) hW hcl
        have hsz1 : (S.vm.noted m.cls y.catchType (.cls (D.1 x'))).classes.size ≤ S.vm.classes.size := by simp
        generalize S.vm.noted m.cls y.catchType (.cls (D.1 x')) = vm1 at hg1 hwarm1 hready1 hsz1
        rw [← hf] at hg1 hready1
        have hal : s.vm.Alike vm1 := hwarm1.alike
        have hk1 : ∃ k, (S.setVm vm1).vm.classes[cell.cls]? = some k := by
          obtain ⟨-, kx, hkx, -⟩ := (hK.1 x _ (List.getElem?_eq_getElem hxl)).2
          obtain ⟨k', hk', -⟩ := hal.2.2 _ _ hkx
          exact ⟨k', by rw [hcls]; exact hk'⟩
        have hk2 : ∃ k, (S.setVm vm1).vm.classes[D.1 x']? = some k := by
          obtain ⟨-, kx, hkx, -⟩ := (hK.1 x' _ r5).2
          obtain ⟨k', hk', -⟩ := hal.2.2 _ _ hkx
          exact ⟨k', hk'⟩
        have hasg : (S.setVm vm1).vm.assignable cell.cls (D.1 x') = s.vm.assignable (D.1 x) (D.1 x') := by rw [hcls]; exact hal.assignable _ _
        have hobj : ∀ k, cell.vm ≠ .statics k := fun k hz => by rw [hvm] at hz; cases hz
        by_cases hxx : x' = x
        · subst hxx
          have hpc : pc' = y.handlerPc := by
            unfold mm_find at hfind
            simp only [covers, Bool.and_eq_true, decide_eq_true_eq] at hcov
            have : (Nat.ble y.startPc f.pc && (Nat.ble (f.pc + 1) y.endPc && Nat.beq x' x')) = true := by
              rw [Nat.ble_eq_true_of_le hcov.1, Nat.ble_eq_true_of_le hcov.2, mm_beq_self]; rfl
            rw [this] at hfind
            exact (Option.some.inj hfind).symm
          subst hpc
          have hfit : s.vm.assignable (D.1 x') (D.1 x') = true := va_assign (hK.1 x' _ r5).2
          exact ⟨vm1, hwarm1, fun Q E d acts => by rw [mm_go_transfer hcov r4 hg1 hready1 hsz1, W.findHandler_go_class (s := S.setVm vm1) hcov r4 hready1 hc hobj hk1 hk2, hasg, if_pos hfit]⟩
        · have hf2 : mm_find r f.pc x = some pc' := by
            unfold mm_find at hfind
            rw [mm_beq_ne hxx, Bool.and_false, Bool.and_false] at hfind
            exact hfind
          obtain ⟨vm', w1, w2⟩ := ih _ r rfl r7 h5r hf2 (S.setVm vm1) hwarm1 hc
          exact ⟨vm', w1, fun Q E d acts => by
            rw [mm_go_transfer hcov r4 hg1 hready1 hsz1, W.findHandler_go_class (s := S.setVm vm1) hcov r4 hready1 hc hobj hk1 hk2, hasg, if_neg (by rw [hapart x x' hx5 (Ne.symm hxx) hxl hlx h5x]; decide)]
            exact w2 Q E d acts⟩
theorem mm_stepCatch {e : Env} {S : State} {a : Addr} {f : JFrame} {r : List Frame} {pc : Nat} {vm' : Vm} (hfind : ∀ (Q : Handler → Pre) (E : CtlPost) (d : Bool) (acts : List Action), wp (findHandler f a) Q E e d acts S ↔ Q (.found pc) d acts (S.setVm vm')) :
    (stepThrowing e S a (.java f :: r)).Is ((S.setVm vm').setFrames (.java { f with pc := pc, stack := [.ref a] } :: r)) [] := by
  simp only [stepThrowing, searchFrame, vmDo]
  generalize hr : Sem.go _ e false [] S = res
  obtain ⟨as, rfl, ha⟩ := Sem.eq_ok_of hr (a := Handler.found pc) (s' := S.setVm vm') (acts' := []) (by simp [hfind _ _ _ _])
  exact ⟨rfl, ha⟩
theorem mm_catch_T (C : mm_Cx p D aC H0 R s m meth c d k z) (X : Stand p l e R s m args below meth c T locs cells slots) (hE : mm_emb D aC t_cl H0 h T.heap) {x : Nat × Nat} {pc' : Nat} (hfind : mm_find (t_hx k) pc x.1 = some pc') (hex : h.2.2 x.2 = some (.inl (x.1, []))) :
    ∃ vm2, Stand p l e R s m args below meth c (T.setVm vm2) locs cells slots ∧ ∀ target, Steps p.tables e below ((T.setVm vm2).setTop (F0 m pc' ls [.ref x.2])) target → Steps p.tables e below ((T.setTop (F0 m pc ls rest)).pushFrame (.throwing x.2)) target := by
  have hown := C.own
  have hts := C.hts (args := args)
  obtain ⟨hx, hwd, hK, ⟨hnm, hme, hco, hb, hml, hrt, hlk, hhh, hsig⟩, -⟩ := id C
  have hpl : e.platform.magicAccessors = ({} : Platform).magicAccessors := by rw [X.admits.platform]
  obtain ⟨⟨rv, hrv, cell, v1, v2, v3, -⟩, -⟩ := hE.2.1 _ _ hex
  have hx5 : 5 ≤ x.1 := tb_hx5 hfind
  have hal := X.warmed.alike
  obtain ⟨vm2, w1, w2⟩ := mm_goFind (f := F0 m pc ls rest) (a := x.2) (pc' := pc') hpl hts hown hK (tb_apart hK hwd) rfl hx5 (List.getElem?_eq_some_iff.mp hrv).1 v2 v3 _ _ _ hhh (tb_hx k) (tb_hxs k) hfind ((T.setTop (F0 m pc ls rest)).pushFrame (.throwing x.2)) (by rw [Stand.throwing_vm]; exact X.warmed) (by rw [Stand.throwing_heap]; exact v1)
  refine ⟨vm2, X.noted w1, fun target hrest => ?_⟩
  have hA : At T (F0 m pc ls rest).method c below := X.here
  obtain ⟨hgo, hw⟩ := hA.throwing x.2
  refine Steps.head hgo hw ?_
  have hme' : ((T.setTop (F0 m pc ls rest)).pushFrame (.throwing x.2)).vm.method? (F0 m pc ls rest).method = some meth := by rw [Stand.throwing_vm]; exact X.method'
  rw [stepThread_throwing (frames_entered hA.top _), (mm_stepCatch (S := (T.setTop (F0 m pc ls rest)).pushFrame (.throwing x.2)) (vm' := vm2) (pc := pc') (fun Q E d acts => (W.findHandler_eq hme' X.code).trans (w2 Q E d acts))).1]
  obtain ⟨g₀, hg⟩ := Option.isSome_iff_exists.mp hA.top
  obtain ⟨r, hr⟩ := State.topJava?_eq_some.mp hg
  have hr2 : (T.setVm vm2).frames = .java g₀ :: r := hr
  rw [State.setTop_of_frames _ hr2] at hrest
  have e1 : (((T.setTop (F0 m pc ls rest)).pushFrame (.throwing x.2)).setVm vm2).setFrames (.java { F0 m pc ls rest with pc := pc', stack := [.ref x.2] } :: T.frames.tail) = (T.setVm vm2).setFrames (.java (F0 m pc' ls [.ref x.2]) :: r) := by
    rw [hr]
    rw [State.pushFrame, State.setTop_of_frames _ hr, State.setFrames_setFrames]
    show ((T.setFrames _).setVm vm2).setFrames _ = _
    rw [show ∀ fs, (T.setFrames fs).setVm vm2 = (T.setVm vm2).setFrames fs from fun _ => rfl, State.setFrames_setFrames]
    rfl
  rw [e1]
  exact hrest
end MMCATCH
end
section
section MMSIM
variable {p : Program} {l : Launch} {e : Env} {D : va_G} {aC : Nat → ClassId} {H0 : Heap}
theorem mm_Mt.moved {y : MethodName} {b : ByteArray} {n : Nat} {rt : Option FieldType} {hh : List (Nat × Nat × Nat × Nat)} {s U : State} {mk : MethodId} {mt : Method} {ck : Code} (hW : s.vm.Alike U.vm) (hn : U.methodNamed? y = some mk) (h : mm_Mt y b n rt hh s mk mt ck) : mm_Mt y b n rt hh U mk mt ck := by
  obtain ⟨g1, g2, g3⟩ := h
  exact ⟨hn, by rw [hW.method?]; exact g2, g3⟩
set_option maxHeartbeats 8000000 in
/-- WHAT THE MINI MACHINE ANSWERS, THE MACHINE DOES -/
theorem mm_sim (hltr : l.stackTraces = false) : ∀ (n d k pc : Nat) (lv : mm_L) (st : List Value) (h : mm_H) (r : mm_O × mm_H), mm_exec n d k pc lv st h = some r →
    ∀ (R : Room) (s : State) (m : MethodId) (args : Array Value) (below : List Frame) (meth : Method) (c : Code) (z : Nat × Nat), mm_Cx p D aC H0 R s m meth c d k z →
    ∀ (H : Heap) (locs : List Loc) (cells slots : Nat) (ls : Array Slot), lv_has ls (t_nl k) lv → mm_Ok D aC H0 z h H locs cells slots →
      W p l e R s m args below meth c H locs cells slots (mm_Res D aC t_cl H0 s below z r) (F0 m pc ls st) := by
  intro n
  induction n with
  | zero => intro d k pc lv st h r hex; cases hex
  | succ n ih =>
    intro d k pc lv st h r hex R s m args below meth c z C H locs cells slots ls hl O
    unfold mm_exec at hex
    split at hex
    · cases hex
    · rename_i i len hcod
      have hd := tb_cod hcod
      split at hex
      · rename_i pc' lv' st' h' hstp
        exact mm_step_W C O hl hd hstp (fun ls' H1 L cells' slots' hl' O' => ih d k pc' lv' st' h' r hex R s m args below meth c z C H1 L cells' slots' ls' hl' O')
      · split at hex
        · rename_i v hrt
          cases hex
          exact mm_ret_W C O hd hrt
        · split at hex
          · rename_i x h' hth
            cases hex
            exact mm_thr_W hltr C O hl hd hth
          · split at hex
            · cases hex
            · rename_i k' as rest hinv
              have hlen := mm_inv_len hinv
              subst hlen
              rcases d with _ | d'
              · cases hex
              · simp only at hex
                intro T hT X
                subst hT
                obtain ⟨mk, methk, ck, vm', hM, X1, hr16, hlgs, hnl, hpl, hgo⟩ := mm_inv_T (ls := ls) C X O.1 hd hinv
                obtain ⟨hx, hwd, hK, hMm, hRf, hRl, hRc, hRs, hZ⟩ := id C
                obtain ⟨hE, hL, hz1, hz2, ec, es⟩ := id O
                have hal : s.vm.Alike (T.setVm vm').vm := X1.warmed.alike
                have hmk : (T.setVm vm').vm.method? mk = some methk := by rw [hal.method?]; exact hM.2.1
                have hnk : (T.setVm vm').methodNamed? (t_y k') = some mk := X1.named hM.1
                have hpk : (T.setVm vm').plainMethod mk := State.plainMethod.of_named hpl hnk hmk
                have hsum := hr16
                have hd1 : decode c.code (F0 m pc ls rest).pc = .ok (i, 3) := by rw [hMm.2.2.2.1]; exact hd
                have hsz : (F0 m pc ls rest).locals.size = c.maxLocals := by rw [hMm.2.2.2.2.1]; exact hl.1
                -- the callee's walk
                have C' : mm_Cx p D aC H0 { frames := d', cells := h.2.1.1, slots := h.2.1.2, locals := 36 * d' } ((T.setVm vm').calling (F0 m pc ls rest) mk as.toArray) mk methk ck d' k' h.2.1 :=
                  ⟨hx, mm_Wd.moved (U := (T.setVm vm').calling (F0 m pc ls rest) mk as.toArray) X1.warmed hwd, mm_Kn.moved (U := (T.setVm vm').calling (F0 m pc ls rest) mk as.toArray) hal hK, mm_Mt.moved (U := (T.setVm vm').calling (F0 m pc ls rest) mk as.toArray) hal hnk hM, Nat.le_refl _, Nat.le_refl _, Nat.le_refl _, Nat.le_refl _, mm_Zs.moved (U := (T.setVm vm').calling (F0 m pc ls rest) mk as.toArray) hal hZ⟩
                have hlv := lv_entry as (n := t_nl k') hlgs
                have hwalk : ∀ r', mm_exec n d' k' 0 (lv_args 0 as) [] h = some r' → W p l e { frames := d', cells := h.2.1.1, slots := h.2.1.2, locals := 36 * d' } ((T.setVm vm').calling (F0 m pc ls rest) mk as.toArray) mk as.toArray (.java (F0 m pc ls rest) :: below) methk ck (T.setVm vm').heap [] 0 0 (mm_Res D aC t_cl H0 ((T.setVm vm').calling (F0 m pc ls rest) mk as.toArray) (.java (F0 m pc ls rest) :: below) h.2.1 r') (entryFrame mk as.toArray ck.maxLocals) := by
                  intro r' hr'
                  rw [hM.2.2.2.2.1, lg_entry_eq]
                  exact ih d' k' 0 (lv_args 0 as) [] h r' hr' _ _ mk as.toArray _ methk ck h.2.1 C' _ [] 0 0 _ hlv ⟨hE, (fun q hq => by cases hq), Nat.le_refl _, Nat.le_refl _, by omega, by omega⟩
                have hroom1 : d' + 1 ≤ R.frames := hRf
                have hroom2 : 2 * (F0 m pc ls rest).monitorRoom + ((F0 m pc ls rest).stack.map fun v => v.category).sum + (ck.maxLocals + 11) + 36 * d' ≤ R.locals := by
                  rw [hM.2.2.2.2.1]
                  show 2 * 0 + (rest.map fun v => v.category).sum + (t_nl k' + 11) + 36 * d' ≤ R.locals
                  omega
                split at hex
                · cases hex
                · rename_i v h' hcal
                  obtain ⟨T', L, X', hL', hE', ⟨hb1, hb2⟩, hst⟩ := mm_callRet (R' := { frames := d', cells := h.2.1.1, slots := h.2.1.2, locals := 36 * d' }) X1 rfl hsz hd1 hmk hM.2.2.1 hM.2.2.2.2.2.2.1 hpk hroom1 hroom2 (by show cells + h.2.1.1 ≤ R.cells; omega) (by show slots + h.2.1.2 ≤ R.slots; omega) (hwalk _ hcal)
                  obtain ⟨t, st1, hres⟩ := ih (d' + 1) k (pc + 3) lv (v.toList ++ rest) h' r hex R s m args below meth c z C T'.heap (locs ++ L) _ _ ls hl ⟨hE', fun q hq => (List.mem_append.mp hq).elim (hL q) (hL' q), by omega, by omega, rfl, rfl⟩ T' rfl (by
                    have e1 : cells + (h.2.1.1 - h'.2.1.1) = z.1 - h'.2.1.1 := by omega
                    have e2 : slots + (h.2.1.2 - h'.2.1.2) = z.2 - h'.2.1.2 := by omega
                    rw [e1, e2] at X'
                    exact X')
                  exact ⟨t, hgo t (hst t st1), hres⟩
                · rename_i x h' hcal
                  obtain ⟨T', L, X', hL', hE', ⟨hb1, hb2⟩, hex1, hst⟩ := mm_callThrew (R' := { frames := d', cells := h.2.1.1, slots := h.2.1.2, locals := 36 * d' }) X1 rfl hsz hd1 hmk hM.2.2.1 hM.2.2.2.2.2.2.1 hpk hroom1 hroom2 (by show cells + h.2.1.1 ≤ R.cells; omega) (by show slots + h.2.1.2 ≤ R.slots; omega) (hwalk _ hcal)
                  have e1 : cells + (h.2.1.1 - h'.2.1.1) = z.1 - h'.2.1.1 := by omega
                  have e2 : slots + (h.2.1.2 - h'.2.1.2) = z.2 - h'.2.1.2 := by omega
                  rw [e1, e2] at X'
                  split at hex
                  · rename_i pc' hfind
                    obtain ⟨vm2, X2, hgo2⟩ := mm_catch_T C X' hE' (ls := ls) (rest := rest) hfind hex1
                    obtain ⟨t, st1, hres⟩ := ih (d' + 1) k pc' lv [.ref x.2] h' r hex R s m args below meth c z C T'.heap (locs ++ L) _ _ ls hl ⟨hE', fun q hq => (List.mem_append.mp hq).elim (hL q) (hL' q), by omega, by omega, rfl, rfl⟩ (T'.setVm vm2) rfl X2
                    exact ⟨t, hgo t (hst t (hgo2 t st1)), hres⟩
                  · obtain ⟨hh0, hh1⟩ := mm_cond2 hex
                    cases hh1
                    have hh2 : t_hh k = [] := List.eq_nil_of_length_eq_zero (Nat.eq_of_beq_eq_true hh0)
                    have hh3 : c.exceptionTable.toList = [] := by
                      have := hMm.2.2.2.2.2.2.2.1
                      rw [hh2] at this
                      exact List.map_eq_nil_iff.mp this
                    obtain ⟨w1, w2, w3, w4, w5⟩ := X'.leaveThrown x.2 (g := F0 m pc ls rest) rfl rfl rfl (fun q hq => by rw [hh3] at hq; cases hq) hMm.2.2.2.2.2.2.1
                    exact ⟨_, hgo _ (hst _ w1), w2, w3, w4, ⟨_, fun q hq => (List.mem_append.mp hq).elim (hL q) (hL' q), w5⟩, hE', hex1, (show h'.2.1.1 ≤ z.1 by omega), (show h'.2.1.2 ≤ z.2 by omega)⟩
end MMSIM
end
section
/-! RULES for runs of the mini machine: 'Wx .. Q': the run from here ends, and Q holds of what it answers -/
theorem mm_exec_mono : ∀ (n d k pc : Nat) (lv : mm_L) (st : List Value) (h : mm_H) (r : mm_O × mm_H), mm_exec n d k pc lv st h = some r → mm_exec (n + 1) d k pc lv st h = some r := by
  intro n
  induction n with
  | zero => intro d k pc lv st h r hx; cases hx
  | succ n ih =>
    intro d k pc lv st h r hx
    unfold mm_exec at hx
    unfold mm_exec
    cases hc : t_cod k pc with
    | none => rw [hc] at hx; cases hx
    | some q =>
      obtain ⟨i, len⟩ := q
      rw [hc] at hx
      dsimp only at hx ⊢
      cases hs : mm_step k d i len pc lv st h with
      | some q =>
        obtain ⟨pc', lv', st', h'⟩ := q
        rw [hs] at hx
        dsimp only at hx ⊢
        exact ih _ _ _ _ _ _ _ hx
      | none =>
        rw [hs] at hx
        dsimp only at hx ⊢
        cases hr : mm_ret (t_rt k) i len st with
        | some v => rw [hr] at hx; exact hx
        | none =>
          rw [hr] at hx
          dsimp only at hx ⊢
          cases ht : mm_thr k d pc i len st h with
          | some q => rw [ht] at hx; exact hx
          | none =>
            rw [ht] at hx
            dsimp only at hx ⊢
            cases hv : mm_inv k i len st h with
            | none => rw [hv] at hx; cases hx
            | some q =>
              obtain ⟨k', as, rest⟩ := q
              rw [hv] at hx
              dsimp only at hx ⊢
              cases d with
              | zero => cases hx
              | succ d' =>
                dsimp only at hx ⊢
                cases hcal : mm_exec n d' k' 0 (lv_args 0 as) [] h with
                | none => rw [hcal] at hx; cases hx
                | some q =>
                  rw [ih _ _ _ _ _ _ _ hcal]
                  rw [hcal] at hx
                  obtain ⟨o, h'⟩ := q
                  cases o with
                  | inl v =>
                    dsimp only at hx ⊢
                    exact ih _ _ _ _ _ _ _ hx
                  | inr x =>
                    dsimp only at hx ⊢
                    cases hf : mm_find (t_hx k) pc x.1 with
                    | some pc' =>
                      rw [hf] at hx
                      dsimp only at hx ⊢
                      exact ih _ _ _ _ _ _ _ hx
                    | none => rw [hf] at hx; exact hx
theorem mm_exec_le {n n' d k pc : Nat} {lv : mm_L} {st : List Value} {h : mm_H} {r : mm_O × mm_H} (hn : n ≤ n') (hx : mm_exec n d k pc lv st h = some r) : mm_exec n' d k pc lv st h = some r := by
  obtain ⟨j, rfl⟩ := Nat.exists_eq_add_of_le hn
  clear hn
  induction j with
  | zero => exact hx
  | succ j ih => exact mm_exec_mono _ _ _ _ _ _ _ _ ih
def Wx (d k pc : Nat) (lv : mm_L) (st : List Value) (h : mm_H) (Q : mm_O × mm_H → Prop) : Prop := ∃ n r, mm_exec n d k pc lv st h = some r ∧ Q r
section WX
variable {d k pc : Nat} {lv lv' : mm_L} {st st' : List Value} {h h' : mm_H} {Q Q' : mm_O × mm_H → Prop} {i : Instr} {len pc' : Nat}
theorem Wx.mono (w : Wx d k pc lv st h Q) (hq : ∀ r, Q r → Q' r) : Wx d k pc lv st h Q' := by
  obtain ⟨n, r, h1, h2⟩ := w
  exact ⟨n, r, h1, hq r h2⟩
theorem x_step (hc : t_cod k pc = some (i, len)) (hs : mm_step k d i len pc lv st h = some (pc', lv', st', h')) (w : Wx d k pc' lv' st' h' Q) : Wx d k pc lv st h Q := by
  obtain ⟨n, r, h1, h2⟩ := w
  refine ⟨n + 1, r, ?_, h2⟩
  unfold mm_exec
  rw [hc]
  dsimp only
  rw [hs]
  exact h1
theorem x_if {c : Prop} [Decidable c] {t : Nat} (hc : t_cod k pc = some (i, 3)) (hs : mm_step k d i 3 pc lv st h = some (cond (decide c) t (pc + 3), lv, st', h)) (kt : c → Wx d k t lv st' h Q) (kf : ¬ c → Wx d k (pc + 3) lv st' h Q) : Wx d k pc lv st h Q := by
  by_cases hq : c
  · rw [decide_eq_true hq] at hs
    exact x_step hc hs (kt hq)
  · rw [decide_eq_false hq] at hs
    exact x_step hc hs (kf hq)
theorem x_ret {v : Option Value} (hc : t_cod k pc = some (i, len)) (hs : mm_step k d i len pc lv st h = none) (hr : mm_ret (t_rt k) i len st = some v) (hq : Q (.inl v, h)) : Wx d k pc lv st h Q := by
  refine ⟨1, _, ?_, hq⟩
  unfold mm_exec
  rw [hc]
  dsimp only
  rw [hs]
  dsimp only
  rw [hr]
theorem x_thr {x : Nat} (hc : t_cod k pc = some (i, len)) (hs : mm_step k d i len pc lv st h = none) (hr : mm_ret (t_rt k) i len st = none) (ht : mm_thr k d pc i len st h = some (x, h')) (hq : Q (.inr (x, h.1), h')) : Wx d k pc lv st h Q := by
  refine ⟨1, _, ?_, hq⟩
  unfold mm_exec
  rw [hc]
  dsimp only
  rw [hs]
  dsimp only
  rw [hr]
  dsimp only
  rw [ht]
/-- behind a call: it returned, or it threw and is caught here, or goes on up -/
def x_back (d k pc : Nat) (lv : mm_L) (rest : List Value) (Q : mm_O × mm_H → Prop) (r : mm_O × mm_H) : Prop := match r.1 with
  | .inl v => Wx d k (pc + 3) lv (v.toList ++ rest) r.2 Q
  | .inr x => match mm_find (t_hx k) pc x.1 with
    | some pc' => Wx d k pc' lv [.ref x.2] r.2 Q
    | none => (t_hh k).length = 0 ∧ Q r
theorem x_call {k' : Nat} {as rest : List Value} (hc : t_cod k pc = some (i, 3)) (hs : mm_step k (d + 1) i 3 pc lv st h = none) (hr : mm_ret (t_rt k) i 3 st = none) (ht : mm_thr k (d + 1) pc i 3 st h = none) (hv : mm_inv k i 3 st h = some (k', as, rest))
    (w : Wx d k' 0 (lv_args 0 as) [] h (x_back (d + 1) k pc lv rest Q)) : Wx (d + 1) k pc lv st h Q := by
  obtain ⟨n, ⟨o, h1⟩, h2, h3⟩ := w
  cases o with
  | inl v =>
    obtain ⟨n2, r2, h4, h5⟩ := (show Wx (d + 1) k (pc + 3) lv (v.toList ++ rest) h1 Q from h3)
    refine ⟨n + n2 + 1, r2, ?_, h5⟩
    unfold mm_exec
    rw [hc]
    dsimp only
    rw [hs]
    dsimp only
    rw [hr]
    dsimp only
    rw [ht]
    dsimp only
    rw [hv]
    dsimp only
    rw [mm_exec_le (Nat.le_add_right n n2) h2]
    dsimp only
    exact mm_exec_le (Nat.le_add_left n2 n) h4
  | inr x =>
    have h6 : (match mm_find (t_hx k) pc x.1 with | some pc' => Wx (d + 1) k pc' lv [.ref x.2] h1 Q | none => (t_hh k).length = 0 ∧ Q (.inr x, h1)) := h3
    cases hf : mm_find (t_hx k) pc x.1 with
    | some pc' =>
      rw [hf] at h6
      obtain ⟨n2, r2, h4, h5⟩ := h6
      refine ⟨n + n2 + 1, r2, ?_, h5⟩
      unfold mm_exec
      rw [hc]
      dsimp only
      rw [hs]
      dsimp only
      rw [hr]
      dsimp only
      rw [ht]
      dsimp only
      rw [hv]
      dsimp only
      rw [mm_exec_le (Nat.le_add_right n n2) h2]
      dsimp only
      rw [hf]
      dsimp only
      exact mm_exec_le (Nat.le_add_left n2 n) h4
    | none =>
      rw [hf] at h6
      refine ⟨n + 1, _, ?_, h6.2⟩
      unfold mm_exec
      rw [hc]
      dsimp only
      rw [hs]
      dsimp only
      rw [hr]
      dsimp only
      rw [ht]
      dsimp only
      rw [hv]
      dsimp only
      rw [h2]
      dsimp only
      rw [hf]
      dsimp only
      rw [h6.1]
      rfl
/-- instructions that touch neither heap nor a condition, as many as there are (at most n) -/
def mm_pure1 (k : Nat) (i : Instr) (len pc : Nat) (lv : mm_L) (st : List Value) : Option (Nat × mm_L × List Value) :=
  match mm_load lv i len with
  | some v => some (pc + len, lv, v :: st)
  | none => match mm_store (t_nl k) lv i len st with
    | some (lv', st') => some (pc + len, lv', st')
    | none => match mm_arith i len st with
      | some st' => some (pc + len, lv, st')
      | none => match mm_stack i len st with
        | some st' => some (pc + len, lv, st')
        | none => match i, len with
          | .goto off, 3 => (mm_tgt pc off).map (fun t => (t, lv, st))
          | _, _ => none
def mm_run (k : Nat) : Nat → Nat → mm_L → List Value → Nat × mm_L × List Value
  | 0, pc, lv, st => (pc, lv, st)
  | n + 1, pc, lv, st => match t_cod k pc with
    | none => (pc, lv, st)
    | some (i, len) => match mm_pure1 k i len pc lv st with
      | some (pc', lv', st') => mm_run k n pc' lv' st'
      | none => (pc, lv, st)
theorem mm_pure1_step (hp : mm_pure1 k i len pc lv st = some (pc', lv', st')) : mm_step k d i len pc lv st h = some (pc', lv', st', h) := by
  unfold mm_pure1 at hp
  unfold mm_step
  cases h1 : mm_load lv i len with
  | some v => rw [h1] at hp; cases hp; rfl
  | none =>
    rw [h1] at hp
    dsimp only at hp ⊢
    cases h2 : mm_store (t_nl k) lv i len st with
    | some q => rw [h2] at hp; cases hp; rfl
    | none =>
      rw [h2] at hp
      dsimp only at hp ⊢
      cases h3 : mm_arith i len st with
      | some q => rw [h3] at hp; cases hp; rfl
      | none =>
        rw [h3] at hp
        dsimp only at hp ⊢
        cases h4 : mm_stack i len st with
        | some q => rw [h4] at hp; cases hp; rfl
        | none =>
          rw [h4] at hp
          dsimp only at hp ⊢
          split at hp
          · rename_i off
            have h5 : mm_jump pc (.goto off) 3 st = (mm_tgt pc off).map (fun t => (t, st)) := by cases st <;> rfl
            rw [h5]
            cases ht : mm_tgt pc off with
            | none => rw [ht] at hp; cases hp
            | some t => rw [ht] at hp; cases hp; rfl
          · cases hp
theorem x_run (n : Nat) (hr : mm_run k n pc lv st = (pc', lv', st')) (w : Wx d k pc' lv' st' h Q) : Wx d k pc lv st h Q := by
  induction n generalizing pc lv st with
  | zero => cases hr; exact w
  | succ n ih =>
    unfold mm_run at hr
    cases hc : t_cod k pc with
    | none => rw [hc] at hr; cases hr; exact w
    | some q =>
      obtain ⟨i, len⟩ := q
      rw [hc] at hr
      dsimp only at hr
      cases hp : mm_pure1 k i len pc lv st with
      | none => rw [hp] at hr; cases hr; exact w
      | some q =>
        obtain ⟨pc2, lv2, st2⟩ := q
        rw [hp] at hr
        dsimp only at hr
        exact x_step hc (mm_pure1_step hp) (ih hr)
end WX
end
section
section WX2
variable {d k pc : Nat} {lv : mm_L} {r : List Value} {h : mm_H} {Q : mm_O × mm_H → Prop} {idx a ci j n t : Nat} {fs : List Value} {v : Value} {f : Nat → Value}
theorem mm_step_fa {i : Instr} {len : Nat} {st st' : List Value} {h' : mm_H} (h1 : mm_load lv i len = none) (h2 : mm_store (t_nl k) lv i len st = none) (h3 : mm_arith i len st = none) (h4 : mm_stack i len st = none) (h5 : mm_jump pc i len st = none)
    (h6 : mm_rd h i len st = none) (h7 : mm_wr h i len st = none) (h8 : mm_fa k d i len st h = some (st', h')) : mm_step k d i len pc lv st h = some (pc + len, lv, st', h') := by
  unfold mm_step
  rw [h1]; dsimp only
  rw [h2]; dsimp only
  rw [h3]; dsimp only
  rw [h4]; dsimp only
  rw [h5]; dsimp only
  rw [h6]; dsimp only
  rw [h7]; dsimp only
  rw [h8]
theorem mm_step_rd {i : Instr} {len : Nat} {st st' : List Value} (h1 : mm_load lv i len = none) (h2 : mm_store (t_nl k) lv i len st = none) (h3 : mm_arith i len st = none) (h4 : mm_stack i len st = none) (h5 : mm_jump pc i len st = none)
    (h6 : mm_rd h i len st = some st') : mm_step k d i len pc lv st h = some (pc + len, lv, st', h) := by
  unfold mm_step
  rw [h1]; dsimp only
  rw [h2]; dsimp only
  rw [h3]; dsimp only
  rw [h4]; dsimp only
  rw [h5]; dsimp only
  rw [h6]
theorem mm_step_wr {i : Instr} {len : Nat} {st st' : List Value} {h' : mm_H} (h1 : mm_load lv i len = none) (h2 : mm_store (t_nl k) lv i len st = none) (h3 : mm_arith i len st = none) (h4 : mm_stack i len st = none) (h5 : mm_jump pc i len st = none)
    (h6 : mm_rd h i len st = none) (h7 : mm_wr h i len st = some (st', h')) : mm_step k d i len pc lv st h = some (pc + len, lv, st', h') := by
  unfold mm_step
  rw [h1]; dsimp only
  rw [h2]; dsimp only
  rw [h3]; dsimp only
  rw [h4]; dsimp only
  rw [h5]; dsimp only
  rw [h6]; dsimp only
  rw [h7]
theorem x_get (hc : t_cod k pc = some (.getfield idx, 3)) (hf : t_fld (t_o k) idx = some (ci, j)) (ha : h.2.2 a = some (.inl (ci, fs))) (hv : fs[j]? = some v) (w : Wx d k (pc + 3) lv (v :: r) h Q) : Wx d k pc lv (.ref a :: r) h Q :=
  x_step hc (mm_step_fa rfl rfl rfl rfl rfl rfl rfl (by simp [mm_fa, hf, ha, hv, mm_beq_self])) w
theorem x_put (hc : t_cod k pc = some (.putfield idx, 3)) (hf : t_fld (t_o k) idx = some (ci, j)) (ha : h.2.2 a = some (.inl (ci, fs))) (hg : (mm_fit (t_ct ci j) v && (Nat.ble (j + 1) fs.length && (!(t_fin ci j) || t_ini k ci))) = true)
    (w : Wx d k (pc + 3) lv r (mm_upd h a (.inl (ci, fs.set j v))) Q) : Wx d k pc lv (v :: .ref a :: r) h Q :=
  x_step hc (mm_step_fa rfl rfl rfl rfl rfl rfl rfl (by simp only [mm_fa, hf, ha, mm_beq_self, hg, Bool.true_and, cond_true])) w
theorem x_ldc {x : Int32} (hc : t_cod k pc = some (.ldc idx, 2)) (hf : t_ci (t_o k) idx = some x) (w : Wx d k (pc + 2) lv (.int x :: r) h Q) : Wx d k pc lv r h Q :=
  x_step hc (mm_step_fa rfl rfl rfl rfl rfl rfl rfl (by simp only [mm_fa, hf])) w
theorem x_ldc2 {x : Int64} (hc : t_cod k pc = some (.ldc2_w idx, 3)) (hf : t_cj (t_o k) idx = some x) (w : Wx d k (pc + 3) lv (.long x :: r) h Q) : Wx d k pc lv r h Q :=
  x_step hc (mm_step_fa rfl rfl rfl rfl rfl rfl rfl (by simp only [mm_fa, hf])) w
theorem x_obj (hc : t_cod k pc = some (.invokespecial idx, 3)) (hf : (t_obi (t_o k) idx && (Nat.ble 1 d && Nat.ble (mm_w r) 12)) = true) (w : Wx d k (pc + 3) lv r h Q) : Wx d k pc lv (.ref a :: r) h Q :=
  x_step hc (mm_step_fa rfl rfl rfl rfl rfl rfl rfl (by simp only [mm_fa, hf, cond_true])) w
theorem x_max {x y : Int64} (hc : t_cod k pc = some (.invokestatic idx, 3)) (hf : t_mx (t_o k) idx = some true) (hg : (Nat.ble 1 d && Nat.ble (mm_w r) 12) = true) (w : Wx d k (pc + 3) lv (.long (if y < x then x else y) :: r) h Q) : Wx d k pc lv (.long y :: .long x :: r) h Q :=
  x_step hc (mm_step_fa rfl rfl rfl rfl rfl rfl rfl (by simp only [mm_fa, hf, hg, cond_true])) w
theorem x_min {x y : Int64} (hc : t_cod k pc = some (.invokestatic idx, 3)) (hf : t_mx (t_o k) idx = some false) (hg : (Nat.ble 1 d && Nat.ble (mm_w r) 12) = true) (w : Wx d k (pc + 3) lv (.long (if y < x then y else x) :: r) h Q) : Wx d k pc lv (.long y :: .long x :: r) h Q :=
  x_step hc (mm_step_fa rfl rfl rfl rfl rfl rfl rfl (by simp only [mm_fa, hf, hg, cond_true])) w
theorem x_iald {q : Int32} (hc : t_cod k pc = some (.iaload, 1)) (ha : h.2.2 a = some (.inr (0, n, f))) (hi : mm_idx q n = some j) (w : Wx d k (pc + 1) lv (f j :: r) h Q) : Wx d k pc lv (.int q :: .ref a :: r) h Q :=
  x_step hc (mm_step_rd rfl rfl rfl rfl rfl (by simp only [mm_rd, ha, hi, Option.map_some])) w
theorem x_sald {q : Int32} (hc : t_cod k pc = some (.iaload, 1)) (ha : h.2.2 a = some (.inr (5, n, f))) (hi : mm_idx q n = some j) (w : Wx d k (pc + 1) lv (f j :: r) h Q) : Wx d k pc lv (.int q :: .ref a :: r) h Q :=
  x_step hc (mm_step_rd rfl rfl rfl rfl rfl (by simp only [mm_rd, ha, hi, Option.map_some])) w
theorem x_lald {q : Int32} (hc : t_cod k pc = some (.laload, 1)) (ha : h.2.2 a = some (.inr (1, n, f))) (hi : mm_idx q n = some j) (w : Wx d k (pc + 1) lv (f j :: r) h Q) : Wx d k pc lv (.int q :: .ref a :: r) h Q :=
  x_step hc (mm_step_rd rfl rfl rfl rfl rfl (by simp only [mm_rd, ha, hi, Option.map_some])) w
theorem x_zald {q : Int32} (hc : t_cod k pc = some (.baload, 1)) (ha : h.2.2 a = some (.inr (2, n, f))) (hi : mm_idx q n = some j) (w : Wx d k (pc + 1) lv (f j :: r) h Q) : Wx d k pc lv (.int q :: .ref a :: r) h Q :=
  x_step hc (mm_step_rd rfl rfl rfl rfl rfl (by simp only [mm_rd, ha, hi, Option.map_some])) w
theorem x_aald3 {q : Int32} (hc : t_cod k pc = some (.aaload, 1)) (ha : h.2.2 a = some (.inr (3, n, f))) (hi : mm_idx q n = some j) (w : Wx d k (pc + 1) lv (f j :: r) h Q) : Wx d k pc lv (.int q :: .ref a :: r) h Q :=
  x_step hc (mm_step_rd rfl rfl rfl rfl rfl (by simp only [mm_rd, ha, hi, Option.map_some])) w
theorem x_aald4 {q : Int32} (hc : t_cod k pc = some (.aaload, 1)) (ha : h.2.2 a = some (.inr (4, n, f))) (hi : mm_idx q n = some j) (w : Wx d k (pc + 1) lv (f j :: r) h Q) : Wx d k pc lv (.int q :: .ref a :: r) h Q :=
  x_step hc (mm_step_rd rfl rfl rfl rfl rfl (by simp only [mm_rd, ha, hi, Option.map_some])) w
theorem x_alen1 (hc : t_cod k pc = some (.arraylength, 1)) (ha : h.2.2 a = some (.inr (1, n, f))) (w : Wx d k (pc + 1) lv (.int (Int32.ofNat n) :: r) h Q) : Wx d k pc lv (.ref a :: r) h Q :=
  x_step hc (mm_step_rd rfl rfl rfl rfl rfl (by simp only [mm_rd, ha])) w
theorem x_alen5 (hc : t_cod k pc = some (.arraylength, 1)) (ha : h.2.2 a = some (.inr (5, n, f))) (w : Wx d k (pc + 1) lv (.int (Int32.ofNat n) :: r) h Q) : Wx d k pc lv (.ref a :: r) h Q :=
  x_step hc (mm_step_rd rfl rfl rfl rfl rfl (by simp only [mm_rd, ha])) w
theorem x_iast {q x : Int32} (hc : t_cod k pc = some (.iastore, 1)) (ha : h.2.2 a = some (.inr (0, n, f))) (hi : mm_idx q n = some j) (w : Wx d k (pc + 1) lv r (mm_upd h a (.inr (0, n, updV f j (.int x)))) Q) : Wx d k pc lv (.int x :: .int q :: .ref a :: r) h Q :=
  x_step hc (mm_step_wr rfl rfl rfl rfl rfl rfl (by simp only [mm_wr, ha, hi, Option.map_some])) w
theorem x_last {q : Int32} {x : Int64} (hc : t_cod k pc = some (.lastore, 1)) (ha : h.2.2 a = some (.inr (1, n, f))) (hi : mm_idx q n = some j) (w : Wx d k (pc + 1) lv r (mm_upd h a (.inr (1, n, updV f j (.long x)))) Q) : Wx d k pc lv (.long x :: .int q :: .ref a :: r) h Q :=
  x_step hc (mm_step_wr rfl rfl rfl rfl rfl rfl (by simp only [mm_wr, ha, hi, Option.map_some])) w
theorem x_zast {q x : Int32} (hc : t_cod k pc = some (.bastore, 1)) (ha : h.2.2 a = some (.inr (2, n, f))) (hi : mm_idx q n = some j) (hx : (x == 0 || x == 1) = true) (w : Wx d k (pc + 1) lv r (mm_upd h a (.inr (2, n, updV f j (.int x)))) Q) : Wx d k pc lv (.int x :: .int q :: .ref a :: r) h Q :=
  x_step hc (mm_step_wr rfl rfl rfl rfl rfl rfl (by simp only [mm_wr, ha, hi, hx, Option.map_some, cond_true])) w
theorem x_aast3 {q : Int32} {b : Nat} (hc : t_cod k pc = some (.aastore, 1)) (ha : h.2.2 a = some (.inr (3, n, f))) (hb : h.2.2 b = some (.inl (1, fs))) (hi : mm_idx q n = some j) (w : Wx d k (pc + 1) lv r (mm_upd h a (.inr (3, n, updV f j (.ref b)))) Q) : Wx d k pc lv (.ref b :: .int q :: .ref a :: r) h Q :=
  x_step hc (mm_step_wr rfl rfl rfl rfl rfl rfl (by simp only [mm_wr, ha, hb, hi, Option.map_some])) w
theorem x_aast4 {q : Int32} {b : Nat} (hc : t_cod k pc = some (.aastore, 1)) (ha : h.2.2 a = some (.inr (4, n, f))) (hb : h.2.2 b = some (.inl (2, fs))) (hi : mm_idx q n = some j) (w : Wx d k (pc + 1) lv r (mm_upd h a (.inr (4, n, updV f j (.ref b)))) Q) : Wx d k pc lv (.ref b :: .int q :: .ref a :: r) h Q :=
  x_step hc (mm_step_wr rfl rfl rfl rfl rfl rfl (by simp only [mm_wr, ha, hb, hi, Option.map_some])) w
theorem x_new (hc : t_cod k pc = some (.new idx, 3)) (hf : t_cls (t_o k) idx = some ci) (hg : (Nat.ble 1 h.2.1.1 && Nat.ble (t_N ci) h.2.1.2) = true) (w : Wx d k (pc + 3) lv (.ref h.1 :: r) (mm_push h (t_N ci) (.inl (ci, t_df ci))) Q) : Wx d k pc lv r h Q :=
  x_step hc (mm_step_fa rfl rfl rfl rfl rfl rfl rfl (by simp only [mm_fa, hf, hg, cond_true])) w
theorem x_newa {ty : ArrayType} {q : Int32} (hc : t_cod k pc = some (.newarray ty, 2)) (hf : t_at ty = some t) (hg : ¬ (q < 0 ∨ 60000000 < q.toNatClampNeg ∨ h.2.1.1 < 1 ∨ h.2.1.2 < q.toNatClampNeg)) (w : Wx d k (pc + 2) lv (.ref h.1 :: r) (mm_push h q.toNatClampNeg (.inr (t, q.toNatClampNeg, fun _ => defaultValue (mm_ty t)))) Q) : Wx d k pc lv (.int q :: r) h Q :=
  x_step hc (mm_step_fa rfl rfl rfl rfl rfl rfl rfl (by simp only [mm_fa, hf, if_neg hg])) w
theorem x_anew {q : Int32} (hc : t_cod k pc = some (.anewarray idx, 3)) (hf : t_ary (t_o k) idx = some t) (hg : ¬ (q < 0 ∨ 60000000 < q.toNatClampNeg ∨ h.2.1.1 < 1 ∨ h.2.1.2 < q.toNatClampNeg)) (w : Wx d k (pc + 3) lv (.ref h.1 :: r) (mm_push h q.toNatClampNeg (.inr (t, q.toNatClampNeg, fun _ => .null))) Q) : Wx d k pc lv (.int q :: r) h Q :=
  x_step hc (mm_step_fa rfl rfl rfl rfl rfl rfl rfl (by simp only [mm_fa, hf, if_neg hg])) w
end WX2
end
section
/-! THE PURE STATE that class and reference share: counts (claims, assets, entries); then by field number and index:
Nat: 0 rank (claim), 1 securities (asset), 2 holder (4 * asset + place), 3 percentage (rank)
Int32: 0 state (claim), 1 realised (asset), 2 kind, 3 owner (entry), 4 ended (0), 5 unrealised securities (claim; the class alone)
Int64: 0 amount, 1 debt, 2 got, 3 paid, 4 reserved (claim), 5 limit (4 * asset + place), 6 cents (entry), 7 cash, income, spent (0, 1, 2) -/
abbrev pP : Type := (Nat × Nat × Nat) × (Nat → Nat → Nat) × (Nat → Nat → Int32) × (Nat → Nat → Int64)
abbrev pn (P : pP) : Nat := P.1.1
abbrev pa (P : pP) : Nat := P.1.2.1
abbrev pj (P : pP) : Nat := P.1.2.2
abbrev pN (P : pP) (f i : Nat) : Nat := P.2.1 f i
abbrev pI (P : pP) (f i : Nat) : Int32 := P.2.2.1 f i
abbrev pL (P : pP) (f i : Nat) : Int64 := P.2.2.2 f i
def s2 {α : Type} (F : Nat → Nat → α) (f i : Nat) (v : α) : Nat → Nat → α := fun g j => if g = f ∧ j = i then v else F g j
theorem s2_self {α : Type} (F : Nat → Nat → α) (f i : Nat) (v : α) : s2 F f i v f i = v := by simp [s2]
theorem s2_f {α : Type} (F : Nat → Nat → α) {f g : Nat} (i j : Nat) (v : α) (h : g ≠ f) : s2 F f i v g j = F g j := by simp [s2, h]
theorem s2_i {α : Type} (F : Nat → Nat → α) (f g : Nat) {i j : Nat} (v : α) (h : j ≠ i) : s2 F f i v g j = F g j := by simp [s2, h]
theorem s2_id {α : Type} (F : Nat → Nat → α) (f i : Nat) : s2 F f i (F f i) = F := by
  funext g j
  unfold s2
  split
  · rename_i e; rw [e.1, e.2]
  · rfl
def sC (P : pP) (n a j : Nat) : pP := ((n, a, j), P.2)
def sN (P : pP) (f i : Nat) (v : Nat) : pP := (P.1, s2 P.2.1 f i v, P.2.2)
def sI (P : pP) (f i : Nat) (v : Int32) : pP := (P.1, P.2.1, s2 P.2.2.1 f i v, P.2.2.2)
def sL (P : pP) (f i : Nat) (v : Int64) : pP := (P.1, P.2.1, P.2.2.1, s2 P.2.2.2 f i v)
/-- where the cells lie (by tag), how many rows of the last sharing the class has, the script -/
abbrev xX : Type := (Nat → Nat) × Nat × Nat × (Nat → Int32)
/-- the reference's code; rows: 0 lefts, 1 shares, 2 overs (reference), 3 shares, 4 remainders (class), 5 out (law) -/
abbrev zZ : Type := Int32 × (Nat → Nat → Int64)
def fx (X : xX) (P : pP) : List Value := [.ref (X.1 1), .int (nI (pn P)), .ref (X.1 2), .int (nI (pa P)), .ref (X.1 3), .ref (X.1 4), .long (pL P 7 0), .long (pL P 7 1), .long (pL P 7 2), .int (pI P 4 0)]
def fj (X : xX) (P : pP) : List Value := [.ref (X.1 5), .ref (X.1 6), .ref (X.1 7), .int (nI (pj P))]
def fm (X : xX) (M : pP) (z : zZ) : List Value := [.int z.1, .int (pI M 4 0), .int (nI (pn M)), .ref (X.1 9), .ref (X.1 10), .ref (X.1 11), .ref (X.1 12), .ref (X.1 13), .ref (X.1 14), .ref (X.1 15), .int (nI (pa M)), .ref (X.1 16), .ref (X.1 17), .ref (X.1 18), .ref (X.1 19), .ref (X.1 20), .long (pL M 7 0), .long (pL M 7 1), .long (pL M 7 2), .int (nI (pj M)), .ref (X.1 21), .ref (X.1 22), .ref (X.1 23), .ref (X.1 24), .ref (X.1 25), .ref (X.1 26)]
def fc (P : pP) (i : Nat) : List Value := [.int (nI i), .int (nI (pN P 0 i)), .int (pI P 0 i), .long (pL P 0 i), .long (pL P 1 i), .long (pL P 2 i), .long (pL P 3 i), .long (pL P 4 i), .int (pI P 5 i)]
def fa (X : xX) (P : pP) (j : Nat) : List Value := [.ref (X.1 (300 + j)), .ref (X.1 (400 + j)), .int (nI (pN P 1 j)), .int (pI P 1 j)]
def ct0 (X : xX) (P M : pP) (z : zZ) : List mm_C := [.inl (0, fx X P), .inr (3, 60, fun i => if i < pn P then .ref (X.1 (100 + i)) else .null), .inr (4, 20, fun j => if j < pa P then .ref (X.1 (200 + j)) else .null), .inr (0, 8, fun r => .int (nI (pN P 3 r))), .inl (3, fj X P), .inr (0, 3000, fun e => .int (pI P 2 e)), .inr (0, 3000, fun e => .int (pI P 3 e)), .inr (1, 3000, fun e => .long (pL P 6 e)),
  .inl (4, fm X M z), .inr (0, 60, fun i => .int (nI (pN M 0 i))), .inr (1, 60, fun i => .long (pL M 0 i)), .inr (1, 60, fun i => .long (pL M 1 i)), .inr (1, 60, fun i => .long (pL M 2 i)), .inr (1, 60, fun i => .long (pL M 3 i)), .inr (1, 60, fun i => .long (pL M 4 i)), .inr (0, 60, fun i => .int (pI M 0 i)), .inr (2, 20, fun j => .int (pI M 1 j)), .inr (0, 20, fun j => .int (nI (pN M 1 j))), .inr (0, 80, fun q => .int (nI (pN M 2 q))), .inr (1, 80, fun q => .long (pL M 5 q)), .inr (0, 8, fun r => .int (nI (pN M 3 r))), .inr (0, 3000, fun e => .int (pI M 2 e)), .inr (0, 3000, fun e => .int (pI M 3 e)), .inr (1, 3000, fun e => .long (pL M 6 e)),
  .inr (1, 60, fun i => .long (z.2 0 i)), .inr (1, 60, fun i => .long (z.2 1 i)), .inr (1, 60, fun i => .long (z.2 2 i)), .inr (1, 1, fun i => .long (z.2 5 i)), .inr (5, X.2.2.1, fun i => .int (X.2.2.2 i)), .inr (1, pn P, fun i => .long (z.2 3 i)), .inr (1, pn P, fun i => .long (z.2 4 i))]
def ctC (P : pP) (i : Nat) : mm_C := .inl (1, fc P i)
def ctA (X : xX) (P : pP) (j : Nat) : mm_C := .inl (2, fa X P j)
def ctH (X : xX) (P : pP) (j : Nat) : mm_C := .inr (3, 4, fun k => if k < pN P 1 j then .ref (X.1 (100 + pN P 2 (4 * j + k))) else .null)
def ctL (P : pP) (j : Nat) : mm_C := .inr (1, 4, fun k => if k < 4 then .long (pL P 5 (4 * j + k)) else .long 0)
def ct (X : xX) (P M : pP) (z : zZ) (t : Nat) : mm_C := if t < 100 then (ct0 X P M z).getD t (.inl (9, [])) else if t < 200 then ctC P (t - 100) else if t < 300 then ctA X P (t - 200) else if t < 400 then ctH X P (t - 300) else ctL P (t - 400)
/-- which tags have a cell -/
def lv (X : xX) (P : pP) (t : Nat) : Prop := t < 29 + X.2.1 ∨ (100 ≤ t ∧ t < 100 + pn P) ∨ (200 ≤ t ∧ t < 200 + pa P) ∨ (300 ≤ t ∧ t < 300 + pa P) ∨ (400 ≤ t ∧ t < 400 + pa P)
def wf (v : Nat) (P : pP) : Prop := pn P ≤ 60 ∧ pa P ≤ 20 ∧ pj P + v ≤ 2 ^ 30 ∧ (∀ i, i < pn P → pN P 0 i < 8) ∧ (∀ j, j < pa P → pN P 1 j ≤ 4) ∧ (∀ j, j < pa P → ∀ k, k < pN P 1 j → pN P 2 (4 * j + k) < pn P) ∧ (∀ r, pN P 3 r ≤ 10000)
/-- the heap holds P in the class's cells and M in the reference's; u things more may be made, v entries more may be noted -/
def Rep (u v : Nat) (X : xX) (P M : pP) (z : zZ) (h : mm_H) : Prop :=
  (∀ t, lv X P t → h.2.2 (X.1 t) = some (ct X P M z t) ∧ X.1 t < h.1) ∧ (∀ t t', lv X P t → lv X P t' → X.1 t = X.1 t' → t = t') ∧ (u ≤ h.2.1.1 ∧ 60 * u ≤ h.2.1.2) ∧ wf v P ∧ wf v M ∧ X.2.1 ≤ 2
section REP
variable {u v : Nat} {X : xX} {P P' M M' : pP} {z z' : zZ} {h : mm_H} {i j t0 : Nat} {c : mm_C}
theorem Rep.wP (R : Rep u v X P M z h) : wf v P := R.2.2.2.1
theorem Rep.wM (R : Rep u v X P M z h) : wf v M := R.2.2.2.2.1
theorem Rep.n60 (R : Rep u v X P M z h) : pn P ≤ 60 := R.wP.1
theorem Rep.a20 (R : Rep u v X P M z h) : pa P ≤ 20 := R.wP.2.1
theorem Rep.m60 (R : Rep u v X P M z h) : pn M ≤ 60 := R.wM.1
theorem Rep.b20 (R : Rep u v X P M z h) : pa M ≤ 20 := R.wM.2.1
theorem wf.rk {v : Nat} (h : wf v P) {i : Nat} (hi : i < pn P) : pN P 0 i < 8 := h.2.2.2.1 i hi
theorem wf.mn {v : Nat} (h : wf v P) {j : Nat} (hj : j < pa P) : pN P 1 j ≤ 4 := h.2.2.2.2.1 j hj
theorem wf.hd {v : Nat} (h : wf v P) {j k : Nat} (hj : j < pa P) (hk : k < pN P 1 j) : pN P 2 (4 * j + k) < pn P := h.2.2.2.2.2.1 j hj k hk
theorem wf.pc {v : Nat} (h : wf v P) (r : Nat) : pN P 3 r ≤ 10000 := h.2.2.2.2.2.2 r
theorem wf.less {v v' : Nat} (h : wf v P) (hv : v' ≤ v) : wf v' P := ⟨h.1, h.2.1, Nat.le_trans (Nat.add_le_add_left hv _) h.2.2.1, h.2.2.2⟩
theorem Rep.less {u' v' : Nat} (R : Rep u v X P M z h) (hu : u' ≤ u) (hv : v' ≤ v) : Rep u' v' X P M z h :=
  ⟨R.1, R.2.1, ⟨Nat.le_trans hu R.2.2.1.1, Nat.le_trans (Nat.mul_le_mul_left 60 hu) R.2.2.1.2⟩, R.wP.less hv, R.wM.less hv, R.2.2.2.2.2⟩
theorem Rep.c0 (R : Rep u v X P M z h) : h.2.2 (X.1 0) = some (.inl (0, fx X P)) := (R.1 0 (Or.inl (by omega))).1
theorem Rep.c1 (R : Rep u v X P M z h) : h.2.2 (X.1 1) = some (.inr (3, 60, fun i => if i < pn P then .ref (X.1 (100 + i)) else .null)) := (R.1 1 (Or.inl (by omega))).1
theorem Rep.c2 (R : Rep u v X P M z h) : h.2.2 (X.1 2) = some (.inr (4, 20, fun j => if j < pa P then .ref (X.1 (200 + j)) else .null)) := (R.1 2 (Or.inl (by omega))).1
theorem Rep.c3 (R : Rep u v X P M z h) : h.2.2 (X.1 3) = some (.inr (0, 8, fun r => .int (nI (pN P 3 r)))) := (R.1 3 (Or.inl (by omega))).1
theorem Rep.c4 (R : Rep u v X P M z h) : h.2.2 (X.1 4) = some (.inl (3, fj X P)) := (R.1 4 (Or.inl (by omega))).1
theorem Rep.c5 (R : Rep u v X P M z h) : h.2.2 (X.1 5) = some (.inr (0, 3000, fun e => .int (pI P 2 e))) := (R.1 5 (Or.inl (by omega))).1
theorem Rep.c6 (R : Rep u v X P M z h) : h.2.2 (X.1 6) = some (.inr (0, 3000, fun e => .int (pI P 3 e))) := (R.1 6 (Or.inl (by omega))).1
theorem Rep.c7 (R : Rep u v X P M z h) : h.2.2 (X.1 7) = some (.inr (1, 3000, fun e => .long (pL P 6 e))) := (R.1 7 (Or.inl (by omega))).1
theorem Rep.c8 (R : Rep u v X P M z h) : h.2.2 (X.1 8) = some (.inl (4, fm X M z)) := (R.1 8 (Or.inl (by omega))).1
theorem Rep.c9 (R : Rep u v X P M z h) : h.2.2 (X.1 9) = some (.inr (0, 60, fun i => .int (nI (pN M 0 i)))) := (R.1 9 (Or.inl (by omega))).1
theorem Rep.c10 (R : Rep u v X P M z h) : h.2.2 (X.1 10) = some (.inr (1, 60, fun i => .long (pL M 0 i))) := (R.1 10 (Or.inl (by omega))).1
theorem Rep.c11 (R : Rep u v X P M z h) : h.2.2 (X.1 11) = some (.inr (1, 60, fun i => .long (pL M 1 i))) := (R.1 11 (Or.inl (by omega))).1
theorem Rep.c12 (R : Rep u v X P M z h) : h.2.2 (X.1 12) = some (.inr (1, 60, fun i => .long (pL M 2 i))) := (R.1 12 (Or.inl (by omega))).1
theorem Rep.c13 (R : Rep u v X P M z h) : h.2.2 (X.1 13) = some (.inr (1, 60, fun i => .long (pL M 3 i))) := (R.1 13 (Or.inl (by omega))).1
theorem Rep.c14 (R : Rep u v X P M z h) : h.2.2 (X.1 14) = some (.inr (1, 60, fun i => .long (pL M 4 i))) := (R.1 14 (Or.inl (by omega))).1
theorem Rep.c15 (R : Rep u v X P M z h) : h.2.2 (X.1 15) = some (.inr (0, 60, fun i => .int (pI M 0 i))) := (R.1 15 (Or.inl (by omega))).1
theorem Rep.c16 (R : Rep u v X P M z h) : h.2.2 (X.1 16) = some (.inr (2, 20, fun j => .int (pI M 1 j))) := (R.1 16 (Or.inl (by omega))).1
theorem Rep.c17 (R : Rep u v X P M z h) : h.2.2 (X.1 17) = some (.inr (0, 20, fun j => .int (nI (pN M 1 j)))) := (R.1 17 (Or.inl (by omega))).1
theorem Rep.c18 (R : Rep u v X P M z h) : h.2.2 (X.1 18) = some (.inr (0, 80, fun q => .int (nI (pN M 2 q)))) := (R.1 18 (Or.inl (by omega))).1
theorem Rep.c19 (R : Rep u v X P M z h) : h.2.2 (X.1 19) = some (.inr (1, 80, fun q => .long (pL M 5 q))) := (R.1 19 (Or.inl (by omega))).1
theorem Rep.c20 (R : Rep u v X P M z h) : h.2.2 (X.1 20) = some (.inr (0, 8, fun r => .int (nI (pN M 3 r)))) := (R.1 20 (Or.inl (by omega))).1
theorem Rep.c21 (R : Rep u v X P M z h) : h.2.2 (X.1 21) = some (.inr (0, 3000, fun e => .int (pI M 2 e))) := (R.1 21 (Or.inl (by omega))).1
theorem Rep.c22 (R : Rep u v X P M z h) : h.2.2 (X.1 22) = some (.inr (0, 3000, fun e => .int (pI M 3 e))) := (R.1 22 (Or.inl (by omega))).1
theorem Rep.c23 (R : Rep u v X P M z h) : h.2.2 (X.1 23) = some (.inr (1, 3000, fun e => .long (pL M 6 e))) := (R.1 23 (Or.inl (by omega))).1
theorem Rep.c24 (R : Rep u v X P M z h) : h.2.2 (X.1 24) = some (.inr (1, 60, fun i => .long (z.2 0 i))) := (R.1 24 (Or.inl (by omega))).1
theorem Rep.c25 (R : Rep u v X P M z h) : h.2.2 (X.1 25) = some (.inr (1, 60, fun i => .long (z.2 1 i))) := (R.1 25 (Or.inl (by omega))).1
theorem Rep.c26 (R : Rep u v X P M z h) : h.2.2 (X.1 26) = some (.inr (1, 60, fun i => .long (z.2 2 i))) := (R.1 26 (Or.inl (by omega))).1
theorem Rep.c27 (R : Rep u v X P M z h) : h.2.2 (X.1 27) = some (.inr (1, 1, fun i => .long (z.2 5 i))) := (R.1 27 (Or.inl (by omega))).1
theorem Rep.c28 (R : Rep u v X P M z h) : h.2.2 (X.1 28) = some (.inr (5, X.2.2.1, fun i => .int (X.2.2.2 i))) := (R.1 28 (Or.inl (by omega))).1
theorem Rep.c29 (R : Rep u v X P M z h) (hw : X.2.1 = 2) : h.2.2 (X.1 29) = some (.inr (1, pn P, fun i => .long (z.2 3 i))) := (R.1 29 (Or.inl (by omega))).1
theorem Rep.c30 (R : Rep u v X P M z h) (hw : X.2.1 = 2) : h.2.2 (X.1 30) = some (.inr (1, pn P, fun i => .long (z.2 4 i))) := (R.1 30 (Or.inl (by omega))).1
theorem ct_C (hi : i < 100) : ct X P M z (100 + i) = ctC P i := by
  unfold ct
  rw [if_neg (by omega), if_pos (by omega), Nat.add_sub_cancel_left]
theorem ct_A (hi : i < 100) : ct X P M z (200 + i) = ctA X P i := by
  unfold ct
  rw [if_neg (by omega), if_neg (by omega), if_pos (by omega), Nat.add_sub_cancel_left]
theorem ct_H (hi : i < 100) : ct X P M z (300 + i) = ctH X P i := by
  unfold ct
  rw [if_neg (by omega), if_neg (by omega), if_neg (by omega), if_pos (by omega), Nat.add_sub_cancel_left]
theorem ct_L (hi : i < 100) : ct X P M z (400 + i) = ctL P i := by
  unfold ct
  rw [if_neg (by omega), if_neg (by omega), if_neg (by omega), if_neg (by omega), Nat.add_sub_cancel_left]
theorem Rep.cC (R : Rep u v X P M z h) (hi : i < pn P) : h.2.2 (X.1 (100 + i)) = some (.inl (1, fc P i)) := by
  have := R.n60
  rw [(R.1 (100 + i) (Or.inr (Or.inl (by omega)))).1, ct_C (by omega)]
  rfl
theorem Rep.cA (R : Rep u v X P M z h) (hi : i < pa P) : h.2.2 (X.1 (200 + i)) = some (.inl (2, fa X P i)) := by
  have := R.a20
  rw [(R.1 (200 + i) (Or.inr (Or.inr (Or.inl (by omega))))).1, ct_A (by omega)]
  rfl
theorem Rep.cH (R : Rep u v X P M z h) (hi : i < pa P) : h.2.2 (X.1 (300 + i)) = some (.inr (3, 4, fun k => if k < pN P 1 i then .ref (X.1 (100 + pN P 2 (4 * i + k))) else .null)) := by
  have := R.a20
  rw [(R.1 (300 + i) (Or.inr (Or.inr (Or.inr (Or.inl (by omega)))))).1, ct_H (by omega)]
  rfl
theorem Rep.cL (R : Rep u v X P M z h) (hi : i < pa P) : h.2.2 (X.1 (400 + i)) = some (.inr (1, 4, fun k => if k < 4 then .long (pL P 5 (4 * i + k)) else .long 0)) := by
  have := R.a20
  rw [(R.1 (400 + i) (Or.inr (Or.inr (Or.inr (Or.inr (by omega)))))).1, ct_L (by omega)]
  rfl
/-- a write at the tag t0 that takes P, M, z to P', M', z' -/
theorem Rep.upd {v' : Nat} (R : Rep u v X P M z h) (h0 : lv X P t0) (hl : ∀ t, lv X P' t → lv X P t) (hc : ct X P' M' z' t0 = c) (ho : ∀ t, lv X P t → t ≠ t0 → ct X P' M' z' t = ct X P M z t) (wP : wf v' P') (wM : wf v' M') : Rep u v' X P' M' z' (mm_upd h (X.1 t0) c) := by
  refine ⟨fun t ht => ?_, fun t t' ht ht' e => R.2.1 t t' (hl t ht) (hl t' ht') e, R.2.2.1, wP, wM, R.2.2.2.2.2⟩
  have ht' := hl t ht
  refine ⟨?_, (R.1 t ht').2⟩
  by_cases e : t = t0
  · subst e
    rw [mm_upd_self, hc]
  · rw [mm_upd_ne _ _ (fun hx => e (R.2.1 t t0 ht' h0 hx)), (R.1 t ht').1, ho t ht' e]
theorem Rep.injC {a b : Nat} (R : Rep u v X P M z h) (ha : a < pn P) (hb : b < pn P) (e : X.1 (100 + a) = X.1 (100 + b)) : a = b := by
  have := R.2.1 _ _ (Or.inr (Or.inl (by omega))) (Or.inr (Or.inl (by omega))) e
  omega
theorem ct_tag (hl : ct0 X P' M' z' = (ct0 X P M z).set t0 c) (hC : ∀ i, ctC P' i = ctC P i) (hA : ∀ j, ctA X P' j = ctA X P j) (hH : ∀ j, ctH X P' j = ctH X P j) (hL : ∀ j, ctL P' j = ctL P j) : ∀ t, lv X P t → t ≠ t0 → ct X P' M' z' t = ct X P M z t := by
  intro t _ ht
  unfold ct
  rw [hl, hC, hA, hH, hL, List.getD_eq_getElem?_getD, List.getD_eq_getElem?_getD, List.getElem?_set_ne (Ne.symm ht)]
theorem ct_claim (hl : ct0 X P' M z = ct0 X P M z) (hC : ∀ q, q ≠ i → ctC P' q = ctC P q) (hA : ∀ j, ctA X P' j = ctA X P j) (hH : ∀ j, ctH X P' j = ctH X P j) (hL : ∀ j, ctL P' j = ctL P j) : ∀ t, lv X P t → t ≠ 100 + i → ct X P' M z t = ct X P M z t := by
  intro t _ ht
  unfold ct
  rw [hl, hA, hH, hL]
  split
  · rfl
  · split
    · exact hC _ (by omega)
    · rfl
theorem ct_asset (hl : ct0 X P' M z = ct0 X P M z) (hC : ∀ q, ctC P' q = ctC P q) (hA : ∀ q, q ≠ j → ctA X P' q = ctA X P q) (hH : ∀ j, ctH X P' j = ctH X P j) (hL : ∀ j, ctL P' j = ctL P j) : ∀ t, lv X P t → t ≠ 200 + j → ct X P' M z t = ct X P M z t := by
  intro t _ ht
  unfold ct
  rw [hl, hC, hH, hL]
  split
  · rfl
  · split
    · rfl
    · split
      · exact hA _ (by omega)
      · rfl
end REP
end
section
section UPD
variable {u v : Nat} {X : xX} {P M : pP} {z : zZ} {h : mm_H} {i j q : Nat}
theorem updV_s {α : Type} (g : α → Value) (F : Nat → Nat → α) (f q : Nat) (x : α) : updV (fun i => g (F f i)) q (g x) = fun i => g (s2 F f q x f i) := by
  funext i
  unfold updV s2
  by_cases hq : i = q
  · rw [if_pos hq, if_pos ⟨rfl, hq⟩]
  · rw [if_neg hq, if_neg (fun e => hq e.2)]
theorem wf_pct {x : Nat} (w : wf v P) (hx : x ≤ 10000) : wf v (sN P 3 q x) := by
  refine ⟨w.1, w.2.1, w.2.2.1, w.2.2.2.1, w.2.2.2.2.1, w.2.2.2.2.2.1, fun r => ?_⟩
  show s2 P.2.1 3 q x 3 r ≤ 10000
  unfold s2
  split
  · exact hx
  · exact w.pc r
theorem Rep.lvC (R : Rep u v X P M z h) (hi : i < pn P) : lv X P (100 + i) := Or.inr (Or.inl (by omega))
theorem Rep.lvA (R : Rep u v X P M z h) (hi : i < pa P) : lv X P (200 + i) := Or.inr (Or.inr (Or.inl (by omega)))
theorem Rep.uState (R : Rep u v X P M z h) (hi : i < pn P) (x : Int32) : Rep u v X (sI P 0 i x) M z (mm_upd h (X.1 (100 + i)) (.inl (1, (fc P i).set 2 (.int x)))) := by
  have := R.n60
  refine R.upd (t0 := 100 + i) (R.lvC hi) (fun _ h => h) ?_ (ct_claim rfl (fun q hq => ?_) (fun _ => rfl) (fun _ => rfl) (fun _ => rfl)) R.wP R.wM
  · rw [ct_C (by omega)]
    simp [ctC, fc, sL, sI, pI, pL, pN, s2]
  · simp [ctC, fc, sL, sI, pI, pL, pN, s2, hq]
theorem Rep.uAmount (R : Rep u v X P M z h) (hi : i < pn P) (x : Int64) : Rep u v X (sL P 0 i x) M z (mm_upd h (X.1 (100 + i)) (.inl (1, (fc P i).set 3 (.long x)))) := by
  have := R.n60
  refine R.upd (t0 := 100 + i) (R.lvC hi) (fun _ h => h) ?_ (ct_claim rfl (fun q hq => ?_) (fun _ => rfl) (fun _ => rfl) (fun _ => rfl)) R.wP R.wM
  · rw [ct_C (by omega)]
    simp [ctC, fc, sL, sI, pI, pL, pN, s2]
  · simp [ctC, fc, sL, sI, pI, pL, pN, s2, hq]
theorem Rep.uDebt (R : Rep u v X P M z h) (hi : i < pn P) (x : Int64) : Rep u v X (sL P 1 i x) M z (mm_upd h (X.1 (100 + i)) (.inl (1, (fc P i).set 4 (.long x)))) := by
  have := R.n60
  refine R.upd (t0 := 100 + i) (R.lvC hi) (fun _ h => h) ?_ (ct_claim rfl (fun q hq => ?_) (fun _ => rfl) (fun _ => rfl) (fun _ => rfl)) R.wP R.wM
  · rw [ct_C (by omega)]
    simp [ctC, fc, sL, sI, pI, pL, pN, s2]
  · simp [ctC, fc, sL, sI, pI, pL, pN, s2, hq]
theorem Rep.uGot (R : Rep u v X P M z h) (hi : i < pn P) (x : Int64) : Rep u v X (sL P 2 i x) M z (mm_upd h (X.1 (100 + i)) (.inl (1, (fc P i).set 5 (.long x)))) := by
  have := R.n60
  refine R.upd (t0 := 100 + i) (R.lvC hi) (fun _ h => h) ?_ (ct_claim rfl (fun q hq => ?_) (fun _ => rfl) (fun _ => rfl) (fun _ => rfl)) R.wP R.wM
  · rw [ct_C (by omega)]
    simp [ctC, fc, sL, sI, pI, pL, pN, s2]
  · simp [ctC, fc, sL, sI, pI, pL, pN, s2, hq]
theorem Rep.uPaid (R : Rep u v X P M z h) (hi : i < pn P) (x : Int64) : Rep u v X (sL P 3 i x) M z (mm_upd h (X.1 (100 + i)) (.inl (1, (fc P i).set 6 (.long x)))) := by
  have := R.n60
  refine R.upd (t0 := 100 + i) (R.lvC hi) (fun _ h => h) ?_ (ct_claim rfl (fun q hq => ?_) (fun _ => rfl) (fun _ => rfl) (fun _ => rfl)) R.wP R.wM
  · rw [ct_C (by omega)]
    simp [ctC, fc, sL, sI, pI, pL, pN, s2]
  · simp [ctC, fc, sL, sI, pI, pL, pN, s2, hq]
theorem Rep.uRes (R : Rep u v X P M z h) (hi : i < pn P) (x : Int64) : Rep u v X (sL P 4 i x) M z (mm_upd h (X.1 (100 + i)) (.inl (1, (fc P i).set 7 (.long x)))) := by
  have := R.n60
  refine R.upd (t0 := 100 + i) (R.lvC hi) (fun _ h => h) ?_ (ct_claim rfl (fun q hq => ?_) (fun _ => rfl) (fun _ => rfl) (fun _ => rfl)) R.wP R.wM
  · rw [ct_C (by omega)]
    simp [ctC, fc, sL, sI, pI, pL, pN, s2]
  · simp [ctC, fc, sL, sI, pI, pL, pN, s2, hq]
theorem Rep.uUnre (R : Rep u v X P M z h) (hi : i < pn P) (x : Int32) : Rep u v X (sI P 5 i x) M z (mm_upd h (X.1 (100 + i)) (.inl (1, (fc P i).set 8 (.int x)))) := by
  have := R.n60
  refine R.upd (t0 := 100 + i) (R.lvC hi) (fun _ h => h) ?_ (ct_claim rfl (fun q hq => ?_) (fun _ => rfl) (fun _ => rfl) (fun _ => rfl)) R.wP R.wM
  · rw [ct_C (by omega)]
    simp [ctC, fc, sL, sI, pI, pL, pN, s2]
  · simp [ctC, fc, sL, sI, pI, pL, pN, s2, hq]
theorem Rep.uReal (R : Rep u v X P M z h) (hi : i < pa P) (x : Int32) : Rep u v X (sI P 1 i x) M z (mm_upd h (X.1 (200 + i)) (.inl (2, (fa X P i).set 3 (.int x)))) := by
  have := R.a20
  refine R.upd (t0 := 200 + i) (R.lvA hi) (fun _ h => h) ?_ (ct_asset rfl (fun _ => rfl) (fun q hq => ?_) (fun _ => rfl) (fun _ => rfl)) R.wP R.wM
  · rw [ct_A (by omega)]
    simp [ctA, fa, sL, sI, pI, pL, pN, s2]
  · simp [ctA, fa, sL, sI, pI, pL, pN, s2, hq]
theorem Rep.uCash (R : Rep u v X P M z h) (x : Int64) : Rep u v X (sL P 7 0 x) (M) (z) (mm_upd h (X.1 0) (.inl (0, (fx X P).set 6 (.long x)))) :=
  R.upd (t0 := 0) (Or.inl (by omega)) (fun _ h => h) rfl (ct_tag rfl (fun _ => rfl) (fun _ => rfl) (fun _ => rfl) (fun _ => rfl)) R.wP R.wM
theorem Rep.uInc (R : Rep u v X P M z h) (x : Int64) : Rep u v X (sL P 7 1 x) (M) (z) (mm_upd h (X.1 0) (.inl (0, (fx X P).set 7 (.long x)))) :=
  R.upd (t0 := 0) (Or.inl (by omega)) (fun _ h => h) rfl (ct_tag rfl (fun _ => rfl) (fun _ => rfl) (fun _ => rfl) (fun _ => rfl)) R.wP R.wM
theorem Rep.uSpent (R : Rep u v X P M z h) (x : Int64) : Rep u v X (sL P 7 2 x) (M) (z) (mm_upd h (X.1 0) (.inl (0, (fx X P).set 8 (.long x)))) :=
  R.upd (t0 := 0) (Or.inl (by omega)) (fun _ h => h) rfl (ct_tag rfl (fun _ => rfl) (fun _ => rfl) (fun _ => rfl) (fun _ => rfl)) R.wP R.wM
theorem Rep.uEnded (R : Rep u v X P M z h) (x : Int32) : Rep u v X (sI P 4 0 x) (M) (z) (mm_upd h (X.1 0) (.inl (0, (fx X P).set 9 (.int x)))) :=
  R.upd (t0 := 0) (Or.inl (by omega)) (fun _ h => h) rfl (ct_tag rfl (fun _ => rfl) (fun _ => rfl) (fun _ => rfl) (fun _ => rfl)) R.wP R.wM
theorem Rep.uCount (R : Rep u (v + 1) X P M z h) : Rep u v X (sC P (pn P) (pa P) (pj P + 1)) (M) (z) (mm_upd h (X.1 4) (.inl (3, (fj X P).set 3 (.int (nI (pj P + 1)))))) :=
  R.upd (t0 := 4) (Or.inl (by omega)) (fun _ h => h) rfl (ct_tag rfl (fun _ => rfl) (fun _ => rfl) (fun _ => rfl) (fun _ => rfl)) ⟨R.wP.1, R.wP.2.1, (show P.1.2.2 + 1 + v ≤ 2 ^ 30 by have := R.wP.2.2.1; unfold pj at this; omega), R.wP.2.2.2⟩ (R.wM.less (Nat.le_succ v))
theorem Rep.mCode (R : Rep u v X P M z h) (x : Int32) : Rep u v X (P) (M) ((x, z.2)) (mm_upd h (X.1 8) (.inl (4, (fm X M z).set 0 (.int x)))) :=
  R.upd (t0 := 8) (Or.inl (by omega)) (fun _ h => h) rfl (ct_tag rfl (fun _ => rfl) (fun _ => rfl) (fun _ => rfl) (fun _ => rfl)) R.wP R.wM
theorem Rep.mEnded (R : Rep u v X P M z h) (x : Int32) : Rep u v X (P) (sI M 4 0 x) (z) (mm_upd h (X.1 8) (.inl (4, (fm X M z).set 1 (.int x)))) :=
  R.upd (t0 := 8) (Or.inl (by omega)) (fun _ h => h) rfl (ct_tag rfl (fun _ => rfl) (fun _ => rfl) (fun _ => rfl) (fun _ => rfl)) R.wP R.wM
theorem Rep.mClaims (R : Rep u v X P M z h) {n : Nat} (hw : wf v (sC M n (pa M) (pj M))) : Rep u v X (P) (sC M n (pa M) (pj M)) (z) (mm_upd h (X.1 8) (.inl (4, (fm X M z).set 2 (.int (nI n))))) :=
  R.upd (t0 := 8) (Or.inl (by omega)) (fun _ h => h) rfl (ct_tag rfl (fun _ => rfl) (fun _ => rfl) (fun _ => rfl) (fun _ => rfl)) R.wP hw
theorem Rep.mAssets (R : Rep u v X P M z h) {n : Nat} (hw : wf v (sC M (pn M) n (pj M))) : Rep u v X (P) (sC M (pn M) n (pj M)) (z) (mm_upd h (X.1 8) (.inl (4, (fm X M z).set 10 (.int (nI n))))) :=
  R.upd (t0 := 8) (Or.inl (by omega)) (fun _ h => h) rfl (ct_tag rfl (fun _ => rfl) (fun _ => rfl) (fun _ => rfl) (fun _ => rfl)) R.wP hw
theorem Rep.mCash (R : Rep u v X P M z h) (x : Int64) : Rep u v X (P) (sL M 7 0 x) (z) (mm_upd h (X.1 8) (.inl (4, (fm X M z).set 16 (.long x)))) :=
  R.upd (t0 := 8) (Or.inl (by omega)) (fun _ h => h) rfl (ct_tag rfl (fun _ => rfl) (fun _ => rfl) (fun _ => rfl) (fun _ => rfl)) R.wP R.wM
theorem Rep.mInc (R : Rep u v X P M z h) (x : Int64) : Rep u v X (P) (sL M 7 1 x) (z) (mm_upd h (X.1 8) (.inl (4, (fm X M z).set 17 (.long x)))) :=
  R.upd (t0 := 8) (Or.inl (by omega)) (fun _ h => h) rfl (ct_tag rfl (fun _ => rfl) (fun _ => rfl) (fun _ => rfl) (fun _ => rfl)) R.wP R.wM
theorem Rep.mSpent (R : Rep u v X P M z h) (x : Int64) : Rep u v X (P) (sL M 7 2 x) (z) (mm_upd h (X.1 8) (.inl (4, (fm X M z).set 18 (.long x)))) :=
  R.upd (t0 := 8) (Or.inl (by omega)) (fun _ h => h) rfl (ct_tag rfl (fun _ => rfl) (fun _ => rfl) (fun _ => rfl) (fun _ => rfl)) R.wP R.wM
theorem Rep.mCount (R : Rep u (v + 1) X P M z h) : Rep u v X (P) (sC M (pn M) (pa M) (pj M + 1)) (z) (mm_upd h (X.1 8) (.inl (4, (fm X M z).set 19 (.int (nI (pj M + 1)))))) :=
  R.upd (t0 := 8) (Or.inl (by omega)) (fun _ h => h) rfl (ct_tag rfl (fun _ => rfl) (fun _ => rfl) (fun _ => rfl) (fun _ => rfl)) (R.wP.less (Nat.le_succ v)) ⟨R.wM.1, R.wM.2.1, (show M.1.2.2 + 1 + v ≤ 2 ^ 30 by have := R.wM.2.2.1; unfold pj at this; omega), R.wM.2.2.2⟩
theorem Rep.uPct (R : Rep u v X P M z h) {q : Nat} (x : Nat) (hx : x ≤ 10000) : Rep u v X (sN P 3 q x) (M) (z) (mm_upd h (X.1 3) (.inr (0, 8, updV (fun i => Value.int (nI (pN P 3 i))) q (Value.int (nI (x)))))) := by
  rw [show updV (fun i => Value.int (nI (pN P 3 i))) q (Value.int (nI (x))) = fun i => Value.int (nI (s2 (P.2.1) 3 q x 3 i)) from updV_s (fun y => Value.int (nI (y))) (P.2.1) 3 q x]
  exact R.upd (t0 := 3) (Or.inl (by omega)) (fun _ h => h) rfl (ct_tag rfl (fun _ => rfl) (fun _ => rfl) (fun _ => rfl) (fun _ => rfl)) (wf_pct R.wP hx) R.wM
theorem Rep.uKind (R : Rep u v X P M z h) {q : Nat} (x : Int32) : Rep u v X (sI P 2 q x) (M) (z) (mm_upd h (X.1 5) (.inr (0, 3000, updV (fun i => Value.int (pI P 2 i)) q (Value.int (x))))) := by
  rw [show updV (fun i => Value.int (pI P 2 i)) q (Value.int (x)) = fun i => Value.int (s2 (P.2.2.1) 2 q x 2 i) from updV_s (fun y => Value.int (y)) (P.2.2.1) 2 q x]
  exact R.upd (t0 := 5) (Or.inl (by omega)) (fun _ h => h) rfl (ct_tag rfl (fun _ => rfl) (fun _ => rfl) (fun _ => rfl) (fun _ => rfl)) R.wP R.wM
theorem Rep.uOwner (R : Rep u v X P M z h) {q : Nat} (x : Int32) : Rep u v X (sI P 3 q x) (M) (z) (mm_upd h (X.1 6) (.inr (0, 3000, updV (fun i => Value.int (pI P 3 i)) q (Value.int (x))))) := by
  rw [show updV (fun i => Value.int (pI P 3 i)) q (Value.int (x)) = fun i => Value.int (s2 (P.2.2.1) 3 q x 3 i) from updV_s (fun y => Value.int (y)) (P.2.2.1) 3 q x]
  exact R.upd (t0 := 6) (Or.inl (by omega)) (fun _ h => h) rfl (ct_tag rfl (fun _ => rfl) (fun _ => rfl) (fun _ => rfl) (fun _ => rfl)) R.wP R.wM
theorem Rep.uCents (R : Rep u v X P M z h) {q : Nat} (x : Int64) : Rep u v X (sL P 6 q x) (M) (z) (mm_upd h (X.1 7) (.inr (1, 3000, updV (fun i => Value.long (pL P 6 i)) q (Value.long (x))))) := by
  rw [show updV (fun i => Value.long (pL P 6 i)) q (Value.long (x)) = fun i => Value.long (s2 (P.2.2.2) 6 q x 6 i) from updV_s (fun y => Value.long (y)) (P.2.2.2) 6 q x]
  exact R.upd (t0 := 7) (Or.inl (by omega)) (fun _ h => h) rfl (ct_tag rfl (fun _ => rfl) (fun _ => rfl) (fun _ => rfl) (fun _ => rfl)) R.wP R.wM
theorem Rep.mRank (R : Rep u v X P M z h) {q : Nat} (x : Nat) (hw : wf v (sN M 0 q x)) : Rep u v X (P) (sN M 0 q x) (z) (mm_upd h (X.1 9) (.inr (0, 60, updV (fun i => Value.int (nI (pN M 0 i))) q (Value.int (nI (x)))))) := by
  rw [show updV (fun i => Value.int (nI (pN M 0 i))) q (Value.int (nI (x))) = fun i => Value.int (nI (s2 (M.2.1) 0 q x 0 i)) from updV_s (fun y => Value.int (nI (y))) (M.2.1) 0 q x]
  exact R.upd (t0 := 9) (Or.inl (by omega)) (fun _ h => h) rfl (ct_tag rfl (fun _ => rfl) (fun _ => rfl) (fun _ => rfl) (fun _ => rfl)) R.wP hw
theorem Rep.mAmount (R : Rep u v X P M z h) {q : Nat} (x : Int64) : Rep u v X (P) (sL M 0 q x) (z) (mm_upd h (X.1 10) (.inr (1, 60, updV (fun i => Value.long (pL M 0 i)) q (Value.long (x))))) := by
  rw [show updV (fun i => Value.long (pL M 0 i)) q (Value.long (x)) = fun i => Value.long (s2 (M.2.2.2) 0 q x 0 i) from updV_s (fun y => Value.long (y)) (M.2.2.2) 0 q x]
  exact R.upd (t0 := 10) (Or.inl (by omega)) (fun _ h => h) rfl (ct_tag rfl (fun _ => rfl) (fun _ => rfl) (fun _ => rfl) (fun _ => rfl)) R.wP R.wM
theorem Rep.mDebt (R : Rep u v X P M z h) {q : Nat} (x : Int64) : Rep u v X (P) (sL M 1 q x) (z) (mm_upd h (X.1 11) (.inr (1, 60, updV (fun i => Value.long (pL M 1 i)) q (Value.long (x))))) := by
  rw [show updV (fun i => Value.long (pL M 1 i)) q (Value.long (x)) = fun i => Value.long (s2 (M.2.2.2) 1 q x 1 i) from updV_s (fun y => Value.long (y)) (M.2.2.2) 1 q x]
  exact R.upd (t0 := 11) (Or.inl (by omega)) (fun _ h => h) rfl (ct_tag rfl (fun _ => rfl) (fun _ => rfl) (fun _ => rfl) (fun _ => rfl)) R.wP R.wM
theorem Rep.mGot (R : Rep u v X P M z h) {q : Nat} (x : Int64) : Rep u v X (P) (sL M 2 q x) (z) (mm_upd h (X.1 12) (.inr (1, 60, updV (fun i => Value.long (pL M 2 i)) q (Value.long (x))))) := by
  rw [show updV (fun i => Value.long (pL M 2 i)) q (Value.long (x)) = fun i => Value.long (s2 (M.2.2.2) 2 q x 2 i) from updV_s (fun y => Value.long (y)) (M.2.2.2) 2 q x]
  exact R.upd (t0 := 12) (Or.inl (by omega)) (fun _ h => h) rfl (ct_tag rfl (fun _ => rfl) (fun _ => rfl) (fun _ => rfl) (fun _ => rfl)) R.wP R.wM
theorem Rep.mPaid (R : Rep u v X P M z h) {q : Nat} (x : Int64) : Rep u v X (P) (sL M 3 q x) (z) (mm_upd h (X.1 13) (.inr (1, 60, updV (fun i => Value.long (pL M 3 i)) q (Value.long (x))))) := by
  rw [show updV (fun i => Value.long (pL M 3 i)) q (Value.long (x)) = fun i => Value.long (s2 (M.2.2.2) 3 q x 3 i) from updV_s (fun y => Value.long (y)) (M.2.2.2) 3 q x]
  exact R.upd (t0 := 13) (Or.inl (by omega)) (fun _ h => h) rfl (ct_tag rfl (fun _ => rfl) (fun _ => rfl) (fun _ => rfl) (fun _ => rfl)) R.wP R.wM
theorem Rep.mRes (R : Rep u v X P M z h) {q : Nat} (x : Int64) : Rep u v X (P) (sL M 4 q x) (z) (mm_upd h (X.1 14) (.inr (1, 60, updV (fun i => Value.long (pL M 4 i)) q (Value.long (x))))) := by
  rw [show updV (fun i => Value.long (pL M 4 i)) q (Value.long (x)) = fun i => Value.long (s2 (M.2.2.2) 4 q x 4 i) from updV_s (fun y => Value.long (y)) (M.2.2.2) 4 q x]
  exact R.upd (t0 := 14) (Or.inl (by omega)) (fun _ h => h) rfl (ct_tag rfl (fun _ => rfl) (fun _ => rfl) (fun _ => rfl) (fun _ => rfl)) R.wP R.wM
theorem Rep.mState (R : Rep u v X P M z h) {q : Nat} (x : Int32) : Rep u v X (P) (sI M 0 q x) (z) (mm_upd h (X.1 15) (.inr (0, 60, updV (fun i => Value.int (pI M 0 i)) q (Value.int (x))))) := by
  rw [show updV (fun i => Value.int (pI M 0 i)) q (Value.int (x)) = fun i => Value.int (s2 (M.2.2.1) 0 q x 0 i) from updV_s (fun y => Value.int (y)) (M.2.2.1) 0 q x]
  exact R.upd (t0 := 15) (Or.inl (by omega)) (fun _ h => h) rfl (ct_tag rfl (fun _ => rfl) (fun _ => rfl) (fun _ => rfl) (fun _ => rfl)) R.wP R.wM
theorem Rep.mReal (R : Rep u v X P M z h) {q : Nat} (x : Int32) : Rep u v X (P) (sI M 1 q x) (z) (mm_upd h (X.1 16) (.inr (2, 20, updV (fun i => Value.int (pI M 1 i)) q (Value.int (x))))) := by
  rw [show updV (fun i => Value.int (pI M 1 i)) q (Value.int (x)) = fun i => Value.int (s2 (M.2.2.1) 1 q x 1 i) from updV_s (fun y => Value.int (y)) (M.2.2.1) 1 q x]
  exact R.upd (t0 := 16) (Or.inl (by omega)) (fun _ h => h) rfl (ct_tag rfl (fun _ => rfl) (fun _ => rfl) (fun _ => rfl) (fun _ => rfl)) R.wP R.wM
theorem Rep.mMany (R : Rep u v X P M z h) {q : Nat} (x : Nat) (hw : wf v (sN M 1 q x)) : Rep u v X (P) (sN M 1 q x) (z) (mm_upd h (X.1 17) (.inr (0, 20, updV (fun i => Value.int (nI (pN M 1 i))) q (Value.int (nI (x)))))) := by
  rw [show updV (fun i => Value.int (nI (pN M 1 i))) q (Value.int (nI (x))) = fun i => Value.int (nI (s2 (M.2.1) 1 q x 1 i)) from updV_s (fun y => Value.int (nI (y))) (M.2.1) 1 q x]
  exact R.upd (t0 := 17) (Or.inl (by omega)) (fun _ h => h) rfl (ct_tag rfl (fun _ => rfl) (fun _ => rfl) (fun _ => rfl) (fun _ => rfl)) R.wP hw
theorem Rep.mHold (R : Rep u v X P M z h) {q : Nat} (x : Nat) (hw : wf v (sN M 2 q x)) : Rep u v X (P) (sN M 2 q x) (z) (mm_upd h (X.1 18) (.inr (0, 80, updV (fun i => Value.int (nI (pN M 2 i))) q (Value.int (nI (x)))))) := by
  rw [show updV (fun i => Value.int (nI (pN M 2 i))) q (Value.int (nI (x))) = fun i => Value.int (nI (s2 (M.2.1) 2 q x 2 i)) from updV_s (fun y => Value.int (nI (y))) (M.2.1) 2 q x]
  exact R.upd (t0 := 18) (Or.inl (by omega)) (fun _ h => h) rfl (ct_tag rfl (fun _ => rfl) (fun _ => rfl) (fun _ => rfl) (fun _ => rfl)) R.wP hw
theorem Rep.mLimit (R : Rep u v X P M z h) {q : Nat} (x : Int64) : Rep u v X (P) (sL M 5 q x) (z) (mm_upd h (X.1 19) (.inr (1, 80, updV (fun i => Value.long (pL M 5 i)) q (Value.long (x))))) := by
  rw [show updV (fun i => Value.long (pL M 5 i)) q (Value.long (x)) = fun i => Value.long (s2 (M.2.2.2) 5 q x 5 i) from updV_s (fun y => Value.long (y)) (M.2.2.2) 5 q x]
  exact R.upd (t0 := 19) (Or.inl (by omega)) (fun _ h => h) rfl (ct_tag rfl (fun _ => rfl) (fun _ => rfl) (fun _ => rfl) (fun _ => rfl)) R.wP R.wM
theorem Rep.mPct (R : Rep u v X P M z h) {q : Nat} (x : Nat) (hx : x ≤ 10000) : Rep u v X (P) (sN M 3 q x) (z) (mm_upd h (X.1 20) (.inr (0, 8, updV (fun i => Value.int (nI (pN M 3 i))) q (Value.int (nI (x)))))) := by
  rw [show updV (fun i => Value.int (nI (pN M 3 i))) q (Value.int (nI (x))) = fun i => Value.int (nI (s2 (M.2.1) 3 q x 3 i)) from updV_s (fun y => Value.int (nI (y))) (M.2.1) 3 q x]
  exact R.upd (t0 := 20) (Or.inl (by omega)) (fun _ h => h) rfl (ct_tag rfl (fun _ => rfl) (fun _ => rfl) (fun _ => rfl) (fun _ => rfl)) R.wP (wf_pct R.wM hx)
theorem Rep.mKind (R : Rep u v X P M z h) {q : Nat} (x : Int32) : Rep u v X (P) (sI M 2 q x) (z) (mm_upd h (X.1 21) (.inr (0, 3000, updV (fun i => Value.int (pI M 2 i)) q (Value.int (x))))) := by
  rw [show updV (fun i => Value.int (pI M 2 i)) q (Value.int (x)) = fun i => Value.int (s2 (M.2.2.1) 2 q x 2 i) from updV_s (fun y => Value.int (y)) (M.2.2.1) 2 q x]
  exact R.upd (t0 := 21) (Or.inl (by omega)) (fun _ h => h) rfl (ct_tag rfl (fun _ => rfl) (fun _ => rfl) (fun _ => rfl) (fun _ => rfl)) R.wP R.wM
theorem Rep.mWhose (R : Rep u v X P M z h) {q : Nat} (x : Int32) : Rep u v X (P) (sI M 3 q x) (z) (mm_upd h (X.1 22) (.inr (0, 3000, updV (fun i => Value.int (pI M 3 i)) q (Value.int (x))))) := by
  rw [show updV (fun i => Value.int (pI M 3 i)) q (Value.int (x)) = fun i => Value.int (s2 (M.2.2.1) 3 q x 3 i) from updV_s (fun y => Value.int (y)) (M.2.2.1) 3 q x]
  exact R.upd (t0 := 22) (Or.inl (by omega)) (fun _ h => h) rfl (ct_tag rfl (fun _ => rfl) (fun _ => rfl) (fun _ => rfl) (fun _ => rfl)) R.wP R.wM
theorem Rep.mCents (R : Rep u v X P M z h) {q : Nat} (x : Int64) : Rep u v X (P) (sL M 6 q x) (z) (mm_upd h (X.1 23) (.inr (1, 3000, updV (fun i => Value.long (pL M 6 i)) q (Value.long (x))))) := by
  rw [show updV (fun i => Value.long (pL M 6 i)) q (Value.long (x)) = fun i => Value.long (s2 (M.2.2.2) 6 q x 6 i) from updV_s (fun y => Value.long (y)) (M.2.2.2) 6 q x]
  exact R.upd (t0 := 23) (Or.inl (by omega)) (fun _ h => h) rfl (ct_tag rfl (fun _ => rfl) (fun _ => rfl) (fun _ => rfl) (fun _ => rfl)) R.wP R.wM
theorem Rep.mLeft (R : Rep u v X P M z h) {q : Nat} (x : Int64) : Rep u v X (P) (M) ((z.1, s2 z.2 0 q x)) (mm_upd h (X.1 24) (.inr (1, 60, updV (fun i => Value.long (z.2 0 i)) q (Value.long (x))))) := by
  rw [show updV (fun i => Value.long (z.2 0 i)) q (Value.long (x)) = fun i => Value.long (s2 (z.2) 0 q x 0 i) from updV_s (fun y => Value.long (y)) (z.2) 0 q x]
  exact R.upd (t0 := 24) (Or.inl (by omega)) (fun _ h => h) rfl (ct_tag rfl (fun _ => rfl) (fun _ => rfl) (fun _ => rfl) (fun _ => rfl)) R.wP R.wM
theorem Rep.mShare (R : Rep u v X P M z h) {q : Nat} (x : Int64) : Rep u v X (P) (M) ((z.1, s2 z.2 1 q x)) (mm_upd h (X.1 25) (.inr (1, 60, updV (fun i => Value.long (z.2 1 i)) q (Value.long (x))))) := by
  rw [show updV (fun i => Value.long (z.2 1 i)) q (Value.long (x)) = fun i => Value.long (s2 (z.2) 1 q x 1 i) from updV_s (fun y => Value.long (y)) (z.2) 1 q x]
  exact R.upd (t0 := 25) (Or.inl (by omega)) (fun _ h => h) rfl (ct_tag rfl (fun _ => rfl) (fun _ => rfl) (fun _ => rfl) (fun _ => rfl)) R.wP R.wM
theorem Rep.mOver (R : Rep u v X P M z h) {q : Nat} (x : Int64) : Rep u v X (P) (M) ((z.1, s2 z.2 2 q x)) (mm_upd h (X.1 26) (.inr (1, 60, updV (fun i => Value.long (z.2 2 i)) q (Value.long (x))))) := by
  rw [show updV (fun i => Value.long (z.2 2 i)) q (Value.long (x)) = fun i => Value.long (s2 (z.2) 2 q x 2 i) from updV_s (fun y => Value.long (y)) (z.2) 2 q x]
  exact R.upd (t0 := 26) (Or.inl (by omega)) (fun _ h => h) rfl (ct_tag rfl (fun _ => rfl) (fun _ => rfl) (fun _ => rfl) (fun _ => rfl)) R.wP R.wM
theorem Rep.uShare (R : Rep u v X P M z h) {q : Nat} (x : Int64) (hw : X.2.1 = 2) : Rep u v X (P) (M) ((z.1, s2 z.2 3 q x)) (mm_upd h (X.1 29) (.inr (1, pn P, updV (fun i => Value.long (z.2 3 i)) q (Value.long (x))))) := by
  rw [show updV (fun i => Value.long (z.2 3 i)) q (Value.long (x)) = fun i => Value.long (s2 (z.2) 3 q x 3 i) from updV_s (fun y => Value.long (y)) (z.2) 3 q x]
  exact R.upd (t0 := 29) (Or.inl (by omega)) (fun _ h => h) rfl (ct_tag rfl (fun _ => rfl) (fun _ => rfl) (fun _ => rfl) (fun _ => rfl)) R.wP R.wM
theorem Rep.uRem (R : Rep u v X P M z h) {q : Nat} (x : Int64) (hw : X.2.1 = 2) : Rep u v X (P) (M) ((z.1, s2 z.2 4 q x)) (mm_upd h (X.1 30) (.inr (1, pn P, updV (fun i => Value.long (z.2 4 i)) q (Value.long (x))))) := by
  rw [show updV (fun i => Value.long (z.2 4 i)) q (Value.long (x)) = fun i => Value.long (s2 (z.2) 4 q x 4 i) from updV_s (fun y => Value.long (y)) (z.2) 4 q x]
  exact R.upd (t0 := 30) (Or.inl (by omega)) (fun _ h => h) rfl (ct_tag rfl (fun _ => rfl) (fun _ => rfl) (fun _ => rfl) (fun _ => rfl)) R.wP R.wM
theorem Rep.uOut (R : Rep u v X P M z h) {q : Nat} (x : Int64) : Rep u v X (P) (M) ((z.1, s2 z.2 5 q x)) (mm_upd h (X.1 27) (.inr (1, 1, updV (fun i => Value.long (z.2 5 i)) q (Value.long (x))))) := by
  rw [show updV (fun i => Value.long (z.2 5 i)) q (Value.long (x)) = fun i => Value.long (s2 (z.2) 5 q x 5 i) from updV_s (fun y => Value.long (y)) (z.2) 5 q x]
  exact R.upd (t0 := 27) (Or.inl (by omega)) (fun _ h => h) rfl (ct_tag rfl (fun _ => rfl) (fun _ => rfl) (fun _ => rfl) (fun _ => rfl)) R.wP R.wM
theorem Rep.push {n : Nat} (c : mm_C) (R : Rep (u + 1) v X P M z h) (hn : n ≤ 60) : Rep u v X P M z (mm_push h n c) := by
  refine ⟨fun t ht => ?_, R.2.1, ?_, R.2.2.2⟩
  · obtain ⟨h1, h2⟩ := R.1 t ht
    refine ⟨?_, Nat.lt_succ_of_lt h2⟩
    rw [mm_push_ne _ _ _ (Nat.ne_of_lt h2)]
    exact h1
  · obtain ⟨h1, h2⟩ := R.2.2.1
    exact ⟨(show u ≤ h.2.1.1 - 1 by omega), (show 60 * u ≤ h.2.1.2 - n by omega)⟩
end UPD
end
section
/-! rules for calls by contract, for comparisons of longs -/
section WX3
variable {d k pc : Nat} {lv : mm_L} {st rest as : List Value} {h : mm_H} {Q : mm_O × mm_H → Prop} {idx k' np b ci t x pc' : Nat} {fs : List Value} {v : Value} {r : List Value} {i : Instr} {off : Int} {A : mm_H → Prop}
theorem x_virt (hm : t_mth (t_o k) idx = some (k', np, 1)) (hsp : mm_split np st = some (as, .ref b :: rest)) (hb : h.2.2 b = some (.inl (ci, fs))) (hg : (Nat.beq ci (t_rc k') && (Nat.ble (mm_w rest) 12 && Nat.ble (lg_sl (.ref b :: as)).length (t_nl k'))) = true) :
    mm_inv k (.invokevirtual idx) 3 st h = some (k', .ref b :: as, rest) := by
  simp only [mm_inv, hm, hsp, hb, hg, cond_true]
/-- what a call instruction must be for the rules below -/
def x_is (d k pc : Nat) (lv : mm_L) (st : List Value) (h : mm_H) (k' : Nat) (as rest : List Value) : Prop := ∃ i, t_cod k pc = some (i, 3) ∧ mm_step k (d + 1) i 3 pc lv st h = none ∧ mm_ret (t_rt k) i 3 st = none ∧ mm_thr k (d + 1) pc i 3 st h = none ∧ mm_inv k i 3 st h = some (k', as, rest)
theorem x_isV (hc : t_cod k pc = some (.invokevirtual idx, 3)) (hm : t_mth (t_o k) idx = some (k', np, 1)) (hsp : mm_split np st = some (as, .ref b :: rest)) (hb : h.2.2 b = some (.inl (ci, fs))) (hg : (Nat.beq ci (t_rc k') && (Nat.ble (mm_w rest) 12 && Nat.ble (lg_sl (.ref b :: as)).length (t_nl k'))) = true) : x_is d k pc lv st h k' (.ref b :: as) rest := by
  refine ⟨_, hc, ?_, ?_, ?_, x_virt hm hsp hb hg⟩
  · rfl
  · unfold mm_ret
    split <;> first | rfl | contradiction
  · rfl
theorem x_isS (hc : t_cod k pc = some (.invokestatic idx, 3)) (hs : mm_step k (d + 1) (.invokestatic idx) 3 pc lv st h = none) (hm : t_mth (t_o k) idx = some (k', np, 0)) (hsp : mm_split np st = some (as, rest)) (hg : (Nat.ble (mm_w rest) 12 && Nat.ble (lg_sl as).length (t_nl k')) = true) : x_is d k pc lv st h k' as rest := by
  refine ⟨_, hc, hs, ?_, ?_, ?_⟩
  · unfold mm_ret
    split <;> first | rfl | contradiction
  · rfl
  · simp only [mm_inv, hm, hsp, hg, cond_true]
theorem x_isI (hc : t_cod k pc = some (.invokespecial idx, 3)) (hs : mm_step k (d + 1) (.invokespecial idx) 3 pc lv st h = none) (hm : t_mth (t_o k) idx = some (k', np, 2)) (hsp : mm_split np st = some (as, .ref b :: rest)) (hg : (Nat.ble (mm_w rest) 12 && Nat.ble (lg_sl (.ref b :: as)).length (t_nl k')) = true) : x_is d k pc lv st h k' (.ref b :: as) rest := by
  refine ⟨_, hc, hs, ?_, ?_, ?_⟩
  · unfold mm_ret
    split <;> first | rfl | contradiction
  · rfl
  · simp only [mm_inv, hm, hsp, hg, cond_true]
theorem x_do {Q1 : mm_O × mm_H → Prop} (hi : x_is d k pc lv st h k' as rest) (w : Wx d k' 0 (lv_args 0 as) [] h Q1) (kk : ∀ r, Q1 r → x_back (d + 1) k pc lv rest Q r) : Wx (d + 1) k pc lv st h Q := by
  obtain ⟨i, h1, h2, h3, h4, h5⟩ := hi
  exact x_call h1 h2 h3 h4 h5 (w.mono kk)
/-- a reader: the heap stays -/
theorem x_rd (hi : x_is d k pc lv st h k' as rest) (w : Wx d k' 0 (lv_args 0 as) [] h (fun r => r = (.inl (some v), h))) (kk : Wx (d + 1) k (pc + 3) lv (v :: rest) h Q) : Wx (d + 1) k pc lv st h Q :=
  x_do hi w (fun r e => by subst e; exact kk)
theorem x_rd0 (hi : x_is d k pc lv st h k' as rest) (w : Wx d k' 0 (lv_args 0 as) [] h (fun r => r = (.inl none, h))) (kk : Wx (d + 1) k (pc + 3) lv rest h Q) : Wx (d + 1) k pc lv st h Q :=
  x_do hi w (fun r e => by subst e; exact kk)
/-- a writer -/
theorem x_wr (hi : x_is d k pc lv st h k' as rest) (w : Wx d k' 0 (lv_args 0 as) [] h (fun r => r.1 = .inl (some v) ∧ A r.2)) (kk : ∀ h', A h' → Wx (d + 1) k (pc + 3) lv (v :: rest) h' Q) : Wx (d + 1) k pc lv st h Q :=
  x_do hi w (fun r e => by obtain ⟨o, h'⟩ := r; obtain ⟨e1, e2⟩ := e; cases e1; exact kk h' e2)
theorem x_wr0 (hi : x_is d k pc lv st h k' as rest) (w : Wx d k' 0 (lv_args 0 as) [] h (fun r => r.1 = .inl none ∧ A r.2)) (kk : ∀ h', A h' → Wx (d + 1) k (pc + 3) lv rest h' Q) : Wx (d + 1) k pc lv st h Q :=
  x_do hi w (fun r e => by obtain ⟨o, h'⟩ := r; obtain ⟨e1, e2⟩ := e; cases e1; exact kk h' e2)
/-- a call that throws, not caught here -/
def x_th (x : Nat) (A : mm_H → Prop) (r : mm_O × mm_H) : Prop := ∃ a, r.1 = .inr (x, a) ∧ A r.2
theorem x_up (hi : x_is d k pc lv st h k' as rest) (hh : (t_hh k).length = 0) (w : Wx d k' 0 (lv_args 0 as) [] h (x_th x A)) (kk : ∀ r, x_th x A r → Q r) : Wx (d + 1) k pc lv st h Q :=
  x_do hi w (fun r e => by
    have e0 := e
    obtain ⟨o, h'⟩ := r
    obtain ⟨a, e1, e2⟩ := e
    cases e1
    have h0 : t_hx k = [] := by unfold t_hx; rw [List.eq_nil_of_length_eq_zero hh]; rfl
    show (match mm_find (t_hx k) pc x with | some pc' => _ | none => (t_hh k).length = 0 ∧ Q (.inr (x, a), h'))
    rw [h0]
    exact ⟨hh, kk _ e0⟩)
theorem x_ca (hi : x_is d k pc lv st h k' as rest) (hf : mm_find (t_hx k) pc x = some pc') (w : Wx d k' 0 (lv_args 0 as) [] h (x_th x A)) (kk : ∀ a h', A h' → Wx (d + 1) k pc' lv [.ref a] h' Q) : Wx (d + 1) k pc lv st h Q :=
  x_do hi w (fun r e => by
    obtain ⟨o, h'⟩ := r
    obtain ⟨a, e1, e2⟩ := e
    cases e1
    show (match mm_find (t_hx k) pc x with | some pc' => Wx (d + 1) k pc' lv [.ref a] h' Q | none => _)
    rw [hf]
    exact kk a h' e2)
theorem x_lif {c : Prop} {x y : Int64} (hc : t_cod k pc = some (.lcmp, 1)) (w : Wx d k (pc + 1) lv (.int (lg_cmp x y) :: r) h Q) : Wx d k pc lv (.long y :: .long x :: r) h Q := x_step hc rfl w
theorem x_leq {x y : Int64} (hc : t_cod k pc = some (.lcmp, 1)) (hc2 : t_cod k (pc + 1) = some (.ifCond .eq off, 3)) (ht : mm_tgt (pc + 1) off = some t) (kt : x = y → Wx d k t lv r h Q) (kf : ¬ x = y → Wx d k (pc + 4) lv r h Q) : Wx d k pc lv (.long y :: .long x :: r) h Q :=
  x_step hc rfl (x_if (c := lg_cmp x y = 0) (t := t) hc2 (by simp only [mm_step, mm_load, mm_store, mm_arith, mm_stack, mm_jump, mm_br, ht, Option.map_some]) (fun q => kt ((lg_cmp_eq x y).mp q)) (fun q => kf (fun e => q ((lg_cmp_eq x y).mpr e))))
theorem x_lne {x y : Int64} (hc : t_cod k pc = some (.lcmp, 1)) (hc2 : t_cod k (pc + 1) = some (.ifCond .ne off, 3)) (ht : mm_tgt (pc + 1) off = some t) (kt : ¬ x = y → Wx d k t lv r h Q) (kf : x = y → Wx d k (pc + 4) lv r h Q) : Wx d k pc lv (.long y :: .long x :: r) h Q :=
  x_step hc rfl (x_if (c := ¬ lg_cmp x y = 0) (t := t) hc2 (by simp only [mm_step, mm_load, mm_store, mm_arith, mm_stack, mm_jump, mm_br, ht, Option.map_some]) (fun q => kt (fun e => q ((lg_cmp_eq x y).mpr e))) (fun q => kf ((lg_cmp_eq x y).mp (Classical.not_not.mp q))))
theorem x_llt {x y : Int64} (hc : t_cod k pc = some (.lcmp, 1)) (hc2 : t_cod k (pc + 1) = some (.ifCond .lt off, 3)) (ht : mm_tgt (pc + 1) off = some t) (kt : x < y → Wx d k t lv r h Q) (kf : ¬ x < y → Wx d k (pc + 4) lv r h Q) : Wx d k pc lv (.long y :: .long x :: r) h Q :=
  x_step hc rfl (x_if (c := lg_cmp x y < 0) (t := t) hc2 (by simp only [mm_step, mm_load, mm_store, mm_arith, mm_stack, mm_jump, mm_br, ht, Option.map_some]) (fun q => kt ((lg_cmp_lt x y).mp q)) (fun q => kf (fun e => q ((lg_cmp_lt x y).mpr e))))
theorem x_lle {x y : Int64} (hc : t_cod k pc = some (.lcmp, 1)) (hc2 : t_cod k (pc + 1) = some (.ifCond .le off, 3)) (ht : mm_tgt (pc + 1) off = some t) (kt : x ≤ y → Wx d k t lv r h Q) (kf : ¬ x ≤ y → Wx d k (pc + 4) lv r h Q) : Wx d k pc lv (.long y :: .long x :: r) h Q :=
  x_step hc rfl (x_if (c := lg_cmp x y ≤ 0) (t := t) hc2 (by simp only [mm_step, mm_load, mm_store, mm_arith, mm_stack, mm_jump, mm_br, ht, Option.map_some]) (fun q => kt ((lg_cmp_le x y).mp q)) (fun q => kf (fun e => q ((lg_cmp_le x y).mpr e))))
theorem x_lgt {x y : Int64} (hc : t_cod k pc = some (.lcmp, 1)) (hc2 : t_cod k (pc + 1) = some (.ifCond .gt off, 3)) (ht : mm_tgt (pc + 1) off = some t) (kt : y < x → Wx d k t lv r h Q) (kf : ¬ y < x → Wx d k (pc + 4) lv r h Q) : Wx d k pc lv (.long y :: .long x :: r) h Q :=
  x_step hc rfl (x_if (c := 0 < lg_cmp x y) (t := t) hc2 (by simp only [mm_step, mm_load, mm_store, mm_arith, mm_stack, mm_jump, mm_br, ht, Option.map_some]) (fun q => kt ((lg_cmp_gt x y).mp q)) (fun q => kf (fun e => q ((lg_cmp_gt x y).mpr e))))
theorem x_lge {x y : Int64} (hc : t_cod k pc = some (.lcmp, 1)) (hc2 : t_cod k (pc + 1) = some (.ifCond .ge off, 3)) (ht : mm_tgt (pc + 1) off = some t) (kt : y ≤ x → Wx d k t lv r h Q) (kf : ¬ y ≤ x → Wx d k (pc + 4) lv r h Q) : Wx d k pc lv (.long y :: .long x :: r) h Q :=
  x_step hc rfl (x_if (c := 0 ≤ lg_cmp x y) (t := t) hc2 (by simp only [mm_step, mm_load, mm_store, mm_arith, mm_stack, mm_jump, mm_br, ht, Option.map_some]) (fun q => kt ((lg_cmp_ge x y).mp q)) (fun q => kf (fun e => q ((lg_cmp_ge x y).mpr e))))
end WX3
end
section
/-! a run does not mind more known locals, nor their order -/
def nd_has (i : Nat) : mm_L → Bool
  | [] => false
  | (j, _) :: r => Nat.beq j i || nd_has i r
def nd : mm_L → Bool
  | [] => true
  | (j, _) :: r => !nd_has j r && nd r
def subL : mm_L → mm_L → Prop
  | [], _ => True
  | q :: r, l => mm_get l q.1 = some q.2 ∧ subL r l
def mm_K (a b : mm_L) : Prop := nd a = true ∧ nd b = true ∧ ∀ i v, mm_get a i = some v → mm_get b i = some v
theorem nd_has_get : ∀ (a : mm_L) (i : Nat), nd_has i a = false → mm_get a i = none
  | [], _, _ => rfl
  | (j, w) :: r, i, h => by
    unfold nd_has at h
    rw [Bool.or_eq_false_iff] at h
    unfold mm_get
    rw [h.1]
    exact nd_has_get r i h.2
theorem subL_get : ∀ (a b : mm_L), subL a b → ∀ i v, mm_get a i = some v → mm_get b i = some v
  | [], _, _, i, v, h => by cases h
  | (j, w) :: r, b, hs, i, v, h => by
    unfold mm_get at h
    cases hb : Nat.beq j i with
    | true =>
      rw [hb] at h
      have e := Nat.eq_of_beq_eq_true hb
      subst e
      cases h
      exact hs.1
    | false =>
      rw [hb] at h
      exact subL_get r b hs.2 i v h
theorem mm_K.of {a b : mm_L} (h1 : nd a = true) (h2 : nd b = true) (hs : subL a b) : mm_K a b := ⟨h1, h2, subL_get a b hs⟩
/-- what a store throws out: by a test of place and value -/
def mm_flt (t : Nat → Value → Bool) : mm_L → mm_L
  | [] => []
  | (j, w) :: r => cond (t j w) (mm_flt t r) ((j, w) :: mm_flt t r)
theorem mm_del1_flt (i : Nat) : ∀ a, mm_del1 i a = mm_flt (fun j w => Nat.beq j i || (Nat.beq (j + 1) i && Nat.beq w.category 2)) a
  | [] => rfl
  | (j, w) :: r => by unfold mm_del1 mm_flt; rw [mm_del1_flt i r]
theorem mm_del2_flt (i : Nat) : ∀ a, mm_del2 i a = mm_flt (fun j w => Nat.beq j i || (Nat.beq j (i + 1) || (Nat.beq (j + 1) i && Nat.beq w.category 2))) a
  | [] => rfl
  | (j, w) :: r => by unfold mm_del2 mm_flt; rw [mm_del2_flt i r]
theorem flt_has (t : Nat → Value → Bool) : ∀ (a : mm_L) (i : Nat), nd_has i a = false → nd_has i (mm_flt t a) = false
  | [], _, _ => rfl
  | (j, w) :: r, i, h => by
    unfold nd_has at h
    rw [Bool.or_eq_false_iff] at h
    unfold mm_flt
    cases t j w with
    | true => exact flt_has t r i h.2
    | false =>
      show nd_has i ((j, w) :: mm_flt t r) = false
      unfold nd_has
      rw [h.1, flt_has t r i h.2]
      rfl
theorem flt_nd (t : Nat → Value → Bool) : ∀ (a : mm_L), nd a = true → nd (mm_flt t a) = true
  | [], _ => rfl
  | (j, w) :: r, h => by
    unfold nd at h
    rw [Bool.and_eq_true] at h
    unfold mm_flt
    cases t j w with
    | true => exact flt_nd t r h.2
    | false =>
      show nd ((j, w) :: mm_flt t r) = true
      unfold nd
      have h1 : nd_has j r = false := by
        cases hq : nd_has j r with
        | false => rfl
        | true => rw [hq] at h; exact absurd h.1 (by decide)
      rw [flt_has t r j h1, flt_nd t r h.2]
      rfl
theorem flt_gone (t : Nat → Value → Bool) (i : Nat) (ht : ∀ w, t i w = true) : ∀ (a : mm_L), nd_has i (mm_flt t a) = false
  | [] => rfl
  | (j, w) :: r => by
    unfold mm_flt
    cases hb : t j w with
    | true => exact flt_gone t i ht r
    | false =>
      show nd_has i ((j, w) :: mm_flt t r) = false
      unfold nd_has
      rw [flt_gone t i ht r, Bool.or_false]
      cases hq : Nat.beq j i with
      | false => rfl
      | true =>
        have e := Nat.eq_of_beq_eq_true hq
        subst e
        rw [ht w] at hb
        cases hb
theorem flt_get (t : Nat → Value → Bool) : ∀ (a : mm_L), nd a = true → ∀ i v, (mm_get (mm_flt t a) i = some v ↔ (mm_get a i = some v ∧ t i v = false))
  | [], _, i, v => ⟨(fun h => by cases h), (fun h => by cases h.1)⟩
  | (j, w) :: r, h, i, v => by
    unfold nd at h
    rw [Bool.and_eq_true] at h
    have h1 : nd_has j r = false := by
      cases hq : nd_has j r with
      | false => rfl
      | true => rw [hq] at h; exact absurd h.1 (by decide)
    have ih := flt_get t r h.2 i v
    have e1 : mm_get ((j, w) :: r) i = cond (Nat.beq j i) (some w) (mm_get r i) := rfl
    rw [e1]
    unfold mm_flt
    cases hb : Nat.beq j i with
    | true =>
      have e := Nat.eq_of_beq_eq_true hb
      subst e
      cases ht : t j w with
      | true =>
        show mm_get (mm_flt t r) j = some v ↔ (some w = some v ∧ t j v = false)
        rw [ih, nd_has_get r j h1]
        constructor
        · intro hx; cases hx.1
        · intro hx; cases hx.1; rw [ht] at hx; cases hx.2
      | false =>
        show mm_get ((j, w) :: mm_flt t r) j = some v ↔ (some w = some v ∧ t j v = false)
        unfold mm_get
        rw [hb]
        constructor
        · intro hx; cases hx; exact ⟨rfl, ht⟩
        · intro hx; exact hx.1
    | false =>
      cases ht : t j w with
      | true => exact ih
      | false =>
        show mm_get ((j, w) :: mm_flt t r) i = some v ↔ _
        have e2 : mm_get ((j, w) :: mm_flt t r) i = cond (Nat.beq j i) (some w) (mm_get (mm_flt t r) i) := rfl
        rw [e2, hb]
        exact ih
theorem mm_K.put {a b : mm_L} {k : Nat} {x : Value} (t : Nat → Value → Bool) (ht : ∀ w, t k w = true) (hK : mm_K a b) : mm_K ((k, x) :: mm_flt t a) ((k, x) :: mm_flt t b) := by
  obtain ⟨h1, h2, h3⟩ := hK
  refine ⟨?_, ?_, fun i v hv => ?_⟩
  · unfold nd; rw [flt_gone t k ht a, flt_nd t a h1]; rfl
  · unfold nd; rw [flt_gone t k ht b, flt_nd t b h2]; rfl
  · unfold mm_get at hv ⊢
    cases hb : Nat.beq k i with
    | true => rw [hb] at hv; exact hv
    | false =>
      rw [hb] at hv
      have g := (flt_get t a h1 i v).mp hv
      exact (flt_get t b h2 i v).mpr ⟨h3 i v g.1, g.2⟩
theorem mm_K.put1 {a b : mm_L} (k : Nat) (x : Value) (hK : mm_K a b) : mm_K ((k, x) :: mm_del1 k a) ((k, x) :: mm_del1 k b) := by
  rw [mm_del1_flt, mm_del1_flt]
  exact hK.put _ (fun w => by simp [mm_beq_self])
theorem mm_K.put2 {a b : mm_L} (k : Nat) (x : Value) (hK : mm_K a b) : mm_K ((k, x) :: mm_del2 k a) ((k, x) :: mm_del2 k b) := by
  rw [mm_del2_flt, mm_del2_flt]
  exact hK.put _ (fun w => by simp [mm_beq_self])
theorem mm_K.bind {a b : mm_L} {f : Value → Option Value} {k : Nat} {v : Value} (hK : mm_K a b) (h : (mm_get a k).bind f = some v) : (mm_get b k).bind f = some v := by
  cases hg : mm_get a k with
  | none => rw [hg] at h; cases h
  | some w => rw [hK.2.2 k w hg]; rw [hg] at h; exact h
theorem mm_K.load {a b : mm_L} {i : Instr} {len : Nat} {v : Value} (hK : mm_K a b) (h : mm_load a i len = some v) : mm_load b i len = some v := by
  unfold mm_load at h ⊢
  split at h <;> first | exact h | exact hK.bind h
theorem mm_K.store {a b a' : mm_L} {nl len : Nat} {i : Instr} {st st' : List Value} (hK : mm_K a b) (h : mm_store nl a i len st = some (a', st')) : ∃ b', mm_store nl b i len st = some (b', st') ∧ mm_K a' b' := by
  unfold mm_store at h ⊢
  split at h
  · obtain ⟨h1, h2⟩ := mm_cond2 h; cases h2; exact ⟨_, by simp only [h1, cond_true], hK.put1 _ _⟩
  · obtain ⟨h1, h2⟩ := mm_cond2 h; cases h2; exact ⟨_, by simp only [h1, cond_true], hK.put1 _ _⟩
  · obtain ⟨h1, h2⟩ := mm_cond2 h; cases h2; exact ⟨_, by simp only [h1, cond_true], hK.put2 _ _⟩
  · obtain ⟨h1, h2⟩ := mm_cond2 h; cases h2; exact ⟨_, by simp only [h1, cond_true], hK.put2 _ _⟩
  · obtain ⟨h1, h2⟩ := mm_cond2 h; cases h2; exact ⟨_, by simp only [h1, cond_true], hK.put1 _ _⟩
  · obtain ⟨h1, h2⟩ := mm_cond2 h; cases h2; exact ⟨_, by simp only [h1, cond_true], hK.put1 _ _⟩
  · split at h
    · rename_i k n r x hg
      obtain ⟨h1, h2⟩ := mm_cond2 h
      cases h2
      exact ⟨_, by simp only [hK.2.2 _ _ hg, h1, cond_true], hK.put1 _ _⟩
    · cases h
  · cases h
/-- an instruction that reads a local does nothing else -/
theorem mm_load_only {b : mm_L} {i : Instr} {len : Nat} {v : Value} {k d pc nl : Nat} {rt : Option FieldType} {st : List Value} {h : mm_H} (hl : mm_load b i len = some v) : mm_ret rt i len st = none ∧ mm_thr k d pc i len st h = none ∧ mm_inv k i len st h = none := by
  unfold mm_load at hl
  split at hl <;> first | exact ⟨by unfold mm_ret; split <;> first | rfl | contradiction, rfl, rfl⟩ | cases hl
theorem mm_store_only {b b' : mm_L} {i : Instr} {len : Nat} {k d pc nl : Nat} {rt : Option FieldType} {st st' : List Value} {h : mm_H} (hl : mm_store nl b i len st = some (b', st')) : mm_ret rt i len st = none ∧ mm_thr k d pc i len st h = none ∧ mm_inv k i len st h = none := by
  unfold mm_store at hl
  split at hl <;> first | exact ⟨by unfold mm_ret; split <;> first | rfl | contradiction, rfl, rfl⟩ | cases hl
theorem mm_K.step {a b a' : mm_L} {k d len pc pc' : Nat} {i : Instr} {st st' : List Value} {h h' : mm_H} (hK : mm_K a b) (hs : mm_step k d i len pc a st h = some (pc', a', st', h')) : ∃ b', mm_step k d i len pc b st h = some (pc', b', st', h') ∧ mm_K a' b' := by
  unfold mm_step at hs ⊢
  cases h1 : mm_load a i len with
  | some v =>
    rw [h1] at hs
    cases hs
    rw [hK.load h1]
    exact ⟨b, rfl, hK⟩
  | none =>
    rw [h1] at hs
    dsimp only at hs
    cases h2 : mm_store (t_nl k) a i len st with
    | some q =>
      obtain ⟨a2, st2⟩ := q
      rw [h2] at hs
      cases hs
      obtain ⟨b2, h3, h4⟩ := hK.store h2
      have h5 : mm_load b i len = none := by
        unfold mm_store at h2
        split at h2 <;> first | rfl | cases h2
      rw [h5]
      dsimp only
      rw [h3]
      exact ⟨b2, rfl, h4⟩
    | none =>
      rw [h2] at hs
      dsimp only at hs
      cases h5 : mm_load b i len with
      | some v =>
        exfalso
        unfold mm_load at h5 h1
        split at h5 <;> first | (simp only at h1; cases h1; done) | (simp only [mm_arith, mm_stack, mm_jump, mm_rd, mm_wr, mm_fa] at hs; cases hs; done) | cases h5
      | none =>
        dsimp only
        cases h6 : mm_store (t_nl k) b i len st with
        | some q =>
          exfalso
          unfold mm_store at h6
          split at h6 <;> first | (simp only [mm_arith, mm_stack, mm_jump, mm_rd, mm_wr, mm_fa] at hs; cases hs; done) | cases h6
        | none =>
          dsimp only
          cases h7 : mm_arith i len st with
          | some q => rw [h7] at hs; cases hs; exact ⟨b, rfl, hK⟩
          | none =>
            rw [h7] at hs
            dsimp only at hs ⊢
            cases h8 : mm_stack i len st with
            | some q => rw [h8] at hs; cases hs; exact ⟨b, rfl, hK⟩
            | none =>
              rw [h8] at hs
              dsimp only at hs ⊢
              cases h9 : mm_jump pc i len st with
              | some q => rw [h9] at hs; cases hs; exact ⟨b, rfl, hK⟩
              | none =>
                rw [h9] at hs
                dsimp only at hs ⊢
                cases h10 : mm_rd h i len st with
                | some q => rw [h10] at hs; cases hs; exact ⟨b, rfl, hK⟩
                | none =>
                  rw [h10] at hs
                  dsimp only at hs ⊢
                  cases h11 : mm_wr h i len st with
                  | some q => rw [h11] at hs; cases hs; exact ⟨b, rfl, hK⟩
                  | none =>
                    rw [h11] at hs
                    dsimp only at hs ⊢
                    cases h12 : mm_fa k d i len st h with
                    | some q => rw [h12] at hs; cases hs; exact ⟨b, rfl, hK⟩
                    | none => rw [h12] at hs; cases hs
theorem mm_step_none {a : mm_L} {k d len pc : Nat} {i : Instr} {st : List Value} {h : mm_H} (hs : mm_step k d i len pc a st h = none) : mm_arith i len st = none ∧ mm_stack i len st = none ∧ mm_jump pc i len st = none ∧ mm_rd h i len st = none ∧ mm_wr h i len st = none ∧ mm_fa k d i len st h = none := by
  unfold mm_step at hs
  split at hs
  · cases hs
  · split at hs
    · cases hs
    · split at hs
      · cases hs
      · rename_i g1
        split at hs
        · cases hs
        · rename_i g2
          split at hs
          · cases hs
          · rename_i g3
            split at hs
            · cases hs
            · rename_i g4
              split at hs
              · cases hs
              · rename_i g5
                split at hs
                · cases hs
                · rename_i g6
                  exact ⟨g1, g2, g3, g4, g5, g6⟩
theorem mm_K.stop {a b : mm_L} {k d len pc : Nat} {i : Instr} {st : List Value} {h : mm_H} (hs : mm_step k d i len pc a st h = none) (hn : ¬ (mm_ret (t_rt k) i len st = none ∧ mm_thr k d pc i len st h = none ∧ mm_inv k i len st h = none)) : mm_step k d i len pc b st h = none := by
  obtain ⟨g1, g2, g3, g4, g5, g6⟩ := mm_step_none hs
  unfold mm_step
  cases h1 : mm_load b i len with
  | some v => exact absurd (mm_load_only (nl := 0) h1) hn
  | none =>
    dsimp only
    cases h2 : mm_store (t_nl k) b i len st with
    | some q => exact absurd (mm_store_only h2) hn
    | none =>
      dsimp only
      rw [g1, g2, g3, g4, g5, g6]
theorem mm_K.exec : ∀ (n d k pc : Nat) (a b : mm_L) (st : List Value) (h : mm_H) (r : mm_O × mm_H), mm_K a b → mm_exec n d k pc a st h = some r → mm_exec n d k pc b st h = some r := by
  intro n
  induction n with
  | zero => intro d k pc a b st h r _ hx; cases hx
  | succ n ih =>
    intro d k pc a b st h r hK hx
    unfold mm_exec at hx ⊢
    cases hc : t_cod k pc with
    | none => rw [hc] at hx; cases hx
    | some q =>
      obtain ⟨i, len⟩ := q
      rw [hc] at hx
      dsimp only at hx ⊢
      cases hs : mm_step k d i len pc a st h with
      | some q =>
        obtain ⟨pc', a', st', h'⟩ := q
        rw [hs] at hx
        obtain ⟨b', e1, e2⟩ := hK.step hs
        rw [e1]
        exact ih _ _ _ _ _ _ _ _ e2 hx
      | none =>
        rw [hs] at hx
        dsimp only at hx
        have key : mm_step k d i len pc b st h = none := by
          refine mm_K.stop hs (fun hn => ?_)
          rw [hn.1, hn.2.1, hn.2.2] at hx
          cases hx
        rw [key]
        dsimp only
        cases hr : mm_ret (t_rt k) i len st with
        | some v => rw [hr] at hx; exact hx
        | none =>
          rw [hr] at hx
          dsimp only at hx ⊢
          cases ht : mm_thr k d pc i len st h with
          | some q => rw [ht] at hx; exact hx
          | none =>
            rw [ht] at hx
            dsimp only at hx ⊢
            cases hv : mm_inv k i len st h with
            | none => rw [hv] at hx; cases hx
            | some q =>
              obtain ⟨k', as, rest⟩ := q
              rw [hv] at hx
              dsimp only at hx ⊢
              cases d with
              | zero => cases hx
              | succ d' =>
                dsimp only at hx ⊢
                cases hcal : mm_exec n d' k' 0 (lv_args 0 as) [] h with
                | none => rw [hcal] at hx; cases hx
                | some q =>
                  rw [hcal] at hx
                  obtain ⟨o, h'⟩ := q
                  cases o with
                  | inl v =>
                    dsimp only at hx ⊢
                    exact ih _ _ _ _ _ _ _ _ hK hx
                  | inr x =>
                    dsimp only at hx ⊢
                    cases hf : mm_find (t_hx k) pc x.1 with
                    | some pc' =>
                      rw [hf] at hx
                      dsimp only at hx ⊢
                      exact ih _ _ _ _ _ _ _ _ hK hx
                    | none => rw [hf] at hx; exact hx
theorem x_lv {d k pc : Nat} {a b : mm_L} {st : List Value} {h : mm_H} {Q : mm_O × mm_H → Prop} (h1 : nd a = true) (h2 : nd b = true) (hs : subL a b) (w : Wx d k pc a st h Q) : Wx d k pc b st h Q := by
  obtain ⟨n, r, e1, e2⟩ := w
  exact ⟨n, r, mm_K.exec _ _ _ _ _ _ _ _ _ (mm_K.of h1 h2 hs) e1, e2⟩
end
section
section WX4
variable {d k pc : Nat} {lv : mm_L} {st r : List Value} {h : mm_H} {Q : mm_O × mm_H → Prop} {idx si ic t x : Nat}
theorem gen_h {A : mm_H → Prop} (a : A h) (w : ∀ h, A h → Wx d k pc lv st h Q) : Wx d k pc lv st h Q := w h a
def bI (b : Bool) : Int32 := cond b 1 0
theorem bI_0 {b : Bool} : bI b = 0 ↔ b = false := by cases b <;> decide
theorem bI_n0 {b : Bool} (h : ¬ bI b = 0) : b = true := by
  cases b with
  | true => rfl
  | false => exact absurd rfl h
theorem x_ldiv {x y : Int64} (hc : t_cod k pc = some (.ldiv, 1)) (hy : ¬ y = 0) (w : Wx d k (pc + 1) lv (.long (x / y) :: r) h Q) : Wx d k pc lv (.long y :: .long x :: r) h Q :=
  x_step hc (by simp only [mm_step, mm_load, mm_store, mm_arith, if_neg hy]) w
theorem x_lrem {x y : Int64} (hc : t_cod k pc = some (.lrem, 1)) (hy : ¬ y = 0) (w : Wx d k (pc + 1) lv (.long (x - x / y * y) :: r) h Q) : Wx d k pc lv (.long y :: .long x :: r) h Q :=
  x_step hc (by simp only [mm_step, mm_load, mm_store, mm_arith, if_neg hy]) w
theorem x_retb {b : Bool} (hc : t_cod k pc = some (.ireturn, 1)) (hr : t_rt k = some .boolean) (hq : Q (.inl (some (.int (bI b))), h)) : Wx d k pc lv [.int (bI b)] h Q := by
  refine x_ret hc rfl ?_ hq
  rw [hr]
  cases b <;> rfl
theorem x_throw {u v : Nat} {X : xX} {P M : pP} {z : zZ} (R : Rep (u + 1) v X P M z h) (hc : t_cod k pc = some (.new idx, 3)) (hx : t_exc (t_o k) idx = some x) (h3 : t_cod k (pc + 3) = some (.dup, 1)) (h4 : t_cod k (pc + 4) = some (.ldc si, 2)) (h6 : t_cod k (pc + 6) = some (.invokespecial ic, 3)) (h9 : t_cod k (pc + 9) = some (.athrow, 1))
    (hg : (Nat.ble (mm_w st) 12 && (t_str (t_o k) si && (t_ctr (t_o k) ic x && Nat.beq (t_hh k).length 0))) = true) (hn : t_cls (t_o k) idx = none) (hd : 6 ≤ d) : Wx d k pc lv st h (x_th x (Rep u v X P M z)) := by
  obtain ⟨b1, b2⟩ := R.2.2.1
  simp only [Bool.and_eq_true] at hg
  refine x_thr (h' := mm_push h 6 (.inl (x, []))) hc ?_ ?_ ?_ ⟨_, rfl, R.push _ (by omega)⟩
  · simp only [mm_step, mm_load, mm_store, mm_arith, mm_stack, mm_jump, mm_rd, mm_wr, mm_fa, hn]
  · unfold mm_ret
    split <;> first | rfl | contradiction
  · simp only [mm_thr, hx, h3, h4, h6, h9, hg.1, hg.2.1, hg.2.2.1, hg.2.2.2, Nat.ble_eq_true_of_le hd, Nat.ble_eq_true_of_le (show 1 ≤ h.2.1.1 by omega), Nat.ble_eq_true_of_le (show 6 ≤ h.2.1.2 by omega), Bool.true_and, cond_true]
end WX4
/-! what is told of a claim, an asset, the journal: the pure functions -/
def p_net (P : pP) (i : Nat) : Int64 := if pI P 0 i = 2 then 0 else if pL P 0 i - pL P 1 i - pL P 2 i < 0 then 0 else pL P 0 i - pL P 1 i - pL P 2 i
def p_due (P : pP) (i : Nat) (q : Int32) : Int64 := p_net P i * q.toInt64 / 10000
def p_lack (P : pP) (i : Nat) (q : Int32) : Int64 := if p_due P i q - pL P 3 i - pL P 4 i < 0 then 0 else p_due P i q - pL P 3 i - pL P 4 i
def p_unpaid (P : pP) (i : Nat) : Int64 := if p_net P i - pL P 3 i < 0 then 0 else p_net P i - pL P 3 i
def p_open (P : pP) (i : Nat) : Bool := decide (pI P 0 i = 1) || (!decide (pI P 0 i = 2) && !decide (pI P 5 i ≤ 0))
def p_fresh (P : pP) (i : Nat) : Bool := decide (pL P 3 i = 0) && decide (pL P 4 i = 0)
def p_has (P : pP) (j c : Nat) : Nat → Nat → Bool
  | 0, _ => false
  | m + 1, i => if pN P 2 (4 * j + i) = c then true else p_has P j c m (i + 1)
def p_cont (P : pP) (j : Nat) : Nat → Nat → Bool
  | 0, _ => false
  | m + 1, i => if pI P 0 (pN P 2 (4 * j + i)) = 1 then true else p_cont P j m (i + 1)
/-- one entry of the journal, none if nothing moved; all else stays by definition -/
def p_note (P : pP) (kk ow : Int32) (c : Int64) : pP :=
  ((pn P, pa P, if c = 0 then pj P else pj P + 1), P.2.1, (fun g e => if g = 2 then (if (¬ c = 0 ∧ pj P < 3000) ∧ e = pj P then kk else pI P 2 e) else if g = 3 then (if (¬ c = 0 ∧ pj P < 3000) ∧ e = pj P then ow else pI P 3 e) else pI P g e),
    (fun g e => if g = 6 then (if (¬ c = 0 ∧ pj P < 3000) ∧ e = pj P then c else pL P 6 e) else pL P g e))
theorem p_note_0 (P : pP) (kk ow : Int32) {c : Int64} (hc : c = 0) : p_note P kk ow c = P := by
  unfold p_note
  rw [if_pos hc]
  refine Prod.ext rfl (Prod.ext rfl (Prod.ext ?_ ?_))
  · funext g e
    by_cases h2 : g = 2
    · subst h2; simp [hc]
    · by_cases h3 : g = 3
      · subst h3; simp [hc]
      · simp [h2, h3]
  · funext g e
    by_cases h6 : g = 6
    · subst h6; simp [hc]
    · simp [h6]
theorem p_note_1 (P : pP) (kk ow : Int32) {c : Int64} (hc : ¬ c = 0) (hj : pj P < 3000) : p_note P kk ow c = sC (sL (sI (sI P 2 (pj P) kk) 3 (pj P) ow) 6 (pj P) c) (pn P) (pa P) (pj P + 1) := by
  unfold p_note
  rw [if_neg hc]
  refine Prod.ext rfl (Prod.ext rfl (Prod.ext ?_ ?_))
  · funext g e
    show _ = s2 (s2 P.2.2.1 2 (pj P) kk) 3 (pj P) ow g e
    unfold s2
    by_cases h2 : g = 2
    · subst h2; simp [hc, hj]
    · by_cases h3 : g = 3
      · subst h3; simp [hc, hj]
      · simp [h2, h3]
  · funext g e
    show _ = s2 P.2.2.2 6 (pj P) c g e
    unfold s2
    by_cases h6 : g = 6
    · subst h6; simp [hc, hj]
    · simp [h6]
theorem p_note_2 (P : pP) (kk ow : Int32) {c : Int64} (hc : ¬ c = 0) (hj : ¬ pj P < 3000) : p_note P kk ow c = sC P (pn P) (pa P) (pj P + 1) := by
  unfold p_note
  rw [if_neg hc]
  refine Prod.ext rfl (Prod.ext rfl (Prod.ext ?_ ?_))
  · funext g e
    show _ = P.2.2.1 g e
    by_cases h2 : g = 2
    · subst h2; simp [hj]
    · by_cases h3 : g = 3
      · subst h3; simp [hj]
      · simp [h2, h3]
  · funext g e
    show _ = P.2.2.2 g e
    by_cases h6 : g = 6
    · subst h6; simp [hj]
    · simp [h6]
def p_keeps (P : pP) (i : Int32) : Bool := !decide (i < 0) && (!decide (nI (pj P) ≤ i) && !decide (3000 ≤ i))
end
section
section LEAF
variable {u v d : Nat} {X : xX} {P M : pP} {z : zZ} {h : mm_H} {i j : Nat}
theorem c_open (R : Rep u v X P M z h) (hi : i < pn P) : Wx (d) 40 0 (lv_args 0 [.ref (X.1 (100 + i))]) [] h (fun r0 => r0 = (.inl (some (.int (bI (p_open P i)))), h)) := by
  show Wx _ _ 0 [(0, .ref (X.1 (100 + i)))] [] h _
  refine x_run 1 (pc' := 1) (lv' := [(0, .ref (X.1 (100 + i)))]) (st' := [.ref (X.1 (100 + i))]) rfl ?_
  refine x_get (v := .int (pI P 0 i)) rfl rfl (R.cC hi) rfl ?_
  refine x_run 1 (pc' := 5) (lv' := [(0, .ref (X.1 (100 + i)))]) (st' := [.int (1), .int (pI P 0 i)]) rfl ?_
  refine x_if (c := pI P 0 i = 1) (t := 23) rfl rfl (fun c1 => ?_) (fun c1 => ?_)
  · refine x_run 2 (pc' := 28) (lv' := [(0, .ref (X.1 (100 + i)))]) (st' := [.int (1)]) rfl ?_
    refine x_ret (v := some (.int (1))) rfl rfl rfl ?_
    simp [p_open, bI, c1]
  · refine x_run 1 (pc' := 9) (lv' := [(0, .ref (X.1 (100 + i)))]) (st' := [.ref (X.1 (100 + i))]) rfl ?_
    refine x_get (v := .int (pI P 0 i)) rfl rfl (R.cC hi) rfl ?_
    refine x_run 1 (pc' := 13) (lv' := [(0, .ref (X.1 (100 + i)))]) (st' := [.int (2), .int (pI P 0 i)]) rfl ?_
    refine x_if (c := pI P 0 i = 2) (t := 27) rfl rfl (fun c2 => ?_) (fun c2 => ?_)
    · refine x_run 1 (pc' := 28) (lv' := [(0, .ref (X.1 (100 + i)))]) (st' := [.int (0)]) rfl ?_
      refine x_ret (v := some (.int (0))) rfl rfl rfl ?_
      simp [p_open, bI, c1, c2]
    · refine x_run 1 (pc' := 17) (lv' := [(0, .ref (X.1 (100 + i)))]) (st' := [.ref (X.1 (100 + i))]) rfl ?_
      refine x_get (v := .int (pI P 5 i)) rfl rfl (R.cC hi) rfl ?_
      refine x_if (c := pI P 5 i ≤ 0) (t := 27) rfl rfl (fun c3 => ?_) (fun c3 => ?_)
      · refine x_run 1 (pc' := 28) (lv' := [(0, .ref (X.1 (100 + i)))]) (st' := [.int (0)]) rfl ?_
        refine x_ret (v := some (.int (0))) rfl rfl rfl ?_
        simp [p_open, bI, c1, c2, c3]
      · refine x_run 2 (pc' := 28) (lv' := [(0, .ref (X.1 (100 + i)))]) (st' := [.int (1)]) rfl ?_
        refine x_ret (v := some (.int (1))) rfl rfl rfl ?_
        simp [p_open, bI, c1, c2, c3]
theorem c_fresh (R : Rep u v X P M z h) (hi : i < pn P) : Wx (d) 41 0 (lv_args 0 [.ref (X.1 (100 + i))]) [] h (fun r0 => r0 = (.inl (some (.int (bI (p_fresh P i)))), h)) := by
  show Wx _ _ 0 [(0, .ref (X.1 (100 + i)))] [] h _
  refine x_run 1 (pc' := 1) (lv' := [(0, .ref (X.1 (100 + i)))]) (st' := [.ref (X.1 (100 + i))]) rfl ?_
  refine x_get (v := .long (pL P 3 i)) rfl rfl (R.cC hi) rfl ?_
  refine x_run 1 (pc' := 5) (lv' := [(0, .ref (X.1 (100 + i)))]) (st' := [.long (0), .long (pL P 3 i)]) rfl ?_
  refine x_lne (t := 22) rfl rfl rfl (fun c1 => ?_) (fun c1 => ?_)
  · refine x_run 1 (pc' := 23) (lv' := [(0, .ref (X.1 (100 + i)))]) (st' := [.int (0)]) rfl ?_
    refine x_ret (v := some (.int (0))) rfl rfl rfl ?_
    simp [p_fresh, bI, c1]
  · refine x_run 1 (pc' := 10) (lv' := [(0, .ref (X.1 (100 + i)))]) (st' := [.ref (X.1 (100 + i))]) rfl ?_
    refine x_get (v := .long (pL P 4 i)) rfl rfl (R.cC hi) rfl ?_
    refine x_run 1 (pc' := 14) (lv' := [(0, .ref (X.1 (100 + i)))]) (st' := [.long (0), .long (pL P 4 i)]) rfl ?_
    refine x_lne (t := 22) rfl rfl rfl (fun c2 => ?_) (fun c2 => ?_)
    · refine x_run 1 (pc' := 23) (lv' := [(0, .ref (X.1 (100 + i)))]) (st' := [.int (0)]) rfl ?_
      refine x_ret (v := some (.int (0))) rfl rfl rfl ?_
      simp [p_fresh, bI, c1, c2]
    · refine x_run 2 (pc' := 23) (lv' := [(0, .ref (X.1 (100 + i)))]) (st' := [.int (1)]) rfl ?_
      refine x_ret (v := some (.int (1))) rfl rfl rfl ?_
      simp [p_fresh, bI, c1, c2]
theorem c_net (R : Rep u v X P M z h) (hi : i < pn P) : Wx (d + 1) 42 0 (lv_args 0 [.ref (X.1 (100 + i))]) [] h (fun r0 => r0 = (.inl (some (.long (p_net P i))), h)) := by
  show Wx _ _ 0 [(0, .ref (X.1 (100 + i)))] [] h _
  refine x_run 1 (pc' := 1) (lv' := [(0, .ref (X.1 (100 + i)))]) (st' := [.ref (X.1 (100 + i))]) rfl ?_
  refine x_get (v := .int (pI P 0 i)) rfl rfl (R.cC hi) rfl ?_
  refine x_run 1 (pc' := 5) (lv' := [(0, .ref (X.1 (100 + i)))]) (st' := [.int (2), .int (pI P 0 i)]) rfl ?_
  refine x_if (c := ¬ pI P 0 i = 2) (t := 12) rfl rfl (fun c1 => ?_) (fun c1 => ?_)
  · refine x_run 2 (pc' := 14) (lv' := [(0, .ref (X.1 (100 + i)))]) (st' := [.ref (X.1 (100 + i)), .long (0)]) rfl ?_
    refine x_get (v := .long (pL P 0 i)) rfl rfl (R.cC hi) rfl ?_
    refine x_run 1 (pc' := 18) (lv' := [(0, .ref (X.1 (100 + i)))]) (st' := [.ref (X.1 (100 + i)), .long (pL P 0 i), .long (0)]) rfl ?_
    refine x_get (v := .long (pL P 1 i)) rfl rfl (R.cC hi) rfl ?_
    refine x_run 2 (pc' := 23) (lv' := [(0, .ref (X.1 (100 + i)))]) (st' := [.ref (X.1 (100 + i)), .long ((pL P 0 i) - (pL P 1 i)), .long (0)]) rfl ?_
    refine x_get (v := .long (pL P 2 i)) rfl rfl (R.cC hi) rfl ?_
    refine x_run 1 (pc' := 27) (lv' := [(0, .ref (X.1 (100 + i)))]) (st' := [.long (((pL P 0 i) - (pL P 1 i)) - (pL P 2 i)), .long (0)]) rfl ?_
    refine x_max rfl rfl rfl ?_
    refine x_ret (v := some (.long (if ((pL P 0 i) - (pL P 1 i)) - (pL P 2 i) < 0 then 0 else ((pL P 0 i) - (pL P 1 i)) - (pL P 2 i)))) rfl rfl rfl ?_
    simp [p_net, c1]
  · refine x_run 2 (pc' := 30) (lv' := [(0, .ref (X.1 (100 + i)))]) (st' := [.long (0)]) rfl ?_
    refine x_ret (v := some (.long (0))) rfl rfl rfl ?_
    simp [p_net, c1]
theorem c_due (R : Rep u v X P M z h) (hi : i < pn P) (q : Int32) : Wx (d + 2) 43 0 (lv_args 0 [.ref (X.1 (100 + i)), .int (q)]) [] h (fun r0 => r0 = (.inl (some (.long (p_due P i q))), h)) := by
  show Wx _ _ 0 [(0, .ref (X.1 (100 + i))), (1, .int (q))] [] h _
  refine x_run 1 (pc' := 1) (lv' := [(0, .ref (X.1 (100 + i))), (1, .int (q))]) (st' := [.ref (X.1 (100 + i))]) rfl ?_
  refine x_rd (v := .long (p_net P i)) (k' := 42) (as := [.ref (X.1 (100 + i))]) (rest := []) (x_isV (np := 0) rfl rfl rfl (R.cC hi) rfl) (c_net R hi) ?_
  refine x_run 3 (pc' := 7) (lv' := [(0, .ref (X.1 (100 + i))), (1, .int (q))]) (st' := [.long ((p_net P i) * ((q).toInt64))]) rfl ?_
  refine x_ldc2 (x := 10000) rfl rfl ?_
  refine x_step (pc' := 11) (lv' := _) (st' := [.long (((p_net P i) * ((q).toInt64)) / 10000)]) (h' := _) rfl rfl ?_
  refine x_ret (v := some (.long (((p_net P i) * ((q).toInt64)) / 10000))) rfl rfl rfl ?_
  simp [p_due]
theorem c_lack (R : Rep u v X P M z h) (hi : i < pn P) (q : Int32) : Wx (d + 3) 44 0 (lv_args 0 [.ref (X.1 (100 + i)), .int (q)]) [] h (fun r0 => r0 = (.inl (some (.long (p_lack P i q))), h)) := by
  show Wx _ _ 0 [(0, .ref (X.1 (100 + i))), (1, .int (q))] [] h _
  refine x_run 3 (pc' := 3) (lv' := [(0, .ref (X.1 (100 + i))), (1, .int (q))]) (st' := [.int (q), .ref (X.1 (100 + i)), .long (0)]) rfl ?_
  refine x_rd (v := .long (p_due P i q)) (k' := 43) (as := [.ref (X.1 (100 + i)), .int (q)]) (rest := [.long (0)]) (x_isV (np := 1) rfl rfl rfl (R.cC hi) rfl) (c_due R hi q) ?_
  refine x_run 1 (pc' := 7) (lv' := [(0, .ref (X.1 (100 + i))), (1, .int (q))]) (st' := [.ref (X.1 (100 + i)), .long (p_due P i q), .long (0)]) rfl ?_
  refine x_get (v := .long (pL P 3 i)) rfl rfl (R.cC hi) rfl ?_
  refine x_run 2 (pc' := 12) (lv' := [(0, .ref (X.1 (100 + i))), (1, .int (q))]) (st' := [.ref (X.1 (100 + i)), .long ((p_due P i q) - (pL P 3 i)), .long (0)]) rfl ?_
  refine x_get (v := .long (pL P 4 i)) rfl rfl (R.cC hi) rfl ?_
  refine x_run 1 (pc' := 16) (lv' := [(0, .ref (X.1 (100 + i))), (1, .int (q))]) (st' := [.long (((p_due P i q) - (pL P 3 i)) - (pL P 4 i)), .long (0)]) rfl ?_
  refine x_max rfl rfl rfl ?_
  refine x_ret (v := some (.long (if ((p_due P i q) - (pL P 3 i)) - (pL P 4 i) < 0 then 0 else ((p_due P i q) - (pL P 3 i)) - (pL P 4 i)))) rfl rfl rfl ?_
  simp [p_lack]
theorem c_unpaid (R : Rep u v X P M z h) (hi : i < pn P) : Wx (d + 2) 45 0 (lv_args 0 [.ref (X.1 (100 + i))]) [] h (fun r0 => r0 = (.inl (some (.long (p_unpaid P i))), h)) := by
  show Wx _ _ 0 [(0, .ref (X.1 (100 + i)))] [] h _
  refine x_run 2 (pc' := 2) (lv' := [(0, .ref (X.1 (100 + i)))]) (st' := [.ref (X.1 (100 + i)), .long (0)]) rfl ?_
  refine x_rd (v := .long (p_net P i)) (k' := 42) (as := [.ref (X.1 (100 + i))]) (rest := [.long (0)]) (x_isV (np := 0) rfl rfl rfl (R.cC hi) rfl) (c_net R hi) ?_
  refine x_run 1 (pc' := 6) (lv' := [(0, .ref (X.1 (100 + i)))]) (st' := [.ref (X.1 (100 + i)), .long (p_net P i), .long (0)]) rfl ?_
  refine x_get (v := .long (pL P 3 i)) rfl rfl (R.cC hi) rfl ?_
  refine x_run 1 (pc' := 10) (lv' := [(0, .ref (X.1 (100 + i)))]) (st' := [.long ((p_net P i) - (pL P 3 i)), .long (0)]) rfl ?_
  refine x_max rfl rfl rfl ?_
  refine x_ret (v := some (.long (if (p_net P i) - (pL P 3 i) < 0 then 0 else (p_net P i) - (pL P 3 i)))) rfl rfl rfl ?_
  simp [p_unpaid]
theorem c_keeps (R : Rep u v X P M z h) (q : Int32) : Wx (d) 52 0 (lv_args 0 [.ref (X.1 4), .int (q)]) [] h (fun r0 => r0 = (.inl (some (.int (bI (p_keeps P q)))), h)) := by
  show Wx _ _ 0 [(0, .ref (X.1 4)), (1, .int (q))] [] h _
  refine x_run 1 (pc' := 1) (lv' := [(0, .ref (X.1 4)), (1, .int (q))]) (st' := [.int (q)]) rfl ?_
  refine x_if (c := q < 0) (t := 23) rfl rfl (fun c1 => ?_) (fun c1 => ?_)
  · refine x_run 1 (pc' := 24) (lv' := [(0, .ref (X.1 4)), (1, .int (q))]) (st' := [.int (0)]) rfl ?_
    refine x_ret (v := some (.int (0))) rfl rfl rfl ?_
    simp [p_keeps, bI, c1]
  · refine x_run 2 (pc' := 6) (lv' := [(0, .ref (X.1 4)), (1, .int (q))]) (st' := [.ref (X.1 4), .int (q)]) rfl ?_
    refine x_get (v := .int (nI (pj P))) rfl rfl R.c4 rfl ?_
    refine x_if (c := nI (pj P) ≤ q) (t := 23) rfl rfl (fun c2 => ?_) (fun c2 => ?_)
    · refine x_run 1 (pc' := 24) (lv' := [(0, .ref (X.1 4)), (1, .int (q))]) (st' := [.int (0)]) rfl ?_
      refine x_ret (v := some (.int (0))) rfl rfl rfl ?_
      simp [p_keeps, bI, c1, c2]
    · refine x_run 2 (pc' := 16) (lv' := [(0, .ref (X.1 4)), (1, .int (q))]) (st' := [.int (3000), .int (q)]) rfl ?_
      refine x_if (c := 3000 ≤ q) (t := 23) rfl rfl (fun c3 => ?_) (fun c3 => ?_)
      · refine x_run 1 (pc' := 24) (lv' := [(0, .ref (X.1 4)), (1, .int (q))]) (st' := [.int (0)]) rfl ?_
        refine x_ret (v := some (.int (0))) rfl rfl rfl ?_
        simp [p_keeps, bI, c1, c2, c3]
      · refine x_run 2 (pc' := 24) (lv' := [(0, .ref (X.1 4)), (1, .int (q))]) (st' := [.int (1)]) rfl ?_
        refine x_ret (v := some (.int (1))) rfl rfl rfl ?_
        simp [p_keeps, bI, c1, c2, c3]
theorem c_note (R : Rep u (v + 1) X P M z h) (kk ow : Int32) (c : Int64) : Wx (d) 51 0 (lv_args 0 [.ref (X.1 4), .int (kk), .int (ow), .long (c)]) [] h (fun r => r.1 = .inl none ∧ Rep u v X (p_note P kk ow c) M z r.2) := by
  have jb := R.wP.2.2.1
  show Wx _ _ 0 [(0, .ref (X.1 4)), (1, .int (kk)), (2, .int (ow)), (3, .long (c))] [] h _
  refine x_run 2 (pc' := 2) (lv' := [(0, .ref (X.1 4)), (1, .int (kk)), (2, .int (ow)), (3, .long (c))]) (st' := [.long (0), .long (c)]) rfl ?_
  refine x_lne (t := 7) rfl rfl rfl (fun c1 => ?_) (fun c1 => ?_)
  · refine x_run 1 (pc' := 8) (lv' := [(0, .ref (X.1 4)), (1, .int (kk)), (2, .int (ow)), (3, .long (c))]) (st' := [.ref (X.1 4)]) rfl ?_
    refine x_get (v := .int (nI (pj P))) rfl rfl R.c4 rfl ?_
    refine x_run 1 (pc' := 14) (lv' := [(0, .ref (X.1 4)), (1, .int (kk)), (2, .int (ow)), (3, .long (c))]) (st' := [.int (3000), .int (nI (pj P))]) rfl ?_
    refine x_if (c := nI 3000 ≤ nI (pj P)) (t := 47) rfl rfl (fun c2 => ?_) (fun c2 => ?_)
    · replace c2 := (nI_leI (by omega) (by omega)).mp c2
      refine x_run 2 (pc' := 49) (lv' := [(0, .ref (X.1 4)), (1, .int (kk)), (2, .int (ow)), (3, .long (c))]) (st' := [.ref (X.1 4), .ref (X.1 4)]) rfl ?_
      refine x_get (v := .int (nI (pj P))) rfl rfl R.c4 rfl ?_
      refine x_run 2 (pc' := 54) (lv' := [(0, .ref (X.1 4)), (1, .int (kk)), (2, .int (ow)), (3, .long (c))]) (st' := [.int ((nI (pj P)) + (nI 1)), .ref (X.1 4)]) rfl ?_
      rw [nI_add]
      refine x_put rfl rfl R.c4 rfl ?_
      refine gen_h (A := Rep u v X (sC P (pn P) (pa P) (pj P + 1)) M z) (R.uCount) (fun h R => ?_)
      refine x_ret (v := none) rfl rfl rfl ⟨rfl, ?_⟩
      show Rep u v X (p_note P kk ow c) M z h
      rw [p_note_2 P kk ow c1 (by omega)]
      exact R
    · replace c2 := mt (nI_leI (by omega) (by omega)).mpr c2
      refine x_run 1 (pc' := 18) (lv' := [(0, .ref (X.1 4)), (1, .int (kk)), (2, .int (ow)), (3, .long (c))]) (st' := [.ref (X.1 4)]) rfl ?_
      refine x_get (v := .ref (X.1 5)) rfl rfl R.c4 rfl ?_
      refine x_run 1 (pc' := 22) (lv' := [(0, .ref (X.1 4)), (1, .int (kk)), (2, .int (ow)), (3, .long (c))]) (st' := [.ref (X.1 4), .ref (X.1 5)]) rfl ?_
      refine x_get (v := .int (nI (pj P))) rfl rfl R.c4 rfl ?_
      refine x_run 1 (pc' := 26) (lv' := [(0, .ref (X.1 4)), (1, .int (kk)), (2, .int (ow)), (3, .long (c))]) (st' := [.int (kk), .int (nI (pj P)), .ref (X.1 5)]) rfl ?_
      refine x_iast (j := pj P) rfl R.c5 (mm_idx_nI (by omega) (by omega)) ?_
      refine gen_h (A := Rep u (v + 1) X (sI P 2 (pj P) (kk)) M z) (R.uKind _) (fun h R => ?_)
      refine x_run 1 (pc' := 28) (lv' := [(0, .ref (X.1 4)), (1, .int (kk)), (2, .int (ow)), (3, .long (c))]) (st' := [.ref (X.1 4)]) rfl ?_
      refine x_get (v := .ref (X.1 6)) rfl rfl R.c4 rfl ?_
      refine x_run 1 (pc' := 32) (lv' := [(0, .ref (X.1 4)), (1, .int (kk)), (2, .int (ow)), (3, .long (c))]) (st' := [.ref (X.1 4), .ref (X.1 6)]) rfl ?_
      refine x_get (v := .int (nI (pj P))) rfl rfl R.c4 rfl ?_
      refine x_run 1 (pc' := 36) (lv' := [(0, .ref (X.1 4)), (1, .int (kk)), (2, .int (ow)), (3, .long (c))]) (st' := [.int (ow), .int (nI (pj P)), .ref (X.1 6)]) rfl ?_
      refine x_iast (j := pj P) rfl R.c6 (mm_idx_nI (by omega) (by omega)) ?_
      refine gen_h (A := Rep u (v + 1) X (sI (sI P 2 (pj P) (kk)) 3 (pj P) (ow)) M z) (R.uOwner _) (fun h R => ?_)
      refine x_run 1 (pc' := 38) (lv' := [(0, .ref (X.1 4)), (1, .int (kk)), (2, .int (ow)), (3, .long (c))]) (st' := [.ref (X.1 4)]) rfl ?_
      refine x_get (v := .ref (X.1 7)) rfl rfl R.c4 rfl ?_
      refine x_run 1 (pc' := 42) (lv' := [(0, .ref (X.1 4)), (1, .int (kk)), (2, .int (ow)), (3, .long (c))]) (st' := [.ref (X.1 4), .ref (X.1 7)]) rfl ?_
      refine x_get (v := .int (nI (pj P))) rfl rfl R.c4 rfl ?_
      refine x_run 1 (pc' := 46) (lv' := [(0, .ref (X.1 4)), (1, .int (kk)), (2, .int (ow)), (3, .long (c))]) (st' := [.long (c), .int (nI (pj P)), .ref (X.1 7)]) rfl ?_
      refine x_last (j := pj P) rfl R.c7 (mm_idx_nI (by omega) (by omega)) ?_
      refine gen_h (A := Rep u (v + 1) X (sL (sI (sI P 2 (pj P) (kk)) 3 (pj P) (ow)) 6 (pj P) (c)) M z) (R.uCents _) (fun h R => ?_)
      refine x_run 2 (pc' := 49) (lv' := [(0, .ref (X.1 4)), (1, .int (kk)), (2, .int (ow)), (3, .long (c))]) (st' := [.ref (X.1 4), .ref (X.1 4)]) rfl ?_
      refine x_get (v := .int (nI (pj P))) rfl rfl R.c4 rfl ?_
      refine x_run 2 (pc' := 54) (lv' := [(0, .ref (X.1 4)), (1, .int (kk)), (2, .int (ow)), (3, .long (c))]) (st' := [.int ((nI (pj P)) + (nI 1)), .ref (X.1 4)]) rfl ?_
      rw [nI_add]
      refine x_put rfl rfl R.c4 rfl ?_
      refine gen_h (A := Rep u v X (sC (sL (sI (sI P 2 (pj P) (kk)) 3 (pj P) (ow)) 6 (pj P) (c)) (pn (sL (sI (sI P 2 (pj P) (kk)) 3 (pj P) (ow)) 6 (pj P) (c))) (pa (sL (sI (sI P 2 (pj P) (kk)) 3 (pj P) (ow)) 6 (pj P) (c))) (pj P + 1)) M z) (R.uCount) (fun h R => ?_)
      refine x_ret (v := none) rfl rfl rfl ⟨rfl, ?_⟩
      show Rep u v X (p_note P kk ow c) M z h
      rw [p_note_1 P kk ow c1 (by omega)]
      exact R
  · refine x_ret (v := none) rfl rfl rfl ⟨rfl, ?_⟩
    show Rep u v X (p_note P kk ow c) M z h
    rw [p_note_0 P kk ow c1]
    exact R.less (Nat.le_refl _) (Nat.le_succ _)
end LEAF
end
section
/-! the pure operations; b, opn: whether a claim is open (class and reference find it out in their own ways) -/
def p_all (P : pP) (f : Nat) : Nat → Nat → Int64 → Int64
  | 0, _, acc => acc
  | m + 1, i, acc => p_all P f m (i + 1) (acc + pL P f i)
def p_blk (P : pP) (r : Nat) : Nat → Nat → Bool
  | 0, _ => false
  | m + 1, i => if pN P 0 i < r ∧ ¬ pI P 0 i = 2 ∧ ¬ pN P 3 (pN P 0 i) = 10000 then true else p_blk P r m (i + 1)
def p_need (P : pP) (r : Nat) (q : Int32) : Nat → Nat → Int64 → Int64
  | 0, _, acc => acc
  | m + 1, i, acc => if pN P 0 i < r then p_need P r q m (i + 1) (acc + p_lack P i (nI (pN P 3 (pN P 0 i)))) else if pN P 0 i = r then p_need P r q m (i + 1) (acc + p_lack P i q) else p_need P r q m (i + 1) acc
def p_dueOf (P : pP) (i : Nat) : Int64 := p_due P i (nI (pN P 3 (pN P 0 i)))
def p_serve (b : Bool) (P : pP) (i : Nat) (c : Int64) : pP := p_note (sL (sL P 7 0 (pL P 7 0 - c)) (cond b 4 3) i (cond b (pL P 4 i + c) (pL P 3 i + c))) (cond b 5 4) (nI i) c
def p_release (P : pP) (i : Nat) (c : Int64) : pP := p_note (sL (sL P 4 i (pL P 4 i - c)) 7 0 (pL P 7 0 + c)) 7 (nI i) c
def p_pay (P : pP) (i : Nat) (c : Int64) : pP := p_note (sL (sL P 7 0 (pL P 7 0 - c)) 3 i (pL P 3 i + c)) 8 (nI i) c
def p_resA (P : pP) (i : Nat) : Int64 := if p_dueOf P i - pL P 3 i < 0 then 0 else p_dueOf P i - pL P 3 i
def p_resC (P : pP) (i : Nat) : Int64 := if pL P 4 i < p_resA P i then pL P 4 i else p_resA P i
def p_res1 (P : pP) (i : Nat) : pP := p_note (sL (sL P 4 i (pL P 4 i - p_resC P i)) 3 i (pL P 3 i + p_resC P i)) 6 (nI i) (p_resC P i)
def p_resolve (b : Bool) (P : pP) (i : Nat) : pP := if b = true ∨ pL P 4 i = 0 then P else p_release (p_res1 P i) i (pL (p_res1 P i) 4 i)
def p_resV (b : Bool) (P : pP) (i : Nat) : Int64 := if b = true ∨ pL P 4 i = 0 then 0 else p_resC P i
def p_resolves (opn : pP → Nat → Bool) : Nat → Nat → pP → pP
  | 0, _, P => P
  | m + 1, i, P => p_resolves opn m (i + 1) (p_resolve (opn P i) P i)
def p_cents (P : pP) (i : Nat) (q : Int32) : Int64 := if pL P 7 0 < p_lack P i q then pL P 7 0 else p_lack P i q
def p_serveI (opn : pP → Nat → Bool) (r : Nat) : Nat → Nat → pP → Int64 → pP × Int64
  | 0, _, P, acc => (P, acc)
  | m + 1, i, P, acc => if pN P 0 i = r then p_serveI opn r m (i + 1) (p_serve (opn P i) P i (p_cents P i (nI (pN P 3 r)))) (acc + p_cents P i (nI (pN P 3 r))) else p_serveI opn r m (i + 1) P acc
def p_serveR (opn : pP → Nat → Bool) : Nat → Nat → pP → Int64 → pP × Int64
  | 0, _, P, acc => (P, acc)
  | m + 1, r, P, acc => p_serveR opn m (r + 1) (p_serveI opn r (pn P) 0 P acc).1 (p_serveI opn r (pn P) 0 P acc).2
/-- the part of a security -/
def p_part (P : pP) (q : Nat) (left : Int64) : Int64 := if left < (if p_net P (pN P 2 q) < pL P 5 q then p_net P (pN P 2 q) else pL P 5 q) then left else (if p_net P (pN P 2 q) < pL P 5 q then p_net P (pN P 2 q) else pL P 5 q)
def p_give1 (P : pP) (i : Nat) (c : Int64) : pP := p_note (sI (sL P 2 i (pL P 2 i + c)) 5 i (pI P 5 i - 1)) 2 (nI i) c
def p_give (j : Nat) (cents : Int64) : Nat → Nat → pP → Int64 → pP × Int64
  | 0, _, P, acc => (P, acc)
  | m + 1, k, P, acc => p_give j cents m (k + 1) (p_give1 P (pN P 2 (4 * j + k)) (p_part P (4 * j + k) (cents - acc))) (acc + p_part P (4 * j + k) (cents - acc))
def p_drop : Nat → Nat → pP → pP
  | 0, _, P => P
  | m + 1, i, P => p_drop m (i + 1) (if pI P 0 i = 1 then p_release (sI P 0 i 2) i (pL P 4 i) else P)
def p_sumU (P : pP) (r : Nat) : Nat → Nat → Int64 → Int64
  | 0, _, acc => acc
  | m + 1, i, acc => p_sumU P r m (i + 1) (if pN P 0 i = r then acc + p_unpaid P i else acc)
def p_pays (r : Nat) : Nat → Nat → pP → pP
  | 0, _, P => P
  | m + 1, i, P => p_pays r m (i + 1) (if pN P 0 i = r then p_pay P i (p_unpaid P i) else P)
/-- the counts and what is kept as Nat stay -/
def Sh (P P' : pP) : Prop := pn P' = pn P ∧ pa P' = pa P ∧ P'.2.1 = P.2.1
theorem Sh.refl (P : pP) : Sh P P := ⟨rfl, rfl, rfl⟩
theorem Sh.trans {P P' P'' : pP} (a : Sh P P') (b : Sh P' P'') : Sh P P'' := ⟨b.1.trans a.1, b.2.1.trans a.2.1, b.2.2.trans a.2.2⟩
theorem sh_serveI (opn : pP → Nat → Bool) (r : Nat) : ∀ (m i : Nat) (P : pP) (acc : Int64), Sh P (p_serveI opn r m i P acc).1
  | 0, _, P, _ => Sh.refl P
  | m + 1, i, P, acc => by
    unfold p_serveI
    split
    · exact Sh.trans ⟨rfl, rfl, rfl⟩ (sh_serveI opn r m (i + 1) _ _)
    · exact sh_serveI opn r m (i + 1) P acc
theorem sh_serveR (opn : pP → Nat → Bool) : ∀ (m r : Nat) (P : pP) (acc : Int64), Sh P (p_serveR opn m r P acc).1
  | 0, _, P, _ => Sh.refl P
  | m + 1, r, P, acc => by
    unfold p_serveR
    exact Sh.trans (sh_serveI opn r _ 0 P acc) (sh_serveR opn m (r + 1) _ _)
theorem sh_resolve (b : Bool) (P : pP) (i : Nat) : Sh P (p_resolve b P i) := by
  unfold p_resolve
  split
  · exact Sh.refl P
  · exact ⟨rfl, rfl, rfl⟩
theorem sh_resolves (opn : pP → Nat → Bool) : ∀ (m i : Nat) (P : pP), Sh P (p_resolves opn m i P)
  | 0, _, P => Sh.refl P
  | m + 1, i, P => by
    unfold p_resolves
    exact Sh.trans (sh_resolve _ P i) (sh_resolves opn m (i + 1) _)
theorem sh_give (j : Nat) (cents : Int64) : ∀ (m k : Nat) (P : pP) (acc : Int64), Sh P (p_give j cents m k P acc).1
  | 0, _, P, _ => Sh.refl P
  | m + 1, k, P, acc => by
    unfold p_give
    exact Sh.trans ⟨rfl, rfl, rfl⟩ (sh_give j cents m (k + 1) _ _)
theorem sh_drop : ∀ (m i : Nat) (P : pP), Sh P (p_drop m i P)
  | 0, _, P => Sh.refl P
  | m + 1, i, P => by
    unfold p_drop
    refine Sh.trans ?_ (sh_drop m (i + 1) _)
    split
    · exact ⟨rfl, rfl, rfl⟩
    · exact Sh.refl P
theorem sh_pays (r : Nat) : ∀ (m i : Nat) (P : pP), Sh P (p_pays r m i P)
  | 0, _, P => Sh.refl P
  | m + 1, i, P => by
    unfold p_pays
    refine Sh.trans ?_ (sh_pays r m (i + 1) _)
    split
    · exact ⟨rfl, rfl, rfl⟩
    · exact Sh.refl P
end
section
section CLS1
variable {u v d : Nat} {X : xX} {P M : pP} {z : zZ} {h : mm_H} {i j : Nat}
theorem c_dueOf (R : Rep u v X P M z h) (hi : i < pn P) : Wx (d + 3) 23 0 (lv_args 0 [.ref (X.1 0), .ref (X.1 (100 + i))]) [] h (fun r0 => r0 = (.inl (some (.long (p_dueOf P i))), h)) := by
  have r8 := R.wP.rk hi
  show Wx _ _ 0 [(0, .ref (X.1 0)), (1, .ref (X.1 (100 + i)))] [] h _
  refine x_run 2 (pc' := 2) (lv' := [(0, .ref (X.1 0)), (1, .ref (X.1 (100 + i)))]) (st' := [.ref (X.1 0), .ref (X.1 (100 + i))]) rfl ?_
  refine x_get (v := .ref (X.1 3)) rfl rfl R.c0 rfl ?_
  refine x_run 1 (pc' := 6) (lv' := [(0, .ref (X.1 0)), (1, .ref (X.1 (100 + i)))]) (st' := [.ref (X.1 (100 + i)), .ref (X.1 3), .ref (X.1 (100 + i))]) rfl ?_
  refine x_get (v := .int (nI (pN P 0 i))) rfl rfl (R.cC hi) rfl ?_
  refine x_iald (j := pN P 0 i) rfl R.c3 (mm_idx_nI (by omega) (by omega)) ?_
  refine x_rd (v := .long (p_due P i (nI (pN P 3 (pN P 0 i))))) (k' := 43) (as := [.ref (X.1 (100 + i)), .int (nI (pN P 3 (pN P 0 i)))]) (rest := []) (x_isV (np := 1) rfl rfl rfl (R.cC hi) rfl) (c_due R hi (nI (pN P 3 (pN P 0 i)))) ?_
  refine x_ret (v := some (.long (p_due P i (nI (pN P 3 (pN P 0 i)))))) rfl rfl rfl ?_
  simp [p_dueOf]
theorem l_secures (R : Rep u v X P M z h) (hj : j < pa P) {c : Nat} (hc : c < pn P) : ∀ (m : Nat) (i : Nat), i + m = pN P 1 j → Wx (d) 48 2 [(2, .int (nI i)), (1, .ref (X.1 (100 + c))), (0, .ref (X.1 (200 + j)))] [] h (fun r0 => r0 = (.inl (some (.int (bI (p_has P j c m i)))), h)) := by
  intro m
  induction m with
  | zero =>
    intro i hm
    have mn := R.wP.mn hj
    refine x_run 2 (pc' := 4) (lv' := [(2, .int (nI i)), (1, .ref (X.1 (100 + c))), (0, .ref (X.1 (200 + j)))]) (st' := [.ref (X.1 (200 + j)), .int (nI i)]) rfl ?_
    refine x_get (v := .int (nI (pN P 1 j))) rfl rfl (R.cA hj) rfl ?_
    refine x_if (c := nI (pN P 1 j) ≤ nI i) (t := 28) rfl rfl (fun c1 => ?_) (fun c1 => ?_)
    · replace c1 := (nI_leI (by omega) (by omega)).mp c1
      refine x_run 1 (pc' := 29) (lv' := [(2, .int (nI i)), (1, .ref (X.1 (100 + c))), (0, .ref (X.1 (200 + j)))]) (st' := [.int (0)]) rfl ?_
      refine x_ret (v := some (.int (0))) rfl rfl rfl ?_
      simp [p_has, bI, c1]
    · replace c1 := mt (nI_leI (by omega) (by omega)).mpr c1
      omega
  | succ m ih =>
    intro i hm
    have mn := R.wP.mn hj
    have hk : i < pN P 1 j := by omega
    have hd := R.wP.hd hj hk
    refine x_run 2 (pc' := 4) (lv' := [(2, .int (nI i)), (1, .ref (X.1 (100 + c))), (0, .ref (X.1 (200 + j)))]) (st' := [.ref (X.1 (200 + j)), .int (nI i)]) rfl ?_
    refine x_get (v := .int (nI (pN P 1 j))) rfl rfl (R.cA hj) rfl ?_
    refine x_if (c := nI (pN P 1 j) ≤ nI i) (t := 28) rfl rfl (fun c1 => ?_) (fun c1 => ?_)
    · replace c1 := (nI_leI (by omega) (by omega)).mp c1
      omega
    · replace c1 := mt (nI_leI (by omega) (by omega)).mpr c1
      refine x_run 1 (pc' := 11) (lv' := [(2, .int (nI i)), (1, .ref (X.1 (100 + c))), (0, .ref (X.1 (200 + j)))]) (st' := [.ref (X.1 (200 + j))]) rfl ?_
      refine x_get (v := .ref (X.1 (300 + j))) rfl rfl (R.cA hj) rfl ?_
      refine x_run 1 (pc' := 15) (lv' := [(2, .int (nI i)), (1, .ref (X.1 (100 + c))), (0, .ref (X.1 (200 + j)))]) (st' := [.int (nI i), .ref (X.1 (300 + j))]) rfl ?_
      refine x_aald3 (j := i) rfl (R.cH hj) (mm_idx_nI (by omega) (by omega)) ?_
      rw [if_pos hk]
      refine x_run 1 (pc' := 17) (lv' := [(2, .int (nI i)), (1, .ref (X.1 (100 + c))), (0, .ref (X.1 (200 + j)))]) (st' := [.ref (X.1 (100 + c)), .ref (X.1 (100 + pN P 2 (4 * j + i)))]) rfl ?_
      refine x_if (c := ¬ X.1 (100 + pN P 2 (4 * j + i)) = X.1 (100 + c)) (t := 22) rfl rfl (fun c2 => ?_) (fun c2 => ?_)
      · refine x_run 1 (pc' := 25) (lv' := [(2, .int (nI i + 1)), (1, .ref (X.1 (100 + c))), (0, .ref (X.1 (200 + j)))]) (st' := []) rfl ?_
        rw [nI_1]
        refine x_run 1 (pc' := 2) (lv' := [(2, .int (nI (i + 1))), (1, .ref (X.1 (100 + c))), (0, .ref (X.1 (200 + j)))]) (st' := []) rfl ?_
        refine x_lv (a := [(2, .int (nI (i + 1))), (1, .ref (X.1 (100 + c))), (0, .ref (X.1 (200 + j)))]) rfl rfl ⟨rfl, rfl, rfl, trivial⟩ ?_
        have e : ¬ pN P 2 (4 * j + i) = c := fun e => c2 (by rw [e])
        rw [show p_has P j c (m + 1) i = p_has P j c m (i + 1) from by simp [p_has, e]]
        exact ih (i + 1) (by omega)
      · refine x_run 1 (pc' := 21) (lv' := [(2, .int (nI i)), (1, .ref (X.1 (100 + c))), (0, .ref (X.1 (200 + j)))]) (st' := [.int (1)]) rfl ?_
        refine x_ret (v := some (.int (1))) rfl rfl rfl ?_
        have e := R.injC hd hc (Classical.not_not.mp c2)
        simp [p_has, bI, e]
theorem c_secures (R : Rep u v X P M z h) (hj : j < pa P) {c : Nat} (hc : c < pn P) : Wx (d) 48 0 (lv_args 0 [.ref (X.1 (200 + j)), .ref (X.1 (100 + c))]) [] h (fun r0 => r0 = (.inl (some (.int (bI (p_has P j c (pN P 1 j) 0)))), h)) := by
  show Wx _ _ 0 [(0, .ref (X.1 (200 + j))), (1, .ref (X.1 (100 + c)))] [] h _
  refine x_run 2 (pc' := 2) (lv' := [(2, .int (0)), (0, .ref (X.1 (200 + j))), (1, .ref (X.1 (100 + c)))]) (st' := []) rfl ?_
  refine x_lv (a := [(2, .int (0)), (1, .ref (X.1 (100 + c))), (0, .ref (X.1 (200 + j)))]) rfl rfl ⟨rfl, rfl, rfl, trivial⟩ ?_
  exact l_secures R hj hc _ 0 (by omega)
theorem l_cont (R : Rep u v X P M z h) (hj : j < pa P) : ∀ (m : Nat) (i : Nat), i + m = pN P 1 j → Wx (d) 49 2 [(1, .int (nI i)), (0, .ref (X.1 (200 + j)))] [] h (fun r0 => r0 = (.inl (some (.int (bI (p_cont P j m i)))), h)) := by
  intro m
  induction m with
  | zero =>
    intro i hm
    have mn := R.wP.mn hj
    refine x_run 2 (pc' := 4) (lv' := [(1, .int (nI i)), (0, .ref (X.1 (200 + j)))]) (st' := [.ref (X.1 (200 + j)), .int (nI i)]) rfl ?_
    refine x_get (v := .int (nI (pN P 1 j))) rfl rfl (R.cA hj) rfl ?_
    refine x_if (c := nI (pN P 1 j) ≤ nI i) (t := 31) rfl rfl (fun c1 => ?_) (fun c1 => ?_)
    · replace c1 := (nI_leI (by omega) (by omega)).mp c1
      refine x_run 1 (pc' := 32) (lv' := [(1, .int (nI i)), (0, .ref (X.1 (200 + j)))]) (st' := [.int (0)]) rfl ?_
      refine x_ret (v := some (.int (0))) rfl rfl rfl ?_
      simp [p_cont, bI, c1]
    · replace c1 := mt (nI_leI (by omega) (by omega)).mpr c1
      omega
  | succ m ih =>
    intro i hm
    have mn := R.wP.mn hj
    have hk : i < pN P 1 j := by omega
    have hd := R.wP.hd hj hk
    refine x_run 2 (pc' := 4) (lv' := [(1, .int (nI i)), (0, .ref (X.1 (200 + j)))]) (st' := [.ref (X.1 (200 + j)), .int (nI i)]) rfl ?_
    refine x_get (v := .int (nI (pN P 1 j))) rfl rfl (R.cA hj) rfl ?_
    refine x_if (c := nI (pN P 1 j) ≤ nI i) (t := 31) rfl rfl (fun c1 => ?_) (fun c1 => ?_)
    · replace c1 := (nI_leI (by omega) (by omega)).mp c1
      omega
    · replace c1 := mt (nI_leI (by omega) (by omega)).mpr c1
      refine x_run 1 (pc' := 11) (lv' := [(1, .int (nI i)), (0, .ref (X.1 (200 + j)))]) (st' := [.ref (X.1 (200 + j))]) rfl ?_
      refine x_get (v := .ref (X.1 (300 + j))) rfl rfl (R.cA hj) rfl ?_
      refine x_run 1 (pc' := 15) (lv' := [(1, .int (nI i)), (0, .ref (X.1 (200 + j)))]) (st' := [.int (nI i), .ref (X.1 (300 + j))]) rfl ?_
      refine x_aald3 (j := i) rfl (R.cH hj) (mm_idx_nI (by omega) (by omega)) ?_
      rw [if_pos hk]
      refine x_get (v := .int (pI P 0 (pN P 2 (4 * j + i)))) rfl rfl (R.cC hd) rfl ?_
      refine x_run 1 (pc' := 20) (lv' := [(1, .int (nI i)), (0, .ref (X.1 (200 + j)))]) (st' := [.int (1), .int (pI P 0 (pN P 2 (4 * j + i)))]) rfl ?_
      refine x_if (c := ¬ pI P 0 (pN P 2 (4 * j + i)) = 1) (t := 25) rfl rfl (fun c2 => ?_) (fun c2 => ?_)
      · refine x_run 1 (pc' := 28) (lv' := [(1, .int (nI i + 1)), (0, .ref (X.1 (200 + j)))]) (st' := []) rfl ?_
        rw [nI_1]
        refine x_run 1 (pc' := 2) (lv' := [(1, .int (nI (i + 1))), (0, .ref (X.1 (200 + j)))]) (st' := []) rfl ?_
        refine x_lv (a := [(1, .int (nI (i + 1))), (0, .ref (X.1 (200 + j)))]) rfl rfl ⟨rfl, rfl, trivial⟩ ?_
        rw [show p_cont P j (m + 1) i = p_cont P j m (i + 1) from by simp [p_cont, c2]]
        exact ih (i + 1) (by omega)
      · refine x_run 1 (pc' := 24) (lv' := [(1, .int (nI i)), (0, .ref (X.1 (200 + j)))]) (st' := [.int (1)]) rfl ?_
        refine x_ret (v := some (.int (1))) rfl rfl rfl ?_
        simp [p_cont, bI, Classical.not_not.mp c2]
theorem c_cont (R : Rep u v X P M z h) (hj : j < pa P) : Wx (d) 49 0 (lv_args 0 [.ref (X.1 (200 + j))]) [] h (fun r0 => r0 = (.inl (some (.int (bI (p_cont P j (pN P 1 j) 0)))), h)) := by
  show Wx _ _ 0 [(0, .ref (X.1 (200 + j)))] [] h _
  refine x_run 2 (pc' := 2) (lv' := [(1, .int (0)), (0, .ref (X.1 (200 + j)))]) (st' := []) rfl ?_
  refine x_lv (a := [(1, .int (0)), (0, .ref (X.1 (200 + j)))]) rfl rfl ⟨rfl, rfl, trivial⟩ ?_
  exact l_cont R hj _ 0 (by omega)
theorem l_blk (R : Rep u v X P M z h) {r : Nat} (hr : r < 8) : ∀ (m : Nat) (i : Nat), i + m = pn P → Wx (d) 24 2 [(2, .int (nI i)), (0, .ref (X.1 0)), (1, .int (nI r))] [] h (fun r0 => r0 = (.inl (some (.int (bI (p_blk P r m i)))), h)) := by
  intro m
  induction m with
  | zero =>
    intro i hm
    have n60 := R.n60
    refine x_run 2 (pc' := 4) (lv' := [(2, .int (nI i)), (0, .ref (X.1 0)), (1, .int (nI r))]) (st' := [.ref (X.1 0), .int (nI i)]) rfl ?_
    refine x_get (v := .int (nI (pn P))) rfl rfl R.c0 rfl ?_
    refine x_if (c := nI (pn P) ≤ nI i) (t := 56) rfl rfl (fun c1 => ?_) (fun c1 => ?_)
    · replace c1 := (nI_leI (by omega) (by omega)).mp c1
      refine x_run 1 (pc' := 57) (lv' := [(2, .int (nI i)), (0, .ref (X.1 0)), (1, .int (nI r))]) (st' := [.int (0)]) rfl ?_
      refine x_ret (v := some (.int (0))) rfl rfl rfl ?_
      simp [p_blk, bI, c1]
    · replace c1 := mt (nI_leI (by omega) (by omega)).mpr c1
      omega
  | succ m ih =>
    intro i hm
    have n60 := R.n60
    have hi : i < pn P := by omega
    have r8 := R.wP.rk hi
    have p4 := R.wP.pc (pN P 0 i)
    refine x_run 2 (pc' := 4) (lv' := [(2, .int (nI i)), (0, .ref (X.1 0)), (1, .int (nI r))]) (st' := [.ref (X.1 0), .int (nI i)]) rfl ?_
    refine x_get (v := .int (nI (pn P))) rfl rfl R.c0 rfl ?_
    refine x_if (c := nI (pn P) ≤ nI i) (t := 56) rfl rfl (fun c1 => ?_) (fun c1 => ?_)
    · replace c1 := (nI_leI (by omega) (by omega)).mp c1
      omega
    · replace c1 := mt (nI_leI (by omega) (by omega)).mpr c1
      refine x_run 1 (pc' := 11) (lv' := [(2, .int (nI i)), (0, .ref (X.1 0)), (1, .int (nI r))]) (st' := [.ref (X.1 0)]) rfl ?_
      refine x_get (v := .ref (X.1 1)) rfl rfl R.c0 rfl ?_
      refine x_run 1 (pc' := 15) (lv' := [(2, .int (nI i)), (0, .ref (X.1 0)), (1, .int (nI r))]) (st' := [.int (nI i), .ref (X.1 1)]) rfl ?_
      refine x_aald3 (j := i) rfl R.c1 (mm_idx_nI (by omega) (by omega)) ?_
      rw [if_pos hi]
      refine x_run 2 (pc' := 18) (lv' := [(3, .ref (X.1 (100 + i))), (2, .int (nI i)), (0, .ref (X.1 0)), (1, .int (nI r))]) (st' := [.ref (X.1 (100 + i))]) rfl ?_
      refine x_get (v := .int (nI (pN P 0 i))) rfl rfl (R.cC hi) rfl ?_
      refine x_run 1 (pc' := 22) (lv' := [(3, .ref (X.1 (100 + i))), (2, .int (nI i)), (0, .ref (X.1 0)), (1, .int (nI r))]) (st' := [.int (nI r), .int (nI (pN P 0 i))]) rfl ?_
      refine x_if (c := nI r ≤ nI (pN P 0 i)) (t := 50) rfl rfl (fun c2 => ?_) (fun c2 => ?_)
      · replace c2 := (nI_leI (by omega) (by omega)).mp c2
        refine x_run 1 (pc' := 53) (lv' := [(2, .int (nI i + 1)), (3, .ref (X.1 (100 + i))), (0, .ref (X.1 0)), (1, .int (nI r))]) (st' := []) rfl ?_
        rw [nI_1]
        refine x_run 1 (pc' := 2) (lv' := [(2, .int (nI (i + 1))), (3, .ref (X.1 (100 + i))), (0, .ref (X.1 0)), (1, .int (nI r))]) (st' := []) rfl ?_
        refine x_lv (a := [(2, .int (nI (i + 1))), (0, .ref (X.1 0)), (1, .int (nI r))]) rfl rfl ⟨rfl, rfl, rfl, trivial⟩ ?_
        rw [show p_blk P r (m + 1) i = p_blk P r m (i + 1) from by rw [p_blk]; rw [if_neg (fun e => by first | omega | exact e.2.1 (by assumption) | exact e.2.2 (by assumption))]]
        exact ih (i + 1) (by omega)
      · replace c2 := mt (nI_leI (by omega) (by omega)).mpr c2
        refine x_run 1 (pc' := 26) (lv' := [(3, .ref (X.1 (100 + i))), (2, .int (nI i)), (0, .ref (X.1 0)), (1, .int (nI r))]) (st' := [.ref (X.1 (100 + i))]) rfl ?_
        refine x_get (v := .int (pI P 0 i)) rfl rfl (R.cC hi) rfl ?_
        refine x_run 1 (pc' := 30) (lv' := [(3, .ref (X.1 (100 + i))), (2, .int (nI i)), (0, .ref (X.1 0)), (1, .int (nI r))]) (st' := [.int (2), .int (pI P 0 i)]) rfl ?_
        refine x_if (c := pI P 0 i = 2) (t := 50) rfl rfl (fun c3 => ?_) (fun c3 => ?_)
        · refine x_run 1 (pc' := 53) (lv' := [(2, .int (nI i + 1)), (3, .ref (X.1 (100 + i))), (0, .ref (X.1 0)), (1, .int (nI r))]) (st' := []) rfl ?_
          rw [nI_1]
          refine x_run 1 (pc' := 2) (lv' := [(2, .int (nI (i + 1))), (3, .ref (X.1 (100 + i))), (0, .ref (X.1 0)), (1, .int (nI r))]) (st' := []) rfl ?_
          refine x_lv (a := [(2, .int (nI (i + 1))), (0, .ref (X.1 0)), (1, .int (nI r))]) rfl rfl ⟨rfl, rfl, rfl, trivial⟩ ?_
          rw [show p_blk P r (m + 1) i = p_blk P r m (i + 1) from by rw [p_blk]; rw [if_neg (fun e => by first | omega | exact e.2.1 (by assumption) | exact e.2.2 (by assumption))]]
          exact ih (i + 1) (by omega)
        · refine x_run 1 (pc' := 34) (lv' := [(3, .ref (X.1 (100 + i))), (2, .int (nI i)), (0, .ref (X.1 0)), (1, .int (nI r))]) (st' := [.ref (X.1 0)]) rfl ?_
          refine x_get (v := .ref (X.1 3)) rfl rfl R.c0 rfl ?_
          refine x_run 1 (pc' := 38) (lv' := [(3, .ref (X.1 (100 + i))), (2, .int (nI i)), (0, .ref (X.1 0)), (1, .int (nI r))]) (st' := [.ref (X.1 (100 + i)), .ref (X.1 3)]) rfl ?_
          refine x_get (v := .int (nI (pN P 0 i))) rfl rfl (R.cC hi) rfl ?_
          refine x_iald (j := pN P 0 i) rfl R.c3 (mm_idx_nI (by omega) (by omega)) ?_
          refine x_run 1 (pc' := 45) (lv' := [(3, .ref (X.1 (100 + i))), (2, .int (nI i)), (0, .ref (X.1 0)), (1, .int (nI r))]) (st' := [.int (10000), .int (nI (pN P 3 (pN P 0 i)))]) rfl ?_
          refine x_if (c := nI (pN P 3 (pN P 0 i)) = nI 10000) (t := 50) rfl rfl (fun c4 => ?_) (fun c4 => ?_)
          · replace c4 := (nI_eq (by omega) (by omega)).mp c4
            refine x_run 1 (pc' := 53) (lv' := [(2, .int (nI i + 1)), (3, .ref (X.1 (100 + i))), (0, .ref (X.1 0)), (1, .int (nI r))]) (st' := []) rfl ?_
            rw [nI_1]
            refine x_run 1 (pc' := 2) (lv' := [(2, .int (nI (i + 1))), (3, .ref (X.1 (100 + i))), (0, .ref (X.1 0)), (1, .int (nI r))]) (st' := []) rfl ?_
            refine x_lv (a := [(2, .int (nI (i + 1))), (0, .ref (X.1 0)), (1, .int (nI r))]) rfl rfl ⟨rfl, rfl, rfl, trivial⟩ ?_
            rw [show p_blk P r (m + 1) i = p_blk P r m (i + 1) from by rw [p_blk]; rw [if_neg (fun e => by first | omega | exact e.2.1 (by assumption) | exact e.2.2 (by assumption))]]
            exact ih (i + 1) (by omega)
          · replace c4 := mt (nI_eq (by omega) (by omega)).mpr c4
            refine x_run 1 (pc' := 49) (lv' := [(3, .ref (X.1 (100 + i))), (2, .int (nI i)), (0, .ref (X.1 0)), (1, .int (nI r))]) (st' := [.int (1)]) rfl ?_
            refine x_ret (v := some (.int (1))) rfl rfl rfl ?_
            rw [show p_blk P r (m + 1) i = true from by rw [p_blk]; rw [if_pos ⟨by omega, by assumption, by assumption⟩]]
            rfl
theorem c_blk (R : Rep u v X P M z h) {r : Nat} (hr : r < 8) : Wx (d) 24 0 (lv_args 0 [.ref (X.1 0), .int (nI r)]) [] h (fun r0 => r0 = (.inl (some (.int (bI (p_blk P r (pn P) 0)))), h)) := by
  show Wx _ _ 0 [(0, .ref (X.1 0)), (1, .int (nI r))] [] h _
  refine x_run 2 (pc' := 2) (lv' := [(2, .int (0)), (0, .ref (X.1 0)), (1, .int (nI r))]) (st' := []) rfl ?_
  refine x_lv (a := [(2, .int (0)), (0, .ref (X.1 0)), (1, .int (nI r))]) rfl rfl ⟨rfl, rfl, rfl, trivial⟩ ?_
  exact l_blk R hr _ 0 (by omega)
theorem l_need (R : Rep u v X P M z h) {r : Nat} (hr : r < 8) (q : Int32) : ∀ (m : Nat) (i : Nat) (acc : Int64), i + m = pn P → Wx (d + 4) 25 5 [(5, .int (nI i)), (3, .long (acc)), (0, .ref (X.1 0)), (1, .int (nI r)), (2, .int (q))] [] h (fun r0 => r0 = (.inl (some (.long (p_need P r q m i acc))), h)) := by
  intro m
  induction m with
  | zero =>
    intro i acc hm
    have n60 := R.n60
    refine x_run 2 (pc' := 8) (lv' := [(5, .int (nI i)), (3, .long (acc)), (0, .ref (X.1 0)), (1, .int (nI r)), (2, .int (q))]) (st' := [.ref (X.1 0), .int (nI i)]) rfl ?_
    refine x_get (v := .int (nI (pn P))) rfl rfl R.c0 rfl ?_
    refine x_if (c := nI (pn P) ≤ nI i) (t := 77) rfl rfl (fun c1 => ?_) (fun c1 => ?_)
    · replace c1 := (nI_leI (by omega) (by omega)).mp c1
      refine x_run 1 (pc' := 78) (lv' := [(5, .int (nI i)), (3, .long (acc)), (0, .ref (X.1 0)), (1, .int (nI r)), (2, .int (q))]) (st' := [.long (acc)]) rfl ?_
      refine x_ret (v := some (.long (acc))) rfl rfl rfl ?_
      simp [p_need, c1]
    · replace c1 := mt (nI_leI (by omega) (by omega)).mpr c1
      omega
  | succ m ih =>
    intro i acc hm
    have n60 := R.n60
    have hi : i < pn P := by omega
    have r8 := R.wP.rk hi
    have p4 := R.wP.pc (pN P 0 i)
    refine x_run 2 (pc' := 8) (lv' := [(5, .int (nI i)), (3, .long (acc)), (0, .ref (X.1 0)), (1, .int (nI r)), (2, .int (q))]) (st' := [.ref (X.1 0), .int (nI i)]) rfl ?_
    refine x_get (v := .int (nI (pn P))) rfl rfl R.c0 rfl ?_
    refine x_if (c := nI (pn P) ≤ nI i) (t := 77) rfl rfl (fun c1 => ?_) (fun c1 => ?_)
    · replace c1 := (nI_leI (by omega) (by omega)).mp c1
      omega
    · replace c1 := mt (nI_leI (by omega) (by omega)).mpr c1
      refine x_run 1 (pc' := 15) (lv' := [(5, .int (nI i)), (3, .long (acc)), (0, .ref (X.1 0)), (1, .int (nI r)), (2, .int (q))]) (st' := [.ref (X.1 0)]) rfl ?_
      refine x_get (v := .ref (X.1 1)) rfl rfl R.c0 rfl ?_
      refine x_run 1 (pc' := 20) (lv' := [(5, .int (nI i)), (3, .long (acc)), (0, .ref (X.1 0)), (1, .int (nI r)), (2, .int (q))]) (st' := [.int (nI i), .ref (X.1 1)]) rfl ?_
      refine x_aald3 (j := i) rfl R.c1 (mm_idx_nI (by omega) (by omega)) ?_
      rw [if_pos hi]
      refine x_run 2 (pc' := 25) (lv' := [(6, .ref (X.1 (100 + i))), (5, .int (nI i)), (3, .long (acc)), (0, .ref (X.1 0)), (1, .int (nI r)), (2, .int (q))]) (st' := [.ref (X.1 (100 + i))]) rfl ?_
      refine x_get (v := .int (nI (pN P 0 i))) rfl rfl (R.cC hi) rfl ?_
      refine x_run 1 (pc' := 29) (lv' := [(6, .ref (X.1 (100 + i))), (5, .int (nI i)), (3, .long (acc)), (0, .ref (X.1 0)), (1, .int (nI r)), (2, .int (q))]) (st' := [.int (nI r), .int (nI (pN P 0 i))]) rfl ?_
      refine x_if (c := nI r ≤ nI (pN P 0 i)) (t := 53) rfl rfl (fun c2 => ?_) (fun c2 => ?_)
      · replace c2 := (nI_leI (by omega) (by omega)).mp c2
        refine x_run 1 (pc' := 55) (lv' := [(6, .ref (X.1 (100 + i))), (5, .int (nI i)), (3, .long (acc)), (0, .ref (X.1 0)), (1, .int (nI r)), (2, .int (q))]) (st' := [.ref (X.1 (100 + i))]) rfl ?_
        refine x_get (v := .int (nI (pN P 0 i))) rfl rfl (R.cC hi) rfl ?_
        refine x_run 1 (pc' := 59) (lv' := [(6, .ref (X.1 (100 + i))), (5, .int (nI i)), (3, .long (acc)), (0, .ref (X.1 0)), (1, .int (nI r)), (2, .int (q))]) (st' := [.int (nI r), .int (nI (pN P 0 i))]) rfl ?_
        refine x_if (c := ¬ nI (pN P 0 i) = nI r) (t := 71) rfl rfl (fun c3 => ?_) (fun c3 => ?_)
        · replace c3 := mt (nI_eq (by omega) (by omega)).mpr c3
          refine x_run 1 (pc' := 74) (lv' := [(5, .int (nI i + 1)), (6, .ref (X.1 (100 + i))), (3, .long (acc)), (0, .ref (X.1 0)), (1, .int (nI r)), (2, .int (q))]) (st' := []) rfl ?_
          rw [nI_1]
          refine x_run 1 (pc' := 5) (lv' := [(5, .int (nI (i + 1))), (6, .ref (X.1 (100 + i))), (3, .long (acc)), (0, .ref (X.1 0)), (1, .int (nI r)), (2, .int (q))]) (st' := []) rfl ?_
          refine x_lv (a := [(5, .int (nI (i + 1))), (3, .long (acc)), (0, .ref (X.1 0)), (1, .int (nI r)), (2, .int (q))]) rfl rfl ⟨rfl, rfl, rfl, rfl, rfl, trivial⟩ ?_
          rw [show p_need P r q (m + 1) i acc = p_need P r q m (i + 1) (acc) from by rw [p_need]; first | rw [if_pos (by omega)] | rw [if_neg (by omega), if_pos (by omega)] | rw [if_neg (by omega), if_neg (by omega)]]
          exact ih (i + 1) _ (by omega)
        · replace c3 := (nI_eq (by omega) (by omega)).mp (Classical.not_not.mp c3)
          refine x_run 3 (pc' := 66) (lv' := [(6, .ref (X.1 (100 + i))), (5, .int (nI i)), (3, .long (acc)), (0, .ref (X.1 0)), (1, .int (nI r)), (2, .int (q))]) (st' := [.int (q), .ref (X.1 (100 + i)), .long (acc)]) rfl ?_
          refine x_rd (v := .long (p_lack P i q)) (k' := 44) (as := [.ref (X.1 (100 + i)), .int (q)]) (rest := [.long (acc)]) (x_isV (np := 1) rfl rfl rfl (R.cC hi) rfl) (c_lack R hi q) ?_
          refine x_run 3 (pc' := 74) (lv' := [(5, .int (nI i + 1)), (3, .long (acc + (p_lack P i q))), (6, .ref (X.1 (100 + i))), (0, .ref (X.1 0)), (1, .int (nI r)), (2, .int (q))]) (st' := []) rfl ?_
          rw [nI_1]
          refine x_run 1 (pc' := 5) (lv' := [(5, .int (nI (i + 1))), (3, .long (acc + (p_lack P i q))), (6, .ref (X.1 (100 + i))), (0, .ref (X.1 0)), (1, .int (nI r)), (2, .int (q))]) (st' := []) rfl ?_
          refine x_lv (a := [(5, .int (nI (i + 1))), (3, .long (acc + (p_lack P i q))), (0, .ref (X.1 0)), (1, .int (nI r)), (2, .int (q))]) rfl rfl ⟨rfl, rfl, rfl, rfl, rfl, trivial⟩ ?_
          rw [show p_need P r q (m + 1) i acc = p_need P r q m (i + 1) (acc + (p_lack P i q)) from by rw [p_need]; first | rw [if_pos (by omega)] | rw [if_neg (by omega), if_pos (by omega)] | rw [if_neg (by omega), if_neg (by omega)]]
          exact ih (i + 1) _ (by omega)
      · replace c2 := mt (nI_leI (by omega) (by omega)).mpr c2
        refine x_run 3 (pc' := 36) (lv' := [(6, .ref (X.1 (100 + i))), (5, .int (nI i)), (3, .long (acc)), (0, .ref (X.1 0)), (1, .int (nI r)), (2, .int (q))]) (st' := [.ref (X.1 0), .ref (X.1 (100 + i)), .long (acc)]) rfl ?_
        refine x_get (v := .ref (X.1 3)) rfl rfl R.c0 rfl ?_
        refine x_run 1 (pc' := 41) (lv' := [(6, .ref (X.1 (100 + i))), (5, .int (nI i)), (3, .long (acc)), (0, .ref (X.1 0)), (1, .int (nI r)), (2, .int (q))]) (st' := [.ref (X.1 (100 + i)), .ref (X.1 3), .ref (X.1 (100 + i)), .long (acc)]) rfl ?_
        refine x_get (v := .int (nI (pN P 0 i))) rfl rfl (R.cC hi) rfl ?_
        refine x_iald (j := pN P 0 i) rfl R.c3 (mm_idx_nI (by omega) (by omega)) ?_
        refine x_rd (v := .long (p_lack P i (nI (pN P 3 (pN P 0 i))))) (k' := 44) (as := [.ref (X.1 (100 + i)), .int (nI (pN P 3 (pN P 0 i)))]) (rest := [.long (acc)]) (x_isV (np := 1) rfl rfl rfl (R.cC hi) rfl) (c_lack R hi (nI (pN P 3 (pN P 0 i)))) ?_
        refine x_run 4 (pc' := 74) (lv' := [(5, .int (nI i + 1)), (3, .long (acc + (p_lack P i (nI (pN P 3 (pN P 0 i)))))), (6, .ref (X.1 (100 + i))), (0, .ref (X.1 0)), (1, .int (nI r)), (2, .int (q))]) (st' := []) rfl ?_
        rw [nI_1]
        refine x_run 1 (pc' := 5) (lv' := [(5, .int (nI (i + 1))), (3, .long (acc + (p_lack P i (nI (pN P 3 (pN P 0 i)))))), (6, .ref (X.1 (100 + i))), (0, .ref (X.1 0)), (1, .int (nI r)), (2, .int (q))]) (st' := []) rfl ?_
        refine x_lv (a := [(5, .int (nI (i + 1))), (3, .long (acc + (p_lack P i (nI (pN P 3 (pN P 0 i)))))), (0, .ref (X.1 0)), (1, .int (nI r)), (2, .int (q))]) rfl rfl ⟨rfl, rfl, rfl, rfl, rfl, trivial⟩ ?_
        rw [show p_need P r q (m + 1) i acc = p_need P r q m (i + 1) (acc + (p_lack P i (nI (pN P 3 (pN P 0 i))))) from by rw [p_need]; first | rw [if_pos (by omega)] | rw [if_neg (by omega), if_pos (by omega)] | rw [if_neg (by omega), if_neg (by omega)]]
        exact ih (i + 1) _ (by omega)
theorem c_need (R : Rep u v X P M z h) {r : Nat} (hr : r < 8) (q : Int32) : Wx (d + 4) 25 0 (lv_args 0 [.ref (X.1 0), .int (nI r), .int (q)]) [] h (fun r0 => r0 = (.inl (some (.long (p_need P r q (pn P) 0 0))), h)) := by
  show Wx _ _ 0 [(0, .ref (X.1 0)), (1, .int (nI r)), (2, .int (q))] [] h _
  refine x_run 4 (pc' := 5) (lv' := [(5, .int (0)), (3, .long (0)), (0, .ref (X.1 0)), (1, .int (nI r)), (2, .int (q))]) (st' := []) rfl ?_
  refine x_lv (a := [(5, .int (0)), (3, .long (0)), (0, .ref (X.1 0)), (1, .int (nI r)), (2, .int (q))]) rfl rfl ⟨rfl, rfl, rfl, rfl, rfl, trivial⟩ ?_
  exact l_need R hr q _ 0 0 (by omega)
theorem l_all4 (R : Rep u v X P M z h) : ∀ (m : Nat) (i : Nat) (acc : Int64), i + m = pn P → Wx (d) 36 4 [(3, .int (nI i)), (1, .long (acc)), (0, .ref (X.1 0))] [] h (fun r0 => r0 = (.inl (some (.long (p_all P 4 m i acc))), h)) := by
  intro m
  induction m with
  | zero =>
    intro i acc hm
    have n60 := R.n60
    refine x_run 2 (pc' := 6) (lv' := [(3, .int (nI i)), (1, .long (acc)), (0, .ref (X.1 0))]) (st' := [.ref (X.1 0), .int (nI i)]) rfl ?_
    refine x_get (v := .int (nI (pn P))) rfl rfl R.c0 rfl ?_
    refine x_if (c := nI (pn P) ≤ nI i) (t := 30) rfl rfl (fun c1 => ?_) (fun c1 => ?_)
    · replace c1 := (nI_leI (by omega) (by omega)).mp c1
      refine x_run 1 (pc' := 31) (lv' := [(3, .int (nI i)), (1, .long (acc)), (0, .ref (X.1 0))]) (st' := [.long (acc)]) rfl ?_
      refine x_ret (v := some (.long (acc))) rfl rfl rfl ?_
      simp [p_all, c1]
    · replace c1 := mt (nI_leI (by omega) (by omega)).mpr c1
      omega
  | succ m ih =>
    intro i acc hm
    have n60 := R.n60
    have hi : i < pn P := by omega
    refine x_run 2 (pc' := 6) (lv' := [(3, .int (nI i)), (1, .long (acc)), (0, .ref (X.1 0))]) (st' := [.ref (X.1 0), .int (nI i)]) rfl ?_
    refine x_get (v := .int (nI (pn P))) rfl rfl R.c0 rfl ?_
    refine x_if (c := nI (pn P) ≤ nI i) (t := 30) rfl rfl (fun c1 => ?_) (fun c1 => ?_)
    · replace c1 := (nI_leI (by omega) (by omega)).mp c1
      omega
    · replace c1 := mt (nI_leI (by omega) (by omega)).mpr c1
      refine x_run 2 (pc' := 14) (lv' := [(3, .int (nI i)), (1, .long (acc)), (0, .ref (X.1 0))]) (st' := [.ref (X.1 0), .long (acc)]) rfl ?_
      refine x_get (v := .ref (X.1 1)) rfl rfl R.c0 rfl ?_
      refine x_run 1 (pc' := 18) (lv' := [(3, .int (nI i)), (1, .long (acc)), (0, .ref (X.1 0))]) (st' := [.int (nI i), .ref (X.1 1), .long (acc)]) rfl ?_
      refine x_aald3 (j := i) rfl R.c1 (mm_idx_nI (by omega) (by omega)) ?_
      rw [if_pos hi]
      refine x_get (v := .long (pL P 4 i)) rfl rfl (R.cC hi) rfl ?_
      refine x_run 3 (pc' := 27) (lv' := [(3, .int (nI i + 1)), (1, .long (acc + (pL P 4 i))), (0, .ref (X.1 0))]) (st' := []) rfl ?_
      rw [nI_1]
      refine x_run 1 (pc' := 4) (lv' := [(3, .int (nI (i + 1))), (1, .long (acc + (pL P 4 i))), (0, .ref (X.1 0))]) (st' := []) rfl ?_
      refine x_lv (a := [(3, .int (nI (i + 1))), (1, .long (acc + (pL P 4 i))), (0, .ref (X.1 0))]) rfl rfl ⟨rfl, rfl, rfl, trivial⟩ ?_
      exact ih (i + 1) _ (by omega)
theorem c_all4 (R : Rep u v X P M z h) : Wx (d) 36 0 (lv_args 0 [.ref (X.1 0)]) [] h (fun r0 => r0 = (.inl (some (.long (p_all P 4 (pn P) 0 0))), h)) := by
  show Wx _ _ 0 [(0, .ref (X.1 0))] [] h _
  refine x_run 4 (pc' := 4) (lv' := [(3, .int (0)), (1, .long (0)), (0, .ref (X.1 0))]) (st' := []) rfl ?_
  refine x_lv (a := [(3, .int (0)), (1, .long (0)), (0, .ref (X.1 0))]) rfl rfl ⟨rfl, rfl, rfl, trivial⟩ ?_
  exact l_all4 R _ 0 0 (by omega)
theorem l_all2 (R : Rep u v X P M z h) : ∀ (m : Nat) (i : Nat) (acc : Int64), i + m = pn P → Wx (d) 37 4 [(3, .int (nI i)), (1, .long (acc)), (0, .ref (X.1 0))] [] h (fun r0 => r0 = (.inl (some (.long (p_all P 2 m i acc))), h)) := by
  intro m
  induction m with
  | zero =>
    intro i acc hm
    have n60 := R.n60
    refine x_run 2 (pc' := 6) (lv' := [(3, .int (nI i)), (1, .long (acc)), (0, .ref (X.1 0))]) (st' := [.ref (X.1 0), .int (nI i)]) rfl ?_
    refine x_get (v := .int (nI (pn P))) rfl rfl R.c0 rfl ?_
    refine x_if (c := nI (pn P) ≤ nI i) (t := 30) rfl rfl (fun c1 => ?_) (fun c1 => ?_)
    · replace c1 := (nI_leI (by omega) (by omega)).mp c1
      refine x_run 1 (pc' := 31) (lv' := [(3, .int (nI i)), (1, .long (acc)), (0, .ref (X.1 0))]) (st' := [.long (acc)]) rfl ?_
      refine x_ret (v := some (.long (acc))) rfl rfl rfl ?_
      simp [p_all, c1]
    · replace c1 := mt (nI_leI (by omega) (by omega)).mpr c1
      omega
  | succ m ih =>
    intro i acc hm
    have n60 := R.n60
    have hi : i < pn P := by omega
    refine x_run 2 (pc' := 6) (lv' := [(3, .int (nI i)), (1, .long (acc)), (0, .ref (X.1 0))]) (st' := [.ref (X.1 0), .int (nI i)]) rfl ?_
    refine x_get (v := .int (nI (pn P))) rfl rfl R.c0 rfl ?_
    refine x_if (c := nI (pn P) ≤ nI i) (t := 30) rfl rfl (fun c1 => ?_) (fun c1 => ?_)
    · replace c1 := (nI_leI (by omega) (by omega)).mp c1
      omega
    · replace c1 := mt (nI_leI (by omega) (by omega)).mpr c1
      refine x_run 2 (pc' := 14) (lv' := [(3, .int (nI i)), (1, .long (acc)), (0, .ref (X.1 0))]) (st' := [.ref (X.1 0), .long (acc)]) rfl ?_
      refine x_get (v := .ref (X.1 1)) rfl rfl R.c0 rfl ?_
      refine x_run 1 (pc' := 18) (lv' := [(3, .int (nI i)), (1, .long (acc)), (0, .ref (X.1 0))]) (st' := [.int (nI i), .ref (X.1 1), .long (acc)]) rfl ?_
      refine x_aald3 (j := i) rfl R.c1 (mm_idx_nI (by omega) (by omega)) ?_
      rw [if_pos hi]
      refine x_get (v := .long (pL P 2 i)) rfl rfl (R.cC hi) rfl ?_
      refine x_run 3 (pc' := 27) (lv' := [(3, .int (nI i + 1)), (1, .long (acc + (pL P 2 i))), (0, .ref (X.1 0))]) (st' := []) rfl ?_
      rw [nI_1]
      refine x_run 1 (pc' := 4) (lv' := [(3, .int (nI (i + 1))), (1, .long (acc + (pL P 2 i))), (0, .ref (X.1 0))]) (st' := []) rfl ?_
      refine x_lv (a := [(3, .int (nI (i + 1))), (1, .long (acc + (pL P 2 i))), (0, .ref (X.1 0))]) rfl rfl ⟨rfl, rfl, rfl, trivial⟩ ?_
      exact ih (i + 1) _ (by omega)
theorem c_all2 (R : Rep u v X P M z h) : Wx (d) 37 0 (lv_args 0 [.ref (X.1 0)]) [] h (fun r0 => r0 = (.inl (some (.long (p_all P 2 (pn P) 0 0))), h)) := by
  show Wx _ _ 0 [(0, .ref (X.1 0))] [] h _
  refine x_run 4 (pc' := 4) (lv' := [(3, .int (0)), (1, .long (0)), (0, .ref (X.1 0))]) (st' := []) rfl ?_
  refine x_lv (a := [(3, .int (0)), (1, .long (0)), (0, .ref (X.1 0))]) rfl rfl ⟨rfl, rfl, rfl, trivial⟩ ?_
  exact l_all2 R _ 0 0 (by omega)
theorem l_all3 (R : Rep u v X P M z h) : ∀ (m : Nat) (i : Nat) (acc : Int64), i + m = pn P → Wx (d) 38 4 [(3, .int (nI i)), (1, .long (acc)), (0, .ref (X.1 0))] [] h (fun r0 => r0 = (.inl (some (.long (p_all P 3 m i acc))), h)) := by
  intro m
  induction m with
  | zero =>
    intro i acc hm
    have n60 := R.n60
    refine x_run 2 (pc' := 6) (lv' := [(3, .int (nI i)), (1, .long (acc)), (0, .ref (X.1 0))]) (st' := [.ref (X.1 0), .int (nI i)]) rfl ?_
    refine x_get (v := .int (nI (pn P))) rfl rfl R.c0 rfl ?_
    refine x_if (c := nI (pn P) ≤ nI i) (t := 30) rfl rfl (fun c1 => ?_) (fun c1 => ?_)
    · replace c1 := (nI_leI (by omega) (by omega)).mp c1
      refine x_run 1 (pc' := 31) (lv' := [(3, .int (nI i)), (1, .long (acc)), (0, .ref (X.1 0))]) (st' := [.long (acc)]) rfl ?_
      refine x_ret (v := some (.long (acc))) rfl rfl rfl ?_
      simp [p_all, c1]
    · replace c1 := mt (nI_leI (by omega) (by omega)).mpr c1
      omega
  | succ m ih =>
    intro i acc hm
    have n60 := R.n60
    have hi : i < pn P := by omega
    refine x_run 2 (pc' := 6) (lv' := [(3, .int (nI i)), (1, .long (acc)), (0, .ref (X.1 0))]) (st' := [.ref (X.1 0), .int (nI i)]) rfl ?_
    refine x_get (v := .int (nI (pn P))) rfl rfl R.c0 rfl ?_
    refine x_if (c := nI (pn P) ≤ nI i) (t := 30) rfl rfl (fun c1 => ?_) (fun c1 => ?_)
    · replace c1 := (nI_leI (by omega) (by omega)).mp c1
      omega
    · replace c1 := mt (nI_leI (by omega) (by omega)).mpr c1
      refine x_run 2 (pc' := 14) (lv' := [(3, .int (nI i)), (1, .long (acc)), (0, .ref (X.1 0))]) (st' := [.ref (X.1 0), .long (acc)]) rfl ?_
      refine x_get (v := .ref (X.1 1)) rfl rfl R.c0 rfl ?_
      refine x_run 1 (pc' := 18) (lv' := [(3, .int (nI i)), (1, .long (acc)), (0, .ref (X.1 0))]) (st' := [.int (nI i), .ref (X.1 1), .long (acc)]) rfl ?_
      refine x_aald3 (j := i) rfl R.c1 (mm_idx_nI (by omega) (by omega)) ?_
      rw [if_pos hi]
      refine x_get (v := .long (pL P 3 i)) rfl rfl (R.cC hi) rfl ?_
      refine x_run 3 (pc' := 27) (lv' := [(3, .int (nI i + 1)), (1, .long (acc + (pL P 3 i))), (0, .ref (X.1 0))]) (st' := []) rfl ?_
      rw [nI_1]
      refine x_run 1 (pc' := 4) (lv' := [(3, .int (nI (i + 1))), (1, .long (acc + (pL P 3 i))), (0, .ref (X.1 0))]) (st' := []) rfl ?_
      refine x_lv (a := [(3, .int (nI (i + 1))), (1, .long (acc + (pL P 3 i))), (0, .ref (X.1 0))]) rfl rfl ⟨rfl, rfl, rfl, trivial⟩ ?_
      exact ih (i + 1) _ (by omega)
theorem c_all3 (R : Rep u v X P M z h) : Wx (d) 38 0 (lv_args 0 [.ref (X.1 0)]) [] h (fun r0 => r0 = (.inl (some (.long (p_all P 3 (pn P) 0 0))), h)) := by
  show Wx _ _ 0 [(0, .ref (X.1 0))] [] h _
  refine x_run 4 (pc' := 4) (lv' := [(3, .int (0)), (1, .long (0)), (0, .ref (X.1 0))]) (st' := []) rfl ?_
  refine x_lv (a := [(3, .int (0)), (1, .long (0)), (0, .ref (X.1 0))]) rfl rfl ⟨rfl, rfl, rfl, trivial⟩ ?_
  exact l_all3 R _ 0 0 (by omega)
end CLS1
end
section
section CLS2
variable {u v d : Nat} {X : xX} {P M : pP} {z : zZ} {h : mm_H} {i j : Nat}
theorem c_serve (R : Rep u (v + 1) X P M z h) (hi : i < pn P) (c : Int64) : Wx (d + 1) 27 0 (lv_args 0 [.ref (X.1 0), .ref (X.1 (100 + i)), .long (c)]) [] h (fun r0 => r0.1 = .inl none ∧ Rep u v X (p_serve (p_open P i) P i c) M z r0.2) := by
  show Wx _ _ 0 [(0, .ref (X.1 0)), (1, .ref (X.1 (100 + i))), (2, .long (c))] [] h _
  refine x_run 2 (pc' := 2) (lv' := [(0, .ref (X.1 0)), (1, .ref (X.1 (100 + i))), (2, .long (c))]) (st' := [.ref (X.1 0), .ref (X.1 0)]) rfl ?_
  refine x_get (v := .long (pL P 7 0)) rfl rfl R.c0 rfl ?_
  refine x_run 2 (pc' := 7) (lv' := [(0, .ref (X.1 0)), (1, .ref (X.1 (100 + i))), (2, .long (c))]) (st' := [.long ((pL P 7 0) - c), .ref (X.1 0)]) rfl ?_
  refine x_put rfl rfl R.c0 rfl ?_
  refine gen_h (A := Rep u (v + 1) X (sL P 7 0 ((pL P 7 0) - c)) M z) (R.uCash _) (fun h R => ?_)
  refine x_run 1 (pc' := 11) (lv' := [(0, .ref (X.1 0)), (1, .ref (X.1 (100 + i))), (2, .long (c))]) (st' := [.ref (X.1 (100 + i))]) rfl ?_
  refine x_rd (v := .int (bI (p_open (sL P 7 0 ((pL P 7 0) - c)) i))) (k' := 40) (as := [.ref (X.1 (100 + i))]) (rest := []) (x_isV (np := 0) rfl rfl rfl (R.cC hi) rfl) (c_open R hi) ?_
  refine x_if (c := bI (p_open (sL P 7 0 ((pL P 7 0) - c)) i) = 0) (t := 43) rfl rfl (fun c1 => ?_) (fun c1 => ?_)
  · replace c1 := bI_0.mp c1
    refine x_run 2 (pc' := 45) (lv' := [(0, .ref (X.1 0)), (1, .ref (X.1 (100 + i))), (2, .long (c))]) (st' := [.ref (X.1 (100 + i)), .ref (X.1 (100 + i))]) rfl ?_
    refine x_get (v := .long (pL P 3 i)) rfl rfl (R.cC hi) rfl ?_
    refine x_run 2 (pc' := 50) (lv' := [(0, .ref (X.1 0)), (1, .ref (X.1 (100 + i))), (2, .long (c))]) (st' := [.long ((pL P 3 i) + c), .ref (X.1 (100 + i))]) rfl ?_
    refine x_put rfl rfl (R.cC hi) rfl ?_
    refine gen_h (A := Rep u (v + 1) X (sL (sL P 7 0 ((pL P 7 0) - c)) 3 i ((pL P 3 i) + c)) M z) (R.uPaid hi _) (fun h R => ?_)
    refine x_run 1 (pc' := 54) (lv' := [(0, .ref (X.1 0)), (1, .ref (X.1 (100 + i))), (2, .long (c))]) (st' := [.ref (X.1 0)]) rfl ?_
    refine x_get (v := .ref (X.1 4)) rfl rfl R.c0 rfl ?_
    refine x_run 2 (pc' := 59) (lv' := [(0, .ref (X.1 0)), (1, .ref (X.1 (100 + i))), (2, .long (c))]) (st' := [.ref (X.1 (100 + i)), .int (4), .ref (X.1 4)]) rfl ?_
    refine x_get (v := .int (nI i)) rfl rfl (R.cC hi) rfl ?_
    refine x_run 1 (pc' := 63) (lv' := [(0, .ref (X.1 0)), (1, .ref (X.1 (100 + i))), (2, .long (c))]) (st' := [.long (c), .int (nI i), .int (4), .ref (X.1 4)]) rfl ?_
    refine x_wr0 (A := Rep u v X (p_note (sL (sL P 7 0 ((pL P 7 0) - c)) 3 i ((pL P 3 i) + c)) 4 (nI i) c) M z) (k' := 51) (as := [.ref (X.1 4), .int (4), .int (nI i), .long (c)]) (rest := []) (x_isV (np := 3) rfl rfl rfl R.c4 rfl) (c_note R _ _ _) (fun h R => ?_)
    refine x_ret (v := none) rfl rfl rfl ⟨?_, ?_⟩
    · rfl
    · have e : p_open P i = false := c1
      show Rep u v X (p_serve (p_open P i) P i c) M z h
      rw [e]
      exact R
  · replace c1 := bI_n0 c1
    refine x_run 2 (pc' := 19) (lv' := [(0, .ref (X.1 0)), (1, .ref (X.1 (100 + i))), (2, .long (c))]) (st' := [.ref (X.1 (100 + i)), .ref (X.1 (100 + i))]) rfl ?_
    refine x_get (v := .long (pL P 4 i)) rfl rfl (R.cC hi) rfl ?_
    refine x_run 2 (pc' := 24) (lv' := [(0, .ref (X.1 0)), (1, .ref (X.1 (100 + i))), (2, .long (c))]) (st' := [.long ((pL P 4 i) + c), .ref (X.1 (100 + i))]) rfl ?_
    refine x_put rfl rfl (R.cC hi) rfl ?_
    refine gen_h (A := Rep u (v + 1) X (sL (sL P 7 0 ((pL P 7 0) - c)) 4 i ((pL P 4 i) + c)) M z) (R.uRes hi _) (fun h R => ?_)
    refine x_run 1 (pc' := 28) (lv' := [(0, .ref (X.1 0)), (1, .ref (X.1 (100 + i))), (2, .long (c))]) (st' := [.ref (X.1 0)]) rfl ?_
    refine x_get (v := .ref (X.1 4)) rfl rfl R.c0 rfl ?_
    refine x_run 2 (pc' := 33) (lv' := [(0, .ref (X.1 0)), (1, .ref (X.1 (100 + i))), (2, .long (c))]) (st' := [.ref (X.1 (100 + i)), .int (5), .ref (X.1 4)]) rfl ?_
    refine x_get (v := .int (nI i)) rfl rfl (R.cC hi) rfl ?_
    refine x_run 1 (pc' := 37) (lv' := [(0, .ref (X.1 0)), (1, .ref (X.1 (100 + i))), (2, .long (c))]) (st' := [.long (c), .int (nI i), .int (5), .ref (X.1 4)]) rfl ?_
    refine x_wr0 (A := Rep u v X (p_note (sL (sL P 7 0 ((pL P 7 0) - c)) 4 i ((pL P 4 i) + c)) 5 (nI i) c) M z) (k' := 51) (as := [.ref (X.1 4), .int (5), .int (nI i), .long (c)]) (rest := []) (x_isV (np := 3) rfl rfl rfl R.c4 rfl) (c_note R _ _ _) (fun h R => ?_)
    refine x_run 1 (pc' := 66) (lv' := [(0, .ref (X.1 0)), (1, .ref (X.1 (100 + i))), (2, .long (c))]) (st' := []) rfl ?_
    refine x_ret (v := none) rfl rfl rfl ⟨?_, ?_⟩
    · rfl
    · have e : p_open P i = true := c1
      show Rep u v X (p_serve (p_open P i) P i c) M z h
      rw [e]
      exact R
theorem c_release (R : Rep u (v + 1) X P M z h) (hi : i < pn P) (c : Int64) : Wx (d + 1) 30 0 (lv_args 0 [.ref (X.1 0), .ref (X.1 (100 + i)), .long (c)]) [] h (fun r0 => r0.1 = .inl none ∧ Rep u v X (p_release P i c) M z r0.2) := by
  show Wx _ _ 0 [(0, .ref (X.1 0)), (1, .ref (X.1 (100 + i))), (2, .long (c))] [] h _
  refine x_run 2 (pc' := 2) (lv' := [(0, .ref (X.1 0)), (1, .ref (X.1 (100 + i))), (2, .long (c))]) (st' := [.ref (X.1 (100 + i)), .ref (X.1 (100 + i))]) rfl ?_
  refine x_get (v := .long (pL P 4 i)) rfl rfl (R.cC hi) rfl ?_
  refine x_run 2 (pc' := 7) (lv' := [(0, .ref (X.1 0)), (1, .ref (X.1 (100 + i))), (2, .long (c))]) (st' := [.long ((pL P 4 i) - c), .ref (X.1 (100 + i))]) rfl ?_
  refine x_put rfl rfl (R.cC hi) rfl ?_
  refine gen_h (A := Rep u (v + 1) X (sL P 4 i ((pL P 4 i) - c)) M z) (R.uRes hi _) (fun h R => ?_)
  refine x_run 2 (pc' := 12) (lv' := [(0, .ref (X.1 0)), (1, .ref (X.1 (100 + i))), (2, .long (c))]) (st' := [.ref (X.1 0), .ref (X.1 0)]) rfl ?_
  refine x_get (v := .long (pL P 7 0)) rfl rfl R.c0 rfl ?_
  refine x_run 2 (pc' := 17) (lv' := [(0, .ref (X.1 0)), (1, .ref (X.1 (100 + i))), (2, .long (c))]) (st' := [.long ((pL P 7 0) + c), .ref (X.1 0)]) rfl ?_
  refine x_put rfl rfl R.c0 rfl ?_
  refine gen_h (A := Rep u (v + 1) X (sL (sL P 4 i ((pL P 4 i) - c)) 7 0 ((pL P 7 0) + c)) M z) (R.uCash _) (fun h R => ?_)
  refine x_run 1 (pc' := 21) (lv' := [(0, .ref (X.1 0)), (1, .ref (X.1 (100 + i))), (2, .long (c))]) (st' := [.ref (X.1 0)]) rfl ?_
  refine x_get (v := .ref (X.1 4)) rfl rfl R.c0 rfl ?_
  refine x_run 2 (pc' := 27) (lv' := [(0, .ref (X.1 0)), (1, .ref (X.1 (100 + i))), (2, .long (c))]) (st' := [.ref (X.1 (100 + i)), .int (7), .ref (X.1 4)]) rfl ?_
  refine x_get (v := .int (nI i)) rfl rfl (R.cC hi) rfl ?_
  refine x_run 1 (pc' := 31) (lv' := [(0, .ref (X.1 0)), (1, .ref (X.1 (100 + i))), (2, .long (c))]) (st' := [.long (c), .int (nI i), .int (7), .ref (X.1 4)]) rfl ?_
  refine x_wr0 (A := Rep u v X (p_note (sL (sL P 4 i ((pL P 4 i) - c)) 7 0 ((pL P 7 0) + c)) 7 (nI i) c) M z) (k' := 51) (as := [.ref (X.1 4), .int (7), .int (nI i), .long (c)]) (rest := []) (x_isV (np := 3) rfl rfl rfl R.c4 rfl) (c_note R _ _ _) (fun h R => ?_)
  refine x_ret (v := none) rfl rfl rfl ⟨?_, ?_⟩
  · rfl
  · exact R
theorem c_pay (R : Rep u (v + 1) X P M z h) (hi : i < pn P) (c : Int64) : Wx (d + 1) 35 0 (lv_args 0 [.ref (X.1 0), .ref (X.1 (100 + i)), .long (c)]) [] h (fun r0 => r0.1 = .inl none ∧ Rep u v X (p_pay P i c) M z r0.2) := by
  show Wx _ _ 0 [(0, .ref (X.1 0)), (1, .ref (X.1 (100 + i))), (2, .long (c))] [] h _
  refine x_run 2 (pc' := 2) (lv' := [(0, .ref (X.1 0)), (1, .ref (X.1 (100 + i))), (2, .long (c))]) (st' := [.ref (X.1 0), .ref (X.1 0)]) rfl ?_
  refine x_get (v := .long (pL P 7 0)) rfl rfl R.c0 rfl ?_
  refine x_run 2 (pc' := 7) (lv' := [(0, .ref (X.1 0)), (1, .ref (X.1 (100 + i))), (2, .long (c))]) (st' := [.long ((pL P 7 0) - c), .ref (X.1 0)]) rfl ?_
  refine x_put rfl rfl R.c0 rfl ?_
  refine gen_h (A := Rep u (v + 1) X (sL P 7 0 ((pL P 7 0) - c)) M z) (R.uCash _) (fun h R => ?_)
  refine x_run 2 (pc' := 12) (lv' := [(0, .ref (X.1 0)), (1, .ref (X.1 (100 + i))), (2, .long (c))]) (st' := [.ref (X.1 (100 + i)), .ref (X.1 (100 + i))]) rfl ?_
  refine x_get (v := .long (pL P 3 i)) rfl rfl (R.cC hi) rfl ?_
  refine x_run 2 (pc' := 17) (lv' := [(0, .ref (X.1 0)), (1, .ref (X.1 (100 + i))), (2, .long (c))]) (st' := [.long ((pL P 3 i) + c), .ref (X.1 (100 + i))]) rfl ?_
  refine x_put rfl rfl (R.cC hi) rfl ?_
  refine gen_h (A := Rep u (v + 1) X (sL (sL P 7 0 ((pL P 7 0) - c)) 3 i ((pL P 3 i) + c)) M z) (R.uPaid hi _) (fun h R => ?_)
  refine x_run 1 (pc' := 21) (lv' := [(0, .ref (X.1 0)), (1, .ref (X.1 (100 + i))), (2, .long (c))]) (st' := [.ref (X.1 0)]) rfl ?_
  refine x_get (v := .ref (X.1 4)) rfl rfl R.c0 rfl ?_
  refine x_run 2 (pc' := 27) (lv' := [(0, .ref (X.1 0)), (1, .ref (X.1 (100 + i))), (2, .long (c))]) (st' := [.ref (X.1 (100 + i)), .int (8), .ref (X.1 4)]) rfl ?_
  refine x_get (v := .int (nI i)) rfl rfl (R.cC hi) rfl ?_
  refine x_run 1 (pc' := 31) (lv' := [(0, .ref (X.1 0)), (1, .ref (X.1 (100 + i))), (2, .long (c))]) (st' := [.long (c), .int (nI i), .int (8), .ref (X.1 4)]) rfl ?_
  refine x_wr0 (A := Rep u v X (p_note (sL (sL P 7 0 ((pL P 7 0) - c)) 3 i ((pL P 3 i) + c)) 8 (nI i) c) M z) (k' := 51) (as := [.ref (X.1 4), .int (8), .int (nI i), .long (c)]) (rest := []) (x_isV (np := 3) rfl rfl rfl R.c4 rfl) (c_note R _ _ _) (fun h R => ?_)
  refine x_ret (v := none) rfl rfl rfl ⟨?_, ?_⟩
  · rfl
  · exact R
theorem c_resolve (R : Rep u (v + 2) X P M z h) (hi : i < pn P) : Wx (d + 4) 29 0 (lv_args 0 [.ref (X.1 0), .ref (X.1 (100 + i))]) [] h (fun r0 => r0.1 = .inl (some (.long (p_resV (p_open P i) P i))) ∧ Rep u v X (p_resolve (p_open P i) P i) M z r0.2) := by
  show Wx _ _ 0 [(0, .ref (X.1 0)), (1, .ref (X.1 (100 + i)))] [] h _
  refine x_run 1 (pc' := 1) (lv' := [(0, .ref (X.1 0)), (1, .ref (X.1 (100 + i)))]) (st' := [.ref (X.1 (100 + i))]) rfl ?_
  refine x_rd (v := .int (bI (p_open P i))) (k' := 40) (as := [.ref (X.1 (100 + i))]) (rest := []) (x_isV (np := 0) rfl rfl rfl (R.cC hi) rfl) (c_open R hi) ?_
  refine x_if (c := ¬ bI (p_open P i) = 0) (t := 16) rfl rfl (fun c1 => ?_) (fun c1 => ?_)
  · replace c1 := bI_n0 c1
    refine x_run 1 (pc' := 17) (lv' := [(0, .ref (X.1 0)), (1, .ref (X.1 (100 + i)))]) (st' := [.long (0)]) rfl ?_
    refine x_ret (v := some (.long (0))) rfl rfl rfl ⟨?_, ?_⟩
    · rw [show p_resV (p_open P i) P i = 0 from if_pos (Or.inl c1)]
    · replace R := R.less (v' := v) (Nat.le_refl _) (by omega)
      show Rep u v X (p_resolve (p_open P i) P i) M z h
      rw [p_resolve, if_pos (Or.inl c1)]
      exact R
  · replace c1 := bI_0.mp (Classical.not_not.mp c1)
    refine x_run 1 (pc' := 8) (lv' := [(0, .ref (X.1 0)), (1, .ref (X.1 (100 + i)))]) (st' := [.ref (X.1 (100 + i))]) rfl ?_
    refine x_get (v := .long (pL P 4 i)) rfl rfl (R.cC hi) rfl ?_
    refine x_run 1 (pc' := 12) (lv' := [(0, .ref (X.1 0)), (1, .ref (X.1 (100 + i)))]) (st' := [.long (0), .long (pL P 4 i)]) rfl ?_
    refine x_lne (t := 18) rfl rfl rfl (fun c2 => ?_) (fun c2 => ?_)
    · refine x_run 3 (pc' := 21) (lv' := [(0, .ref (X.1 0)), (1, .ref (X.1 (100 + i)))]) (st' := [.ref (X.1 (100 + i)), .ref (X.1 0), .long (0)]) rfl ?_
      refine x_rd (v := .long (p_dueOf P i)) (k' := 23) (as := [.ref (X.1 0), .ref (X.1 (100 + i))]) (rest := [.long (0)]) (x_isV (np := 1) rfl rfl rfl R.c0 rfl) (c_dueOf R hi) ?_
      refine x_run 1 (pc' := 25) (lv' := [(0, .ref (X.1 0)), (1, .ref (X.1 (100 + i)))]) (st' := [.ref (X.1 (100 + i)), .long (p_dueOf P i), .long (0)]) rfl ?_
      refine x_get (v := .long (pL P 3 i)) rfl rfl (R.cC hi) rfl ?_
      refine x_run 1 (pc' := 29) (lv' := [(0, .ref (X.1 0)), (1, .ref (X.1 (100 + i)))]) (st' := [.long ((p_dueOf P i) - (pL P 3 i)), .long (0)]) rfl ?_
      refine x_max rfl rfl rfl ?_
      refine x_run 1 (pc' := 33) (lv' := [(0, .ref (X.1 0)), (1, .ref (X.1 (100 + i)))]) (st' := [.ref (X.1 (100 + i)), .long (if (p_dueOf P i) - (pL P 3 i) < 0 then 0 else (p_dueOf P i) - (pL P 3 i))]) rfl ?_
      refine x_get (v := .long (pL P 4 i)) rfl rfl (R.cC hi) rfl ?_
      refine x_min rfl rfl rfl ?_
      refine x_run 3 (pc' := 42) (lv' := [(2, .long (p_resC P i)), (0, .ref (X.1 0)), (1, .ref (X.1 (100 + i)))]) (st' := [.ref (X.1 (100 + i)), .ref (X.1 (100 + i))]) rfl ?_
      refine x_get (v := .long (pL P 4 i)) rfl rfl (R.cC hi) rfl ?_
      refine x_run 2 (pc' := 47) (lv' := [(2, .long (p_resC P i)), (0, .ref (X.1 0)), (1, .ref (X.1 (100 + i)))]) (st' := [.long ((pL P 4 i) - (p_resC P i)), .ref (X.1 (100 + i))]) rfl ?_
      refine x_put rfl rfl (R.cC hi) rfl ?_
      refine gen_h (A := Rep u (v + 1 + 1) X (sL P 4 i ((pL P 4 i) - (p_resC P i))) M z) (R.uRes hi _) (fun h R => ?_)
      refine x_run 2 (pc' := 52) (lv' := [(2, .long (p_resC P i)), (0, .ref (X.1 0)), (1, .ref (X.1 (100 + i)))]) (st' := [.ref (X.1 (100 + i)), .ref (X.1 (100 + i))]) rfl ?_
      refine x_get (v := .long (pL P 3 i)) rfl rfl (R.cC hi) rfl ?_
      refine x_run 2 (pc' := 57) (lv' := [(2, .long (p_resC P i)), (0, .ref (X.1 0)), (1, .ref (X.1 (100 + i)))]) (st' := [.long ((pL P 3 i) + (p_resC P i)), .ref (X.1 (100 + i))]) rfl ?_
      refine x_put rfl rfl (R.cC hi) rfl ?_
      refine gen_h (A := Rep u (v + 1 + 1) X (sL (sL P 4 i ((pL P 4 i) - (p_resC P i))) 3 i ((pL P 3 i) + (p_resC P i))) M z) (R.uPaid hi _) (fun h R => ?_)
      refine x_run 1 (pc' := 61) (lv' := [(2, .long (p_resC P i)), (0, .ref (X.1 0)), (1, .ref (X.1 (100 + i)))]) (st' := [.ref (X.1 0)]) rfl ?_
      refine x_get (v := .ref (X.1 4)) rfl rfl R.c0 rfl ?_
      refine x_run 2 (pc' := 67) (lv' := [(2, .long (p_resC P i)), (0, .ref (X.1 0)), (1, .ref (X.1 (100 + i)))]) (st' := [.ref (X.1 (100 + i)), .int (6), .ref (X.1 4)]) rfl ?_
      refine x_get (v := .int (nI i)) rfl rfl (R.cC hi) rfl ?_
      refine x_run 1 (pc' := 71) (lv' := [(2, .long (p_resC P i)), (0, .ref (X.1 0)), (1, .ref (X.1 (100 + i)))]) (st' := [.long (p_resC P i), .int (nI i), .int (6), .ref (X.1 4)]) rfl ?_
      refine x_wr0 (A := Rep u (v + 1) X (p_note (sL (sL P 4 i ((pL P 4 i) - (p_resC P i))) 3 i ((pL P 3 i) + (p_resC P i))) 6 (nI i) (p_resC P i)) M z) (k' := 51) (as := [.ref (X.1 4), .int (6), .int (nI i), .long (p_resC P i)]) (rest := []) (x_isV (np := 3) rfl rfl rfl R.c4 rfl) (c_note R _ _ _) (fun h R => ?_)
      refine x_run 3 (pc' := 77) (lv' := [(2, .long (p_resC P i)), (0, .ref (X.1 0)), (1, .ref (X.1 (100 + i)))]) (st' := [.ref (X.1 (100 + i)), .ref (X.1 (100 + i)), .ref (X.1 0)]) rfl ?_
      refine x_get (v := .long (pL (sL P 4 i ((pL P 4 i) - (p_resC P i))) 4 i)) rfl rfl (R.cC hi) rfl ?_
      refine x_wr0 (A := Rep u v X (p_release (p_note (sL (sL P 4 i ((pL P 4 i) - (p_resC P i))) 3 i ((pL P 3 i) + (p_resC P i))) 6 (nI i) (p_resC P i)) i (pL (sL P 4 i ((pL P 4 i) - (p_resC P i))) 4 i)) M z) (k' := 30) (as := [.ref (X.1 0), .ref (X.1 (100 + i)), .long (pL (sL P 4 i ((pL P 4 i) - (p_resC P i))) 4 i)]) (rest := []) (x_isV (np := 2) rfl rfl rfl R.c0 rfl) (c_release R hi _) (fun h R => ?_)
      refine x_run 1 (pc' := 84) (lv' := [(2, .long (p_resC P i)), (0, .ref (X.1 0)), (1, .ref (X.1 (100 + i)))]) (st' := [.long (p_resC P i)]) rfl ?_
      refine x_ret (v := some (.long (p_resC P i))) rfl rfl rfl ⟨?_, ?_⟩
      · rw [show p_resV (p_open P i) P i = p_resC P i from if_neg (fun e => by rcases e with e | e; exact absurd (c1.symm.trans e) (by decide); exact c2 e)]
      · show Rep u v X (p_resolve (p_open P i) P i) M z h
        rw [p_resolve, if_neg (fun e => by rcases e with e | e; exact absurd (c1.symm.trans e) (by decide); exact c2 e)]
        exact R
    · refine x_run 1 (pc' := 17) (lv' := [(0, .ref (X.1 0)), (1, .ref (X.1 (100 + i)))]) (st' := [.long (0)]) rfl ?_
      refine x_ret (v := some (.long (0))) rfl rfl rfl ⟨?_, ?_⟩
      · rw [show p_resV (p_open P i) P i = 0 from if_pos (Or.inr c2)]
      · replace R := R.less (v' := v) (Nat.le_refl _) (by omega)
        show Rep u v X (p_resolve (p_open P i) P i) M z h
        rw [p_resolve, if_pos (Or.inr c2)]
        exact R
theorem l_serveI {r l : Nat} (hr : r < 8) (hl : l < 8) {Q : mm_O × mm_H → Prop} : ∀ (m : Nat) (i : Nat) (acc : Int64) (P : pP) (h : mm_H), Rep u (v + m) X P M z h → i + m = pn P → (∀ h, Rep u v X ((p_serveI p_open r m i P acc).1) M z h → Wx (d + 4) 26 82 [(5, .int (nI (i + m))), (4, .int (nI r)), (2, .long (p_serveI p_open r m i P acc).2), (0, .ref (X.1 0)), (1, .int (nI l))] [] h Q) → Wx (d + 4) 26 14 [(5, .int (nI i)), (4, .int (nI r)), (2, .long (acc)), (0, .ref (X.1 0)), (1, .int (nI l))] [] h Q := by
  intro m
  induction m with
  | zero =>
    intro i acc P h R hm kk
    have n60 := R.n60
    refine x_run 2 (pc' := 17) (lv' := [(5, .int (nI i)), (4, .int (nI r)), (2, .long (acc)), (0, .ref (X.1 0)), (1, .int (nI l))]) (st' := [.ref (X.1 0), .int (nI i)]) rfl ?_
    refine x_get (v := .int (nI (pn P))) rfl rfl R.c0 rfl ?_
    refine x_if (c := nI (pn P) ≤ nI i) (t := 82) rfl rfl (fun c1 => ?_) (fun c1 => ?_)
    · replace c1 := (nI_leI (by omega) (by omega)).mp c1
      refine x_lv (a := [(5, .int (nI i)), (4, .int (nI r)), (2, .long (acc)), (0, .ref (X.1 0)), (1, .int (nI l))]) rfl rfl ⟨rfl, rfl, rfl, rfl, rfl, trivial⟩ ?_
      exact kk h R
    · replace c1 := mt (nI_leI (by omega) (by omega)).mpr c1
      omega
  | succ m ih =>
    intro i acc P h R hm kk
    have R : Rep u (v + m + 1) X P M z h := R
    have n60 := R.n60
    have hi : i < pn P := by omega
    have r8 := R.wP.rk hi
    rw [show i + (m + 1) = i + 1 + m by omega] at kk
    refine x_run 2 (pc' := 17) (lv' := [(5, .int (nI i)), (4, .int (nI r)), (2, .long (acc)), (0, .ref (X.1 0)), (1, .int (nI l))]) (st' := [.ref (X.1 0), .int (nI i)]) rfl ?_
    refine x_get (v := .int (nI (pn P))) rfl rfl R.c0 rfl ?_
    refine x_if (c := nI (pn P) ≤ nI i) (t := 82) rfl rfl (fun c1 => ?_) (fun c1 => ?_)
    · replace c1 := (nI_leI (by omega) (by omega)).mp c1
      omega
    · replace c1 := mt (nI_leI (by omega) (by omega)).mpr c1
      refine x_run 1 (pc' := 24) (lv' := [(5, .int (nI i)), (4, .int (nI r)), (2, .long (acc)), (0, .ref (X.1 0)), (1, .int (nI l))]) (st' := [.ref (X.1 0)]) rfl ?_
      refine x_get (v := .ref (X.1 1)) rfl rfl R.c0 rfl ?_
      refine x_run 1 (pc' := 29) (lv' := [(5, .int (nI i)), (4, .int (nI r)), (2, .long (acc)), (0, .ref (X.1 0)), (1, .int (nI l))]) (st' := [.int (nI i), .ref (X.1 1)]) rfl ?_
      refine x_aald3 (j := i) rfl R.c1 (mm_idx_nI (by omega) (by omega)) ?_
      rw [if_pos hi]
      refine x_run 2 (pc' := 34) (lv' := [(6, .ref (X.1 (100 + i))), (5, .int (nI i)), (4, .int (nI r)), (2, .long (acc)), (0, .ref (X.1 0)), (1, .int (nI l))]) (st' := [.ref (X.1 (100 + i))]) rfl ?_
      refine x_get (v := .int (nI (pN P 0 i))) rfl rfl (R.cC hi) rfl ?_
      refine x_run 1 (pc' := 39) (lv' := [(6, .ref (X.1 (100 + i))), (5, .int (nI i)), (4, .int (nI r)), (2, .long (acc)), (0, .ref (X.1 0)), (1, .int (nI l))]) (st' := [.int (nI r), .int (nI (pN P 0 i))]) rfl ?_
      refine x_if (c := ¬ nI (pN P 0 i) = nI r) (t := 76) rfl rfl (fun c2 => ?_) (fun c2 => ?_)
      · replace c2 := mt (nI_eq (by omega) (by omega)).mpr c2
        refine x_run 1 (pc' := 79) (lv' := [(5, .int (nI i + 1)), (6, .ref (X.1 (100 + i))), (4, .int (nI r)), (2, .long (acc)), (0, .ref (X.1 0)), (1, .int (nI l))]) (st' := []) rfl ?_
        rw [nI_1]
        refine x_run 1 (pc' := 14) (lv' := [(5, .int (nI (i + 1))), (6, .ref (X.1 (100 + i))), (4, .int (nI r)), (2, .long (acc)), (0, .ref (X.1 0)), (1, .int (nI l))]) (st' := []) rfl ?_
        refine x_lv (a := [(5, .int (nI (i + 1))), (4, .int (nI r)), (2, .long (acc)), (0, .ref (X.1 0)), (1, .int (nI l))]) rfl rfl ⟨rfl, rfl, rfl, rfl, rfl, trivial⟩ ?_
        rw [show p_serveI p_open r (m + 1) i P acc = p_serveI p_open r m (i + 1) P acc from by rw [p_serveI]; (rw [if_neg (by omega)]) <;> rfl] at kk
        exact ih (i + 1) _ _ _ (R.less (Nat.le_refl _) (Nat.le_succ _)) (by show _ = pn P; omega) kk
      · replace c2 := (nI_eq (by omega) (by omega)).mp (Classical.not_not.mp c2)
        refine x_run 2 (pc' := 45) (lv' := [(6, .ref (X.1 (100 + i))), (5, .int (nI i)), (4, .int (nI r)), (2, .long (acc)), (0, .ref (X.1 0)), (1, .int (nI l))]) (st' := [.ref (X.1 0), .ref (X.1 (100 + i))]) rfl ?_
        refine x_get (v := .ref (X.1 3)) rfl rfl R.c0 rfl ?_
        refine x_run 1 (pc' := 50) (lv' := [(6, .ref (X.1 (100 + i))), (5, .int (nI i)), (4, .int (nI r)), (2, .long (acc)), (0, .ref (X.1 0)), (1, .int (nI l))]) (st' := [.int (nI r), .ref (X.1 3), .ref (X.1 (100 + i))]) rfl ?_
        refine x_iald (j := r) rfl R.c3 (mm_idx_nI (by omega) (by omega)) ?_
        refine x_rd (v := .long (p_lack P i (nI (pN P 3 r)))) (k' := 44) (as := [.ref (X.1 (100 + i)), .int (nI (pN P 3 r))]) (rest := []) (x_isV (np := 1) rfl rfl rfl (R.cC hi) rfl) (c_lack R hi (nI (pN P 3 r))) ?_
        refine x_run 1 (pc' := 55) (lv' := [(6, .ref (X.1 (100 + i))), (5, .int (nI i)), (4, .int (nI r)), (2, .long (acc)), (0, .ref (X.1 0)), (1, .int (nI l))]) (st' := [.ref (X.1 0), .long (p_lack P i (nI (pN P 3 r)))]) rfl ?_
        refine x_get (v := .long (pL P 7 0)) rfl rfl R.c0 rfl ?_
        refine x_min rfl rfl rfl ?_
        refine x_run 4 (pc' := 68) (lv' := [(7, .long (p_cents P i (nI (pN P 3 r)))), (6, .ref (X.1 (100 + i))), (5, .int (nI i)), (4, .int (nI r)), (2, .long (acc)), (0, .ref (X.1 0)), (1, .int (nI l))]) (st' := [.long (p_cents P i (nI (pN P 3 r))), .ref (X.1 (100 + i)), .ref (X.1 0)]) rfl ?_
        refine x_wr0 (A := Rep u (v + m) X (p_serve (p_open P i) P i (p_cents P i (nI (pN P 3 r)))) M z) (k' := 27) (as := [.ref (X.1 0), .ref (X.1 (100 + i)), .long (p_cents P i (nI (pN P 3 r)))]) (rest := []) (x_isV (np := 2) rfl rfl rfl R.c0 rfl) (c_serve R hi _) (fun h R => ?_)
        refine x_run 5 (pc' := 79) (lv' := [(5, .int (nI i + 1)), (2, .long (acc + (p_cents P i (nI (pN P 3 r))))), (7, .long (p_cents P i (nI (pN P 3 r)))), (6, .ref (X.1 (100 + i))), (4, .int (nI r)), (0, .ref (X.1 0)), (1, .int (nI l))]) (st' := []) rfl ?_
        rw [nI_1]
        refine x_run 1 (pc' := 14) (lv' := [(5, .int (nI (i + 1))), (2, .long (acc + (p_cents P i (nI (pN P 3 r))))), (7, .long (p_cents P i (nI (pN P 3 r)))), (6, .ref (X.1 (100 + i))), (4, .int (nI r)), (0, .ref (X.1 0)), (1, .int (nI l))]) (st' := []) rfl ?_
        refine x_lv (a := [(5, .int (nI (i + 1))), (4, .int (nI r)), (2, .long (acc + (p_cents P i (nI (pN P 3 r))))), (0, .ref (X.1 0)), (1, .int (nI l))]) rfl rfl ⟨rfl, rfl, rfl, rfl, rfl, trivial⟩ ?_
        rw [show p_serveI p_open r (m + 1) i P acc = p_serveI p_open r m (i + 1) (p_serve (p_open P i) P i (p_cents P i (nI (pN P 3 r)))) (acc + (p_cents P i (nI (pN P 3 r)))) from by rw [p_serveI]; (rw [if_pos (by omega)]) <;> rfl] at kk
        exact ih (i + 1) _ _ _ R (by show _ = pn P; omega) kk
theorem l_serveR {l : Nat} (hl : l < 8) {Q : mm_O × mm_H → Prop} : ∀ (m : Nat) (r : Nat) (acc : Int64) (P : pP) (h : mm_H), Rep u (v + 60 * m) X P M z h → r + m = l + 1 → (∀ h, Rep u v X ((p_serveR p_open m r P acc).1) M z h → Wx (d + 4) 26 88 [(4, .int (nI (r + m))), (2, .long (p_serveR p_open m r P acc).2), (0, .ref (X.1 0)), (1, .int (nI l))] [] h Q) → Wx (d + 4) 26 5 [(4, .int (nI r)), (2, .long (acc)), (0, .ref (X.1 0)), (1, .int (nI l))] [] h Q := by
  intro m
  induction m with
  | zero =>
    intro r acc P h R hm kk
    refine x_run 2 (pc' := 8) (lv' := [(4, .int (nI r)), (2, .long (acc)), (0, .ref (X.1 0)), (1, .int (nI l))]) (st' := [.int (nI l), .int (nI r)]) rfl ?_
    refine x_if (c := nI l < nI r) (t := 88) rfl rfl (fun c1 => ?_) (fun c1 => ?_)
    · replace c1 := (nI_ltI (by omega) (by omega)).mp c1
      refine x_lv (a := [(4, .int (nI r)), (2, .long (acc)), (0, .ref (X.1 0)), (1, .int (nI l))]) rfl rfl ⟨rfl, rfl, rfl, rfl, trivial⟩ ?_
      exact kk h R
    · replace c1 := mt (nI_ltI (by omega) (by omega)).mpr c1
      omega
  | succ m ih =>
    intro r acc P h R hm kk
    have n60 := R.n60
    rw [show r + (m + 1) = r + 1 + m by omega] at kk
    refine x_run 2 (pc' := 8) (lv' := [(4, .int (nI r)), (2, .long (acc)), (0, .ref (X.1 0)), (1, .int (nI l))]) (st' := [.int (nI l), .int (nI r)]) rfl ?_
    refine x_if (c := nI l < nI r) (t := 88) rfl rfl (fun c1 => ?_) (fun c1 => ?_)
    · replace c1 := (nI_ltI (by omega) (by omega)).mp c1
      omega
    · replace c1 := mt (nI_ltI (by omega) (by omega)).mpr c1
      refine x_run 2 (pc' := 14) (lv' := [(5, .int (0)), (4, .int (nI r)), (2, .long (acc)), (0, .ref (X.1 0)), (1, .int (nI l))]) (st' := []) rfl ?_
      refine x_lv (a := [(5, .int (0)), (4, .int (nI r)), (2, .long (acc)), (0, .ref (X.1 0)), (1, .int (nI l))]) rfl rfl ⟨rfl, rfl, rfl, rfl, rfl, trivial⟩ ?_
      refine l_serveI (v := v + 60 * m) (by omega) hl (pn P) 0 acc P h (R.less (Nat.le_refl _) (by omega)) (by omega) (fun h R => ?_)
      refine x_run 1 (pc' := 85) (lv' := [(4, .int (nI r + 1)), (5, .int (nI (0 + pn P))), (2, .long ((p_serveI p_open r (pn P) 0 P acc).2)), (0, .ref (X.1 0)), (1, .int (nI l))]) (st' := []) rfl ?_
      rw [nI_1]
      refine x_run 1 (pc' := 5) (lv' := [(4, .int (nI (r + 1))), (5, .int (nI (0 + pn P))), (2, .long ((p_serveI p_open r (pn P) 0 P acc).2)), (0, .ref (X.1 0)), (1, .int (nI l))]) (st' := []) rfl ?_
      refine x_lv (a := [(4, .int (nI (r + 1))), (2, .long ((p_serveI p_open r (pn P) 0 P acc).2)), (0, .ref (X.1 0)), (1, .int (nI l))]) rfl rfl ⟨rfl, rfl, rfl, rfl, trivial⟩ ?_
      rw [show p_serveR p_open (m + 1) r P acc = p_serveR p_open m (r + 1) (p_serveI p_open r (pn P) 0 P acc).1 (p_serveI p_open r (pn P) 0 P acc).2 from by rw [p_serveR]] at kk
      exact ih (r + 1) _ _ _ R (by omega) kk
theorem c_through {l : Nat} (R : Rep u (v + 60 * (l + 1)) X P M z h) (hl : l < 8) : Wx (d + 4) 26 0 (lv_args 0 [.ref (X.1 0), .int (nI l)]) [] h (fun r0 => r0.1 = .inl (some (.long ((p_serveR p_open (l + 1) 0 P 0).2))) ∧ Rep u v X ((p_serveR p_open (l + 1) 0 P 0).1) M z r0.2) := by
  show Wx _ _ 0 [(0, .ref (X.1 0)), (1, .int (nI l))] [] h _
  refine x_run 4 (pc' := 5) (lv' := [(4, .int (0)), (2, .long (0)), (0, .ref (X.1 0)), (1, .int (nI l))]) (st' := []) rfl ?_
  refine x_lv (a := [(4, .int (0)), (2, .long (0)), (0, .ref (X.1 0)), (1, .int (nI l))]) rfl rfl ⟨rfl, rfl, rfl, rfl, trivial⟩ ?_
  refine l_serveR hl (l + 1) 0 0 P h R (by omega) (fun h R => ?_)
  refine x_run 1 (pc' := 89) (lv' := [(4, .int (nI (0 + (l + 1)))), (2, .long ((p_serveR p_open (l + 1) 0 P 0).2)), (0, .ref (X.1 0)), (1, .int (nI l))]) (st' := [.long ((p_serveR p_open (l + 1) 0 P 0).2)]) rfl ?_
  refine x_ret (v := some (.long ((p_serveR p_open (l + 1) 0 P 0).2))) rfl rfl rfl ⟨?_, ?_⟩
  · rfl
  · exact R
end CLS2
end
section
section CLS3
variable {u v d : Nat} {X : xX} {P M : pP} {z : zZ} {h : mm_H} {i j : Nat}
theorem l_give {c : Int64} {Q : mm_O × mm_H → Prop} : ∀ (m : Nat) (k : Nat) (acc : Int64) (P : pP) (h : mm_H), Rep u (v + m) X P M z h → k + m = pN P 1 j ∧ j < pa P → (∀ h, Rep u v X ((p_give j c m k P acc).1) M z h → Wx (d + 2) 28 99 [(6, .int (nI (k + m))), (4, .long (p_give j c m k P acc).2), (0, .ref (X.1 0)), (1, .ref (X.1 (200 + j))), (2, .long c)] [] h Q) → Wx (d + 2) 28 6 [(6, .int (nI k)), (4, .long (acc)), (0, .ref (X.1 0)), (1, .ref (X.1 (200 + j))), (2, .long (c))] [] h Q := by
  intro m
  induction m with
  | zero =>
    intro k acc P h R hm kk
    obtain ⟨hm, hj⟩ := hm
    have mn := R.wP.mn hj
    refine x_run 2 (pc' := 9) (lv' := [(6, .int (nI k)), (4, .long (acc)), (0, .ref (X.1 0)), (1, .ref (X.1 (200 + j))), (2, .long (c))]) (st' := [.ref (X.1 (200 + j)), .int (nI k)]) rfl ?_
    refine x_get (v := .int (nI (pN P 1 j))) rfl rfl (R.cA hj) rfl ?_
    refine x_if (c := nI (pN P 1 j) ≤ nI k) (t := 99) rfl rfl (fun c1 => ?_) (fun c1 => ?_)
    · replace c1 := (nI_leI (by omega) (by omega)).mp c1
      refine x_lv (a := [(6, .int (nI k)), (4, .long (acc)), (0, .ref (X.1 0)), (1, .ref (X.1 (200 + j))), (2, .long (c))]) rfl rfl ⟨rfl, rfl, rfl, rfl, rfl, trivial⟩ ?_
      exact kk h R
    · replace c1 := mt (nI_leI (by omega) (by omega)).mpr c1
      omega
  | succ m ih =>
    intro k acc P h R hm kk
    have R : Rep u (v + m + 1) X P M z h := R
    obtain ⟨hm, hj⟩ := hm
    have mn := R.wP.mn hj
    have hk : k < pN P 1 j := by omega
    have hd := R.wP.hd hj hk
    rw [show k + (m + 1) = k + 1 + m by omega] at kk
    refine x_run 2 (pc' := 9) (lv' := [(6, .int (nI k)), (4, .long (acc)), (0, .ref (X.1 0)), (1, .ref (X.1 (200 + j))), (2, .long (c))]) (st' := [.ref (X.1 (200 + j)), .int (nI k)]) rfl ?_
    refine x_get (v := .int (nI (pN P 1 j))) rfl rfl (R.cA hj) rfl ?_
    refine x_if (c := nI (pN P 1 j) ≤ nI k) (t := 99) rfl rfl (fun c1 => ?_) (fun c1 => ?_)
    · replace c1 := (nI_leI (by omega) (by omega)).mp c1
      omega
    · replace c1 := mt (nI_leI (by omega) (by omega)).mpr c1
      refine x_run 1 (pc' := 16) (lv' := [(6, .int (nI k)), (4, .long (acc)), (0, .ref (X.1 0)), (1, .ref (X.1 (200 + j))), (2, .long (c))]) (st' := [.ref (X.1 (200 + j))]) rfl ?_
      refine x_get (v := .ref (X.1 (300 + j))) rfl rfl (R.cA hj) rfl ?_
      refine x_run 1 (pc' := 21) (lv' := [(6, .int (nI k)), (4, .long (acc)), (0, .ref (X.1 0)), (1, .ref (X.1 (200 + j))), (2, .long (c))]) (st' := [.int (nI k), .ref (X.1 (300 + j))]) rfl ?_
      refine x_aald3 (j := k) rfl (R.cH hj) (mm_idx_nI (by omega) (by omega)) ?_
      rw [if_pos hk]
      refine x_run 2 (pc' := 25) (lv' := [(7, .ref (X.1 (100 + pN P 2 (4 * j + k)))), (6, .int (nI k)), (4, .long (acc)), (0, .ref (X.1 0)), (1, .ref (X.1 (200 + j))), (2, .long (c))]) (st' := [.ref (X.1 (200 + j))]) rfl ?_
      refine x_get (v := .ref (X.1 (400 + j))) rfl rfl (R.cA hj) rfl ?_
      refine x_run 1 (pc' := 30) (lv' := [(7, .ref (X.1 (100 + pN P 2 (4 * j + k)))), (6, .int (nI k)), (4, .long (acc)), (0, .ref (X.1 0)), (1, .ref (X.1 (200 + j))), (2, .long (c))]) (st' := [.int (nI k), .ref (X.1 (400 + j))]) rfl ?_
      refine x_lald (j := k) rfl (R.cL hj) (mm_idx_nI (by omega) (by omega)) ?_
      rw [if_pos (show k < 4 by omega)]
      refine x_run 1 (pc' := 33) (lv' := [(7, .ref (X.1 (100 + pN P 2 (4 * j + k)))), (6, .int (nI k)), (4, .long (acc)), (0, .ref (X.1 0)), (1, .ref (X.1 (200 + j))), (2, .long (c))]) (st' := [.ref (X.1 (100 + pN P 2 (4 * j + k))), .long (pL P 5 (4 * j + k))]) rfl ?_
      refine x_rd (v := .long (p_net P (pN P 2 (4 * j + k)))) (k' := 42) (as := [.ref (X.1 (100 + pN P 2 (4 * j + k)))]) (rest := [.long (pL P 5 (4 * j + k))]) (x_isV (np := 0) rfl rfl rfl (R.cC hd) rfl) (c_net R hd) ?_
      refine x_min rfl rfl rfl ?_
      refine x_run 3 (pc' := 43) (lv' := [(7, .ref (X.1 (100 + pN P 2 (4 * j + k)))), (6, .int (nI k)), (4, .long (acc)), (0, .ref (X.1 0)), (1, .ref (X.1 (200 + j))), (2, .long (c))]) (st' := [.long (c - acc), .long (if p_net P (pN P 2 (4 * j + k)) < pL P 5 (4 * j + k) then p_net P (pN P 2 (4 * j + k)) else pL P 5 (4 * j + k))]) rfl ?_
      refine x_min rfl rfl rfl ?_
      refine x_run 3 (pc' := 51) (lv' := [(8, .long (p_part P (4 * j + k) (c - acc))), (7, .ref (X.1 (100 + pN P 2 (4 * j + k)))), (6, .int (nI k)), (4, .long (acc)), (0, .ref (X.1 0)), (1, .ref (X.1 (200 + j))), (2, .long (c))]) (st' := [.ref (X.1 (100 + pN P 2 (4 * j + k))), .ref (X.1 (100 + pN P 2 (4 * j + k)))]) rfl ?_
      refine x_get (v := .long (pL P 2 (pN P 2 (4 * j + k)))) rfl rfl (R.cC hd) rfl ?_
      refine x_run 2 (pc' := 57) (lv' := [(8, .long (p_part P (4 * j + k) (c - acc))), (7, .ref (X.1 (100 + pN P 2 (4 * j + k)))), (6, .int (nI k)), (4, .long (acc)), (0, .ref (X.1 0)), (1, .ref (X.1 (200 + j))), (2, .long (c))]) (st' := [.long ((pL P 2 (pN P 2 (4 * j + k))) + (p_part P (4 * j + k) (c - acc))), .ref (X.1 (100 + pN P 2 (4 * j + k)))]) rfl ?_
      refine x_put rfl rfl (R.cC hd) rfl ?_
      refine gen_h (A := Rep u (v + m + 1) X (sL P 2 (pN P 2 (4 * j + k)) ((pL P 2 (pN P 2 (4 * j + k))) + (p_part P (4 * j + k) (c - acc)))) M z) (R.uGot hd _) (fun h R => ?_)
      refine x_run 2 (pc' := 63) (lv' := [(8, .long (p_part P (4 * j + k) (c - acc))), (7, .ref (X.1 (100 + pN P 2 (4 * j + k)))), (6, .int (nI k)), (4, .long (acc)), (0, .ref (X.1 0)), (1, .ref (X.1 (200 + j))), (2, .long (c))]) (st' := [.ref (X.1 (100 + pN P 2 (4 * j + k))), .ref (X.1 (100 + pN P 2 (4 * j + k)))]) rfl ?_
      refine x_get (v := .int (pI P 5 (pN P 2 (4 * j + k)))) rfl rfl (R.cC hd) rfl ?_
      refine x_run 2 (pc' := 68) (lv' := [(8, .long (p_part P (4 * j + k) (c - acc))), (7, .ref (X.1 (100 + pN P 2 (4 * j + k)))), (6, .int (nI k)), (4, .long (acc)), (0, .ref (X.1 0)), (1, .ref (X.1 (200 + j))), (2, .long (c))]) (st' := [.int ((pI P 5 (pN P 2 (4 * j + k))) - 1), .ref (X.1 (100 + pN P 2 (4 * j + k)))]) rfl ?_
      refine x_put rfl rfl (R.cC hd) rfl ?_
      refine gen_h (A := Rep u (v + m + 1) X (sI (sL P 2 (pN P 2 (4 * j + k)) ((pL P 2 (pN P 2 (4 * j + k))) + (p_part P (4 * j + k) (c - acc)))) 5 (pN P 2 (4 * j + k)) ((pI P 5 (pN P 2 (4 * j + k))) - 1)) M z) (R.uUnre hd _) (fun h R => ?_)
      refine x_run 5 (pc' := 79) (lv' := [(4, .long (acc + (p_part P (4 * j + k) (c - acc)))), (8, .long (p_part P (4 * j + k) (c - acc))), (7, .ref (X.1 (100 + pN P 2 (4 * j + k)))), (6, .int (nI k)), (0, .ref (X.1 0)), (1, .ref (X.1 (200 + j))), (2, .long (c))]) (st' := [.ref (X.1 0)]) rfl ?_
      refine x_get (v := .ref (X.1 4)) rfl rfl R.c0 rfl ?_
      refine x_run 2 (pc' := 85) (lv' := [(4, .long (acc + (p_part P (4 * j + k) (c - acc)))), (8, .long (p_part P (4 * j + k) (c - acc))), (7, .ref (X.1 (100 + pN P 2 (4 * j + k)))), (6, .int (nI k)), (0, .ref (X.1 0)), (1, .ref (X.1 (200 + j))), (2, .long (c))]) (st' := [.ref (X.1 (100 + pN P 2 (4 * j + k))), .int (2), .ref (X.1 4)]) rfl ?_
      refine x_get (v := .int (nI (pN P 2 (4 * j + k)))) rfl rfl (R.cC hd) rfl ?_
      refine x_run 1 (pc' := 90) (lv' := [(4, .long (acc + (p_part P (4 * j + k) (c - acc)))), (8, .long (p_part P (4 * j + k) (c - acc))), (7, .ref (X.1 (100 + pN P 2 (4 * j + k)))), (6, .int (nI k)), (0, .ref (X.1 0)), (1, .ref (X.1 (200 + j))), (2, .long (c))]) (st' := [.long (p_part P (4 * j + k) (c - acc)), .int (nI (pN P 2 (4 * j + k))), .int (2), .ref (X.1 4)]) rfl ?_
      refine x_wr0 (A := Rep u (v + m) X (p_note (sI (sL P 2 (pN P 2 (4 * j + k)) ((pL P 2 (pN P 2 (4 * j + k))) + (p_part P (4 * j + k) (c - acc)))) 5 (pN P 2 (4 * j + k)) ((pI P 5 (pN P 2 (4 * j + k))) - 1)) 2 (nI (pN P 2 (4 * j + k))) (p_part P (4 * j + k) (c - acc))) M z) (k' := 51) (as := [.ref (X.1 4), .int (2), .int (nI (pN P 2 (4 * j + k))), .long (p_part P (4 * j + k) (c - acc))]) (rest := []) (x_isV (np := 3) rfl rfl rfl R.c4 rfl) (c_note R _ _ _) (fun h R => ?_)
      refine x_run 1 (pc' := 96) (lv' := [(6, .int (nI k + 1)), (4, .long (acc + (p_part P (4 * j + k) (c - acc)))), (8, .long (p_part P (4 * j + k) (c - acc))), (7, .ref (X.1 (100 + pN P 2 (4 * j + k)))), (0, .ref (X.1 0)), (1, .ref (X.1 (200 + j))), (2, .long (c))]) (st' := []) rfl ?_
      rw [nI_1]
      refine x_run 1 (pc' := 6) (lv' := [(6, .int (nI (k + 1))), (4, .long (acc + (p_part P (4 * j + k) (c - acc)))), (8, .long (p_part P (4 * j + k) (c - acc))), (7, .ref (X.1 (100 + pN P 2 (4 * j + k)))), (0, .ref (X.1 0)), (1, .ref (X.1 (200 + j))), (2, .long (c))]) (st' := []) rfl ?_
      refine x_lv (a := [(6, .int (nI (k + 1))), (4, .long (acc + (p_part P (4 * j + k) (c - acc)))), (0, .ref (X.1 0)), (1, .ref (X.1 (200 + j))), (2, .long (c))]) rfl rfl ⟨rfl, rfl, rfl, rfl, rfl, trivial⟩ ?_
      rw [show p_give j c (m + 1) k P acc = p_give j c m (k + 1) (p_note (sI (sL P 2 (pN P 2 (4 * j + k)) ((pL P 2 (pN P 2 (4 * j + k))) + (p_part P (4 * j + k) (c - acc)))) 5 (pN P 2 (4 * j + k)) ((pI P 5 (pN P 2 (4 * j + k))) - 1)) 2 (nI (pN P 2 (4 * j + k))) (p_part P (4 * j + k) (c - acc))) (acc + (p_part P (4 * j + k) (c - acc))) from rfl] at kk
      exact ih (k + 1) _ _ _ R ⟨(by show _ = pN P 1 j; omega), hj⟩ kk
theorem c_give (R : Rep u (v + 4) X P M z h) (hj : j < pa P) (c : Int64) : Wx (d + 2) 28 0 (lv_args 0 [.ref (X.1 0), .ref (X.1 (200 + j)), .long (c)]) [] h (fun r0 => r0.1 = .inl (some (.long ((p_give j c (pN P 1 j) 0 P 0).2))) ∧ Rep u v X ((p_give j c (pN P 1 j) 0 P 0).1) M z r0.2) := by
  have mn := R.wP.mn hj
  show Wx _ _ 0 [(0, .ref (X.1 0)), (1, .ref (X.1 (200 + j))), (2, .long (c))] [] h _
  refine x_run 4 (pc' := 6) (lv' := [(6, .int (0)), (4, .long (0)), (0, .ref (X.1 0)), (1, .ref (X.1 (200 + j))), (2, .long (c))]) (st' := []) rfl ?_
  refine x_lv (a := [(6, .int (0)), (4, .long (0)), (0, .ref (X.1 0)), (1, .ref (X.1 (200 + j))), (2, .long (c))]) rfl rfl ⟨rfl, rfl, rfl, rfl, rfl, trivial⟩ ?_
  refine l_give (v := v) (pN P 1 j) 0 0 P h (R.less (Nat.le_refl _) (by omega)) ⟨by omega, hj⟩ (fun h R => ?_)
  refine x_run 1 (pc' := 101) (lv' := [(6, .int (nI (0 + pN P 1 j))), (4, .long ((p_give j c (pN P 1 j) 0 P 0).2)), (0, .ref (X.1 0)), (1, .ref (X.1 (200 + j))), (2, .long (c))]) (st' := [.long ((p_give j c (pN P 1 j) 0 P 0).2)]) rfl ?_
  refine x_ret (v := some (.long ((p_give j c (pN P 1 j) 0 P 0).2))) rfl rfl rfl ⟨?_, ?_⟩
  · rfl
  · exact R
theorem l_drop  {Q : mm_O × mm_H → Prop} : ∀ (m : Nat) (i : Nat) (P : pP) (h : mm_H), Rep u (v + m) X P M z h → i + m = pn P → (∀ h, Rep u v X (p_drop m i P) M z h → Wx (d + 2) 31 45 [(1, .int (nI (i + m))), (0, .ref (X.1 0))] [] h Q) → Wx (d + 2) 31 2 [(1, .int (nI i)), (0, .ref (X.1 0))] [] h Q := by
  intro m
  induction m with
  | zero =>
    intro i P h R hm kk
    have n60 := R.n60
    refine x_run 2 (pc' := 4) (lv' := [(1, .int (nI i)), (0, .ref (X.1 0))]) (st' := [.ref (X.1 0), .int (nI i)]) rfl ?_
    refine x_get (v := .int (nI (pn P))) rfl rfl R.c0 rfl ?_
    refine x_if (c := nI (pn P) ≤ nI i) (t := 45) rfl rfl (fun c1 => ?_) (fun c1 => ?_)
    · replace c1 := (nI_leI (by omega) (by omega)).mp c1
      refine x_lv (a := [(1, .int (nI i)), (0, .ref (X.1 0))]) rfl rfl ⟨rfl, rfl, trivial⟩ ?_
      exact kk h R
    · replace c1 := mt (nI_leI (by omega) (by omega)).mpr c1
      omega
  | succ m ih =>
    intro i P h R hm kk
    have R : Rep u (v + m + 1) X P M z h := R
    have n60 := R.n60
    have hi : i < pn P := by omega
    rw [show i + (m + 1) = i + 1 + m by omega] at kk
    refine x_run 2 (pc' := 4) (lv' := [(1, .int (nI i)), (0, .ref (X.1 0))]) (st' := [.ref (X.1 0), .int (nI i)]) rfl ?_
    refine x_get (v := .int (nI (pn P))) rfl rfl R.c0 rfl ?_
    refine x_if (c := nI (pn P) ≤ nI i) (t := 45) rfl rfl (fun c1 => ?_) (fun c1 => ?_)
    · replace c1 := (nI_leI (by omega) (by omega)).mp c1
      omega
    · replace c1 := mt (nI_leI (by omega) (by omega)).mpr c1
      refine x_run 1 (pc' := 11) (lv' := [(1, .int (nI i)), (0, .ref (X.1 0))]) (st' := [.ref (X.1 0)]) rfl ?_
      refine x_get (v := .ref (X.1 1)) rfl rfl R.c0 rfl ?_
      refine x_run 1 (pc' := 15) (lv' := [(1, .int (nI i)), (0, .ref (X.1 0))]) (st' := [.int (nI i), .ref (X.1 1)]) rfl ?_
      refine x_aald3 (j := i) rfl R.c1 (mm_idx_nI (by omega) (by omega)) ?_
      rw [if_pos hi]
      refine x_run 2 (pc' := 18) (lv' := [(2, .ref (X.1 (100 + i))), (1, .int (nI i)), (0, .ref (X.1 0))]) (st' := [.ref (X.1 (100 + i))]) rfl ?_
      refine x_get (v := .int (pI P 0 i)) rfl rfl (R.cC hi) rfl ?_
      refine x_run 1 (pc' := 22) (lv' := [(2, .ref (X.1 (100 + i))), (1, .int (nI i)), (0, .ref (X.1 0))]) (st' := [.int (1), .int (pI P 0 i)]) rfl ?_
      refine x_if (c := ¬ pI P 0 i = 1) (t := 39) rfl rfl (fun c2 => ?_) (fun c2 => ?_)
      · refine x_run 1 (pc' := 42) (lv' := [(1, .int (nI i + 1)), (2, .ref (X.1 (100 + i))), (0, .ref (X.1 0))]) (st' := []) rfl ?_
        rw [nI_1]
        refine x_run 1 (pc' := 2) (lv' := [(1, .int (nI (i + 1))), (2, .ref (X.1 (100 + i))), (0, .ref (X.1 0))]) (st' := []) rfl ?_
        refine x_lv (a := [(1, .int (nI (i + 1))), (0, .ref (X.1 0))]) rfl rfl ⟨rfl, rfl, trivial⟩ ?_
        rw [show p_drop (m + 1) i P = p_drop m (i + 1) P from by rw [p_drop]; (rw [if_neg c2]) <;> rfl] at kk
        exact ih (i + 1) _ _ (R.less (Nat.le_refl _) (Nat.le_succ _)) (by show _ = pn P; omega) kk
      · refine x_run 2 (pc' := 27) (lv' := [(2, .ref (X.1 (100 + i))), (1, .int (nI i)), (0, .ref (X.1 0))]) (st' := [.int (2), .ref (X.1 (100 + i))]) rfl ?_
        refine x_put rfl rfl (R.cC hi) rfl ?_
        refine gen_h (A := Rep u (v + m + 1) X (sI P 0 i (2)) M z) (R.uState hi _) (fun h R => ?_)
        refine x_run 3 (pc' := 33) (lv' := [(2, .ref (X.1 (100 + i))), (1, .int (nI i)), (0, .ref (X.1 0))]) (st' := [.ref (X.1 (100 + i)), .ref (X.1 (100 + i)), .ref (X.1 0)]) rfl ?_
        refine x_get (v := .long (pL P 4 i)) rfl rfl (R.cC hi) rfl ?_
        refine x_wr0 (A := Rep u (v + m) X (p_release (sI P 0 i (2)) i (pL P 4 i)) M z) (k' := 30) (as := [.ref (X.1 0), .ref (X.1 (100 + i)), .long (pL P 4 i)]) (rest := []) (x_isV (np := 2) rfl rfl rfl R.c0 rfl) (c_release R hi _) (fun h R => ?_)
        refine x_run 1 (pc' := 42) (lv' := [(1, .int (nI i + 1)), (2, .ref (X.1 (100 + i))), (0, .ref (X.1 0))]) (st' := []) rfl ?_
        rw [nI_1]
        refine x_run 1 (pc' := 2) (lv' := [(1, .int (nI (i + 1))), (2, .ref (X.1 (100 + i))), (0, .ref (X.1 0))]) (st' := []) rfl ?_
        refine x_lv (a := [(1, .int (nI (i + 1))), (0, .ref (X.1 0))]) rfl rfl ⟨rfl, rfl, trivial⟩ ?_
        rw [show p_drop (m + 1) i P = p_drop m (i + 1) (p_release (sI P 0 i (2)) i (pL P 4 i)) from by rw [p_drop]; (rw [if_pos (Classical.not_not.mp c2)]) <;> rfl] at kk
        exact ih (i + 1) _ _ R (by show _ = pn P; omega) kk
theorem c_drop (R : Rep u (v + 60) X P M z h) : Wx (d + 2) 31 0 (lv_args 0 [.ref (X.1 0)]) [] h (fun r0 => r0.1 = .inl none ∧ Rep u v X (p_drop (pn P) 0 P) M z r0.2) := by
  have n60 := R.n60
  show Wx _ _ 0 [(0, .ref (X.1 0))] [] h _
  refine x_run 2 (pc' := 2) (lv' := [(1, .int (0)), (0, .ref (X.1 0))]) (st' := []) rfl ?_
  refine x_lv (a := [(1, .int (0)), (0, .ref (X.1 0))]) rfl rfl ⟨rfl, rfl, trivial⟩ ?_
  refine l_drop (v := v) (pn P) 0 P h (R.less (Nat.le_refl _) (by omega)) (by omega) (fun h R => ?_)
  refine x_ret (v := none) rfl rfl rfl ⟨?_, ?_⟩
  · rfl
  · exact R
theorem l_sumU (R : Rep u v X P M z h) {r : Nat} (hr : r < 8) {Q : mm_O × mm_H → Prop} : ∀ (m i : Nat) (acc : Int64), i + m = pn P → Wx (d + 3) 32 47 [(4, .int (nI (pn P))), (2, .long (p_sumU P r m i acc)), (0, .ref (X.1 0)), (1, .int (nI r))] [] h Q → Wx (d + 3) 32 5 [(4, .int (nI i)), (2, .long (acc)), (0, .ref (X.1 0)), (1, .int (nI r))] [] h Q := by
  intro m
  induction m with
  | zero =>
    intro i acc hm kk
    have n60 := R.n60
    refine x_run 2 (pc' := 8) (lv' := [(4, .int (nI i)), (2, .long (acc)), (0, .ref (X.1 0)), (1, .int (nI r))]) (st' := [.ref (X.1 0), .int (nI i)]) rfl ?_
    refine x_get (v := .int (nI (pn P))) rfl rfl R.c0 rfl ?_
    refine x_if (c := nI (pn P) ≤ nI i) (t := 47) rfl rfl (fun c1 => ?_) (fun c1 => ?_)
    · replace c1 := (nI_leI (by omega) (by omega)).mp c1
      refine x_lv (a := [(4, .int (nI i)), (2, .long (acc)), (0, .ref (X.1 0)), (1, .int (nI r))]) rfl rfl ⟨rfl, rfl, rfl, rfl, trivial⟩ ?_
      rw [show i = pn P by omega]
      exact kk
    · replace c1 := mt (nI_leI (by omega) (by omega)).mpr c1
      omega
  | succ m ih =>
    intro i acc hm kk
    have n60 := R.n60
    have hi : i < pn P := by omega
    have r8 := R.wP.rk hi
    refine x_run 2 (pc' := 8) (lv' := [(4, .int (nI i)), (2, .long (acc)), (0, .ref (X.1 0)), (1, .int (nI r))]) (st' := [.ref (X.1 0), .int (nI i)]) rfl ?_
    refine x_get (v := .int (nI (pn P))) rfl rfl R.c0 rfl ?_
    refine x_if (c := nI (pn P) ≤ nI i) (t := 47) rfl rfl (fun c1 => ?_) (fun c1 => ?_)
    · replace c1 := (nI_leI (by omega) (by omega)).mp c1
      omega
    · replace c1 := mt (nI_leI (by omega) (by omega)).mpr c1
      refine x_run 1 (pc' := 15) (lv' := [(4, .int (nI i)), (2, .long (acc)), (0, .ref (X.1 0)), (1, .int (nI r))]) (st' := [.ref (X.1 0)]) rfl ?_
      refine x_get (v := .ref (X.1 1)) rfl rfl R.c0 rfl ?_
      refine x_run 1 (pc' := 20) (lv' := [(4, .int (nI i)), (2, .long (acc)), (0, .ref (X.1 0)), (1, .int (nI r))]) (st' := [.int (nI i), .ref (X.1 1)]) rfl ?_
      refine x_aald3 (j := i) rfl R.c1 (mm_idx_nI (by omega) (by omega)) ?_
      rw [if_pos hi]
      refine x_get (v := .int (nI (pN P 0 i))) rfl rfl (R.cC hi) rfl ?_
      refine x_run 1 (pc' := 25) (lv' := [(4, .int (nI i)), (2, .long (acc)), (0, .ref (X.1 0)), (1, .int (nI r))]) (st' := [.int (nI r), .int (nI (pN P 0 i))]) rfl ?_
      refine x_if (c := ¬ nI (pN P 0 i) = nI r) (t := 41) rfl rfl (fun c2 => ?_) (fun c2 => ?_)
      · replace c2 := mt (nI_eq (by omega) (by omega)).mpr c2
        refine x_run 1 (pc' := 44) (lv' := [(4, .int (nI i + 1)), (2, .long (acc)), (0, .ref (X.1 0)), (1, .int (nI r))]) (st' := []) rfl ?_
        rw [nI_1]
        refine x_run 1 (pc' := 5) (lv' := [(4, .int (nI (i + 1))), (2, .long (acc)), (0, .ref (X.1 0)), (1, .int (nI r))]) (st' := []) rfl ?_
        refine x_lv (a := [(4, .int (nI (i + 1))), (2, .long (acc)), (0, .ref (X.1 0)), (1, .int (nI r))]) rfl rfl ⟨rfl, rfl, rfl, rfl, trivial⟩ ?_
        rw [show p_sumU P r (m + 1) i acc = p_sumU P r m (i + 1) acc from by rw [p_sumU]; rw [if_neg (by omega)]] at kk
        exact ih (i + 1) _ (by omega) kk
      · replace c2 := (nI_eq (by omega) (by omega)).mp (Classical.not_not.mp c2)
        refine x_run 2 (pc' := 30) (lv' := [(4, .int (nI i)), (2, .long (acc)), (0, .ref (X.1 0)), (1, .int (nI r))]) (st' := [.ref (X.1 0), .long (acc)]) rfl ?_
        refine x_get (v := .ref (X.1 1)) rfl rfl R.c0 rfl ?_
        refine x_run 1 (pc' := 35) (lv' := [(4, .int (nI i)), (2, .long (acc)), (0, .ref (X.1 0)), (1, .int (nI r))]) (st' := [.int (nI i), .ref (X.1 1), .long (acc)]) rfl ?_
        refine x_aald3 (j := i) rfl R.c1 (mm_idx_nI (by omega) (by omega)) ?_
        rw [if_pos hi]
        refine x_rd (v := .long (p_unpaid P i)) (k' := 45) (as := [.ref (X.1 (100 + i))]) (rest := [.long (acc)]) (x_isV (np := 0) rfl rfl rfl (R.cC hi) rfl) (c_unpaid R hi) ?_
        refine x_run 3 (pc' := 44) (lv' := [(4, .int (nI i + 1)), (2, .long (acc + (p_unpaid P i))), (0, .ref (X.1 0)), (1, .int (nI r))]) (st' := []) rfl ?_
        rw [nI_1]
        refine x_run 1 (pc' := 5) (lv' := [(4, .int (nI (i + 1))), (2, .long (acc + (p_unpaid P i))), (0, .ref (X.1 0)), (1, .int (nI r))]) (st' := []) rfl ?_
        refine x_lv (a := [(4, .int (nI (i + 1))), (2, .long (acc + (p_unpaid P i))), (0, .ref (X.1 0)), (1, .int (nI r))]) rfl rfl ⟨rfl, rfl, rfl, rfl, trivial⟩ ?_
        rw [show p_sumU P r (m + 1) i acc = p_sumU P r m (i + 1) (acc + (p_unpaid P i)) from by rw [p_sumU]; rw [if_pos (by omega)]] at kk
        exact ih (i + 1) _ (by omega) kk
theorem l_pays {r : Nat} (hr : r < 8) {Q : mm_O × mm_H → Prop} : ∀ (m : Nat) (i : Nat) (P : pP) (h : mm_H), Rep u (v + m) X P M z h → i + m = pn P → (∀ h, Rep u v X (p_pays r m i P) M z h → Wx (d + 3) 32 116 [(4, .int (nI (i + m))), (0, .ref (X.1 0)), (1, .int (nI r))] [] h Q) → Wx (d + 3) 32 66 [(4, .int (nI i)), (0, .ref (X.1 0)), (1, .int (nI r))] [] h Q := by
  intro m
  induction m with
  | zero =>
    intro i P h R hm kk
    have n60 := R.n60
    refine x_run 2 (pc' := 69) (lv' := [(4, .int (nI i)), (0, .ref (X.1 0)), (1, .int (nI r))]) (st' := [.ref (X.1 0), .int (nI i)]) rfl ?_
    refine x_get (v := .int (nI (pn P))) rfl rfl R.c0 rfl ?_
    refine x_if (c := nI (pn P) ≤ nI i) (t := 116) rfl rfl (fun c1 => ?_) (fun c1 => ?_)
    · replace c1 := (nI_leI (by omega) (by omega)).mp c1
      refine x_lv (a := [(4, .int (nI i)), (0, .ref (X.1 0)), (1, .int (nI r))]) rfl rfl ⟨rfl, rfl, rfl, trivial⟩ ?_
      exact kk h R
    · replace c1 := mt (nI_leI (by omega) (by omega)).mpr c1
      omega
  | succ m ih =>
    intro i P h R hm kk
    have R : Rep u (v + m + 1) X P M z h := R
    have n60 := R.n60
    have hi : i < pn P := by omega
    have r8 := R.wP.rk hi
    rw [show i + (m + 1) = i + 1 + m by omega] at kk
    refine x_run 2 (pc' := 69) (lv' := [(4, .int (nI i)), (0, .ref (X.1 0)), (1, .int (nI r))]) (st' := [.ref (X.1 0), .int (nI i)]) rfl ?_
    refine x_get (v := .int (nI (pn P))) rfl rfl R.c0 rfl ?_
    refine x_if (c := nI (pn P) ≤ nI i) (t := 116) rfl rfl (fun c1 => ?_) (fun c1 => ?_)
    · replace c1 := (nI_leI (by omega) (by omega)).mp c1
      omega
    · replace c1 := mt (nI_leI (by omega) (by omega)).mpr c1
      refine x_run 1 (pc' := 76) (lv' := [(4, .int (nI i)), (0, .ref (X.1 0)), (1, .int (nI r))]) (st' := [.ref (X.1 0)]) rfl ?_
      refine x_get (v := .ref (X.1 1)) rfl rfl R.c0 rfl ?_
      refine x_run 1 (pc' := 81) (lv' := [(4, .int (nI i)), (0, .ref (X.1 0)), (1, .int (nI r))]) (st' := [.int (nI i), .ref (X.1 1)]) rfl ?_
      refine x_aald3 (j := i) rfl R.c1 (mm_idx_nI (by omega) (by omega)) ?_
      rw [if_pos hi]
      refine x_get (v := .int (nI (pN P 0 i))) rfl rfl (R.cC hi) rfl ?_
      refine x_run 1 (pc' := 86) (lv' := [(4, .int (nI i)), (0, .ref (X.1 0)), (1, .int (nI r))]) (st' := [.int (nI r), .int (nI (pN P 0 i))]) rfl ?_
      refine x_if (c := ¬ nI (pN P 0 i) = nI r) (t := 110) rfl rfl (fun c2 => ?_) (fun c2 => ?_)
      · replace c2 := mt (nI_eq (by omega) (by omega)).mpr c2
        refine x_run 1 (pc' := 113) (lv' := [(4, .int (nI i + 1)), (0, .ref (X.1 0)), (1, .int (nI r))]) (st' := []) rfl ?_
        rw [nI_1]
        refine x_run 1 (pc' := 66) (lv' := [(4, .int (nI (i + 1))), (0, .ref (X.1 0)), (1, .int (nI r))]) (st' := []) rfl ?_
        refine x_lv (a := [(4, .int (nI (i + 1))), (0, .ref (X.1 0)), (1, .int (nI r))]) rfl rfl ⟨rfl, rfl, rfl, trivial⟩ ?_
        rw [show p_pays r (m + 1) i P = p_pays r m (i + 1) P from by rw [p_pays]; rw [if_neg (by omega)]] at kk
        exact ih (i + 1) _ _ (R.less (Nat.le_refl _) (Nat.le_succ _)) (by show _ = pn P; omega) kk
      · replace c2 := (nI_eq (by omega) (by omega)).mp (Classical.not_not.mp c2)
        refine x_run 2 (pc' := 91) (lv' := [(4, .int (nI i)), (0, .ref (X.1 0)), (1, .int (nI r))]) (st' := [.ref (X.1 0), .ref (X.1 0)]) rfl ?_
        refine x_get (v := .ref (X.1 1)) rfl rfl R.c0 rfl ?_
        refine x_run 1 (pc' := 96) (lv' := [(4, .int (nI i)), (0, .ref (X.1 0)), (1, .int (nI r))]) (st' := [.int (nI i), .ref (X.1 1), .ref (X.1 0)]) rfl ?_
        refine x_aald3 (j := i) rfl R.c1 (mm_idx_nI (by omega) (by omega)) ?_
        rw [if_pos hi]
        refine x_run 1 (pc' := 98) (lv' := [(4, .int (nI i)), (0, .ref (X.1 0)), (1, .int (nI r))]) (st' := [.ref (X.1 0), .ref (X.1 (100 + i)), .ref (X.1 0)]) rfl ?_
        refine x_get (v := .ref (X.1 1)) rfl rfl R.c0 rfl ?_
        refine x_run 1 (pc' := 103) (lv' := [(4, .int (nI i)), (0, .ref (X.1 0)), (1, .int (nI r))]) (st' := [.int (nI i), .ref (X.1 1), .ref (X.1 (100 + i)), .ref (X.1 0)]) rfl ?_
        refine x_aald3 (j := i) rfl R.c1 (mm_idx_nI (by omega) (by omega)) ?_
        rw [if_pos hi]
        refine x_rd (v := .long (p_unpaid P i)) (k' := 45) (as := [.ref (X.1 (100 + i))]) (rest := [.ref (X.1 (100 + i)), .ref (X.1 0)]) (x_isV (np := 0) rfl rfl rfl (R.cC hi) rfl) (c_unpaid R hi) ?_
        refine x_wr0 (A := Rep u (v + m) X (p_pay P i (p_unpaid P i)) M z) (k' := 35) (as := [.ref (X.1 0), .ref (X.1 (100 + i)), .long (p_unpaid P i)]) (rest := []) (x_isV (np := 2) rfl rfl rfl R.c0 rfl) (c_pay R hi _) (fun h R => ?_)
        refine x_run 1 (pc' := 113) (lv' := [(4, .int (nI i + 1)), (0, .ref (X.1 0)), (1, .int (nI r))]) (st' := []) rfl ?_
        rw [nI_1]
        refine x_run 1 (pc' := 66) (lv' := [(4, .int (nI (i + 1))), (0, .ref (X.1 0)), (1, .int (nI r))]) (st' := []) rfl ?_
        refine x_lv (a := [(4, .int (nI (i + 1))), (0, .ref (X.1 0)), (1, .int (nI r))]) rfl rfl ⟨rfl, rfl, rfl, trivial⟩ ?_
        rw [show p_pays r (m + 1) i P = p_pays r m (i + 1) (p_pay P i (p_unpaid P i)) from by rw [p_pays]; rw [if_pos (by omega)]] at kk
        exact ih (i + 1) _ _ R (by show _ = pn P; omega) kk
end CLS3
end
section
/-! what a public call answers: the class of what it throws (0: nothing), the value, the state -/
abbrev oO : Type := Nat × Option Value × pP
def pQ (A : pP → mm_H → Prop) (o : oO) (r : mm_O × mm_H) : Prop := if o.1 = 0 then r.1 = .inl o.2.1 ∧ A o.2.2 r.2 else x_th o.1 (A o.2.2) r
theorem pQ_0 {A : pP → mm_H → Prop} {v : Option Value} {P : pP} {h : mm_H} (a : A P h) : pQ A (0, v, P) (.inl v, h) := ⟨rfl, a⟩
theorem pQ_x {A : pP → mm_H → Prop} {x : Nat} {v : Option Value} {P : pP} {r : mm_O × mm_H} (hx : x ≠ 0) (a : x_th x (A P) r) : pQ A (x, v, P) r := by
  unfold pQ
  rw [if_neg hx]
  exact a
theorem pQ_th {A : pP → mm_H → Prop} {x : Nat} {v : Option Value} {P : pP} {d k pc : Nat} {lv : mm_L} {st : List Value} {h : mm_H} (w : Wx d k pc lv st h (x_th x (A P))) (hx : x ≠ 0) : Wx d k pc lv st h (pQ A (x, v, P)) := w.mono (fun _ e => pQ_x hx e)
/-- the classes' cells hold P -/
abbrev RP (u v : Nat) (X : xX) (M : pP) (z : zZ) (P : pP) (h : mm_H) : Prop := Rep u v X P M z h
def g_cents (c least : Int64) : Bool := !decide (c < least) && decide (c ≤ 400000000)
theorem g_cents_t {c least : Int64} (h : g_cents c least = true) : ¬ c < least ∧ c ≤ 400000000 := by
  unfold g_cents at h
  simp only [Bool.and_eq_true, Bool.not_eq_true', decide_eq_false_iff_not, decide_eq_true_eq] at h
  exact h
theorem g_cents_f {c least : Int64} (h : g_cents c least = false) (h1 : ¬ c < least) : ¬ c ≤ 400000000 := by
  intro h2
  unfold g_cents at h
  rw [decide_eq_false h1, decide_eq_true h2] at h
  cases h
theorem x_swd {d k pc t len : Nat} {lv : mm_L} {r : List Value} {h : mm_H} {Q : mm_O × mm_H → Prop} {dflt lo hi : Int} {offs : Array Int} {x : Int32} (hc : t_cod k pc = some (.tableswitch dflt lo hi offs, len)) (hx : x.toInt < lo ∨ hi < x.toInt) (ht : mm_tgt pc dflt = some t) (w : Wx d k t lv r h Q) : Wx d k pc lv (.int x :: r) h Q :=
  x_step hc (by simp only [mm_step, mm_load, mm_store, mm_arith, mm_stack, mm_jump, if_pos hx, ht, Option.map_some]) w
/-! the public operations of the class -/
def o_owes (P : pP) (i : Nat) (n : Int64) : oO := if g_cents n 0 = false then (5, none, P) else if ¬ pI P 4 0 = 0 then (6, none, P) else if pI P 0 i = 2 then (6, none, P) else if p_fresh P i = true then (0, some (.long (pL (sL P 1 i (pL P 1 i + n)) 1 i)), sL P 1 i (pL P 1 i + n)) else (6, none, P)
def o_contest (P : pP) (i : Nat) : oO := if ¬ pI P 4 0 = 0 then (6, none, P) else if ¬ pI P 0 i = 0 then (6, none, P) else if p_fresh P i = true then (0, none, sI P 0 i 1) else (6, none, P)
def p_set (P : pP) (i : Nat) (n : Int64) : pP := if n = 0 then sI P 0 i 2 else sL (sI P 0 i 0) 0 i n
def p_above (P : pP) (i : Nat) : Int64 := if pL P 4 i - p_dueOf P i < 0 then 0 else pL P 4 i - p_dueOf P i
def o_settle (opn : pP → Nat → Bool) (P : pP) (i : Nat) (n : Int64) : oO := if n < 0 then (5, none, P) else if ¬ n ≤ pL P 0 i then (5, none, P) else if ¬ pI P 4 0 = 0 then (6, none, P) else if ¬ pI P 0 i = 1 then (6, none, P) else if opn (p_set P i n) i = true then (0, some (.long 0), p_release (p_set P i n) i (p_above (p_set P i n) i)) else (0, some (.long (p_resV (opn (p_set P i n) i) (p_set P i n) i)), p_resolve (opn (p_set P i n) i) (p_set P i n) i)
def o_cost (P : pP) (n : Int64) : oO := if g_cents n 0 = false then (5, none, P) else if ¬ pI P 4 0 = 0 then (6, none, P) else if ¬ n ≤ pL P 7 0 then (6, none, P) else (0, some (.long (pL P 7 0 - n)), p_note (sL (sL P 7 0 (pL P 7 0 - n)) 7 2 (pL P 7 2 + n)) 3 (-1) n)
def o_div (opn : pP → Nat → Bool) (P : pP) (r p : Nat) : oO := if ¬ pI P 4 0 = 0 then (6, none, P) else if p ≤ pN P 3 r then (6, none, P) else if p_blk P r (pn P) 0 = true then (6, none, P) else if ¬ p_need P r (nI p) (pn P) 0 0 ≤ pL P 7 0 then (8, none, P) else (0, some (.long (p_serveR opn (r + 1) 0 (sN P 3 r p) 0).2), (p_serveR opn (r + 1) 0 (sN P 3 r p) 0).1)
def o_catch (opn : pP → Nat → Bool) (P : pP) : oO := if ¬ pI P 4 0 = 0 then (6, none, P) else (0, some (.long (p_serveR opn (7 + 1) 0 P 0).2), (p_serveR opn (7 + 1) 0 P 0).1)
def p_real1 (P : pP) (j : Nat) (n : Int64) : pP := p_note (sL (sI P 1 j 1) 7 1 (pL P 7 1 + n)) 1 (nI j) n
def p_real2 (P : pP) (j : Nat) (n : Int64) : pP × Int64 := p_give j n (pN P 1 j) 0 (p_real1 P j n) 0
def p_real3 (P : pP) (j : Nat) (n : Int64) : pP := sL (p_real2 P j n).1 7 0 (pL (p_real2 P j n).1 7 0 + (n - (p_real2 P j n).2))
def o_real (opn : pP → Nat → Bool) (P : pP) (j : Nat) (n : Int64) : oO := if g_cents n 0 = false then (5, none, P) else if ¬ pI P 4 0 = 0 then (6, none, P) else if ¬ pI P 1 j = 0 then (6, none, P) else if p_cont P j (pN P 1 j) 0 = true then (6, none, P) else (0, some (.long (n - (p_real2 P j n).2)), p_resolves opn (pn (p_real3 P j n)) 0 (p_real3 P j n))
def p_great (P : pP) (r : Nat) : Nat → Nat → Nat
  | 0, b => b
  | m + 1, b => p_great P r m (if b + 2 ^ m ≤ 10000 ∧ p_need P r (nI (b + 2 ^ m)) (pn P) 0 0 ≤ pL P 7 0 then b + 2 ^ m else b)
def p_greatest (P : pP) (r : Nat) : Int32 := if ¬ pI P 4 0 = 0 then -1 else if p_blk P r (pn P) 0 = true then -1 else nI (p_great P r 14 (pN P 3 r))
end
section
section GRD
variable {u v d : Nat} {X : xX} {P M : pP} {z : zZ} {h : mm_H} {i j : Nat}
theorem c_live (R : Rep u v X P M z h) (he : pI P 4 0 = 0) : Wx (d) 18 0 (lv_args 0 [.ref (X.1 0)]) [] h (fun r0 => r0 = (.inl none, h)) := by
  show Wx _ _ 0 [(0, .ref (X.1 0))] [] h _
  refine x_run 1 (pc' := 1) (lv' := [(0, .ref (X.1 0))]) (st' := [.ref (X.1 0)]) rfl ?_
  refine x_get (v := .int (pI P 4 0)) rfl rfl R.c0 rfl ?_
  refine x_if (c := pI P 4 0 = 0) (t := 17) rfl rfl (fun c1 => ?_) (fun c1 => ?_)
  · exact x_ret (v := none) rfl rfl rfl rfl
  · exact absurd he c1
theorem c_liveX (R : Rep (u + 1) v X P M z h) (he : ¬ pI P 4 0 = 0) : Wx (d + 6) 18 0 (lv_args 0 [.ref (X.1 0)]) [] h (x_th 6 (Rep u v X P M z)) := by
  show Wx _ _ 0 [(0, .ref (X.1 0))] [] h _
  refine x_run 1 (pc' := 1) (lv' := [(0, .ref (X.1 0))]) (st' := [.ref (X.1 0)]) rfl ?_
  refine x_get (v := .int (pI P 4 0)) rfl rfl R.c0 rfl ?_
  refine x_if (c := pI P 4 0 = 0) (t := 17) rfl rfl (fun c1 => ?_) (fun c1 => ?_)
  · exact absurd c1 he
  · exact x_throw R rfl rfl rfl rfl rfl rfl rfl rfl (by omega)
theorem c_rank (R : Rep u v X P M z h) {r : Nat} (hr : r < 8) : Wx (d) 19 0 (lv_args 0 [.int (nI r)]) [] h (fun r0 => r0 = (.inl none, h)) := by
  show Wx _ _ 0 [(0, .int (nI r))] [] h _
  refine x_run 1 (pc' := 1) (lv' := [(0, .int (nI r))]) (st' := [.int (nI r)]) rfl ?_
  refine x_if (c := nI r < nI 0) (t := 10) rfl rfl (fun c1 => ?_) (fun c1 => ?_)
  · replace c1 := (nI_ltI (by omega) (by omega)).mp c1
    first | exact absurd c1 (nI_pos (by omega)) | omega
  · replace c1 := mt (nI_ltI (by omega) (by omega)).mpr c1
    refine x_run 2 (pc' := 7) (lv' := [(0, .int (nI r))]) (st' := [.int (8), .int (nI r)]) rfl ?_
    refine x_if (c := nI r < nI 8) (t := 20) rfl rfl (fun c2 => ?_) (fun c2 => ?_)
    · replace c2 := (nI_ltI (by omega) (by omega)).mp c2
      exact x_ret (v := none) rfl rfl rfl rfl
    · replace c2 := mt (nI_ltI (by omega) (by omega)).mpr c2
      first | exact absurd c1 (nI_pos (by omega)) | omega
theorem c_rankX (R : Rep (u + 1) v X P M z h) {q : Int32} (hq : q < 0 ∨ 8 ≤ q) : Wx (d + 6) 19 0 (lv_args 0 [.int (q)]) [] h (x_th 5 (Rep u v X P M z)) := by
  show Wx _ _ 0 [(0, .int (q))] [] h _
  refine x_run 1 (pc' := 1) (lv' := [(0, .int (q))]) (st' := [.int (q)]) rfl ?_
  refine x_if (c := q < 0) (t := 10) rfl rfl (fun c1 => ?_) (fun c1 => ?_)
  · exact x_throw R rfl rfl rfl rfl rfl rfl rfl rfl (by omega)
  · refine x_run 2 (pc' := 7) (lv' := [(0, .int (q))]) (st' := [.int (8), .int (q)]) rfl ?_
    refine x_if (c := q < 8) (t := 20) rfl rfl (fun c2 => ?_) (fun c2 => ?_)
    · exact absurd hq (fun e => e.elim c1 (fun e => Int32.not_lt.mpr e c2))
    · exact x_throw R rfl rfl rfl rfl rfl rfl rfl rfl (by omega)
theorem c_cents (R : Rep u v X P M z h) {c l : Int64} (hc : g_cents c l = true) : Wx (d) 20 0 (lv_args 0 [.long (c), .long (l)]) [] h (fun r0 => r0 = (.inl none, h)) := by
  show Wx _ _ 0 [(0, .long (c)), (2, .long (l))] [] h _
  refine x_run 2 (pc' := 2) (lv' := [(0, .long (c)), (2, .long (l))]) (st' := [.long (l), .long (c)]) rfl ?_
  refine x_llt (t := 14) rfl rfl rfl (fun c1 => ?_) (fun c1 => ?_)
  · first | exact absurd c1 (g_cents_t hc).1 | exact absurd (g_cents_t hc).2 c2
  · refine x_run 1 (pc' := 7) (lv' := [(0, .long (c)), (2, .long (l))]) (st' := [.long (c)]) rfl ?_
    refine x_ldc2 (x := 400000000) rfl rfl ?_
    refine x_lle (t := 24) rfl rfl rfl (fun c2 => ?_) (fun c2 => ?_)
    · exact x_ret (v := none) rfl rfl rfl rfl
    · first | exact absurd c1 (g_cents_t hc).1 | exact absurd (g_cents_t hc).2 c2
theorem c_centsX (R : Rep (u + 1) v X P M z h) {c l : Int64} (hc : g_cents c l = false) : Wx (d + 6) 20 0 (lv_args 0 [.long (c), .long (l)]) [] h (x_th 5 (Rep u v X P M z)) := by
  show Wx _ _ 0 [(0, .long (c)), (2, .long (l))] [] h _
  refine x_run 2 (pc' := 2) (lv' := [(0, .long (c)), (2, .long (l))]) (st' := [.long (l), .long (c)]) rfl ?_
  refine x_llt (t := 14) rfl rfl rfl (fun c1 => ?_) (fun c1 => ?_)
  · exact x_throw R rfl rfl rfl rfl rfl rfl rfl rfl (by omega)
  · refine x_run 1 (pc' := 7) (lv' := [(0, .long (c)), (2, .long (l))]) (st' := [.long (c)]) rfl ?_
    refine x_ldc2 (x := 400000000) rfl rfl ?_
    refine x_lle (t := 24) rfl rfl rfl (fun c2 => ?_) (fun c2 => ?_)
    · exact absurd c2 (g_cents_f hc c1)
    · exact x_throw R rfl rfl rfl rfl rfl rfl rfl rfl (by omega)
theorem c_claimAt (R : Rep u v X P M z h) (hi : i < pn P) : Wx (d) 21 0 (lv_args 0 [.ref (X.1 0), .int (nI i)]) [] h (fun r0 => r0 = (.inl (some (.ref (X.1 (100 + i)))), h)) := by
  have n60 := R.n60
  show Wx _ _ 0 [(0, .ref (X.1 0)), (1, .int (nI i))] [] h _
  refine x_run 1 (pc' := 1) (lv' := [(0, .ref (X.1 0)), (1, .int (nI i))]) (st' := [.int (nI i)]) rfl ?_
  refine x_if (c := nI i < nI 0) (t := 12) rfl rfl (fun c1 => ?_) (fun c1 => ?_)
  · replace c1 := (nI_ltI (by omega) (by omega)).mp c1
    first | exact absurd c1 (nI_pos (by omega)) | omega
  · replace c1 := mt (nI_ltI (by omega) (by omega)).mpr c1
    refine x_run 2 (pc' := 6) (lv' := [(0, .ref (X.1 0)), (1, .int (nI i))]) (st' := [.ref (X.1 0), .int (nI i)]) rfl ?_
    refine x_get (v := .int (nI (pn P))) rfl rfl R.c0 rfl ?_
    refine x_if (c := nI i < nI (pn P)) (t := 22) rfl rfl (fun c2 => ?_) (fun c2 => ?_)
    · replace c2 := (nI_ltI (by omega) (by omega)).mp c2
      refine x_run 1 (pc' := 23) (lv' := [(0, .ref (X.1 0)), (1, .int (nI i))]) (st' := [.ref (X.1 0)]) rfl ?_
      refine x_get (v := .ref (X.1 1)) rfl rfl R.c0 rfl ?_
      refine x_run 1 (pc' := 27) (lv' := [(0, .ref (X.1 0)), (1, .int (nI i))]) (st' := [.int (nI i), .ref (X.1 1)]) rfl ?_
      refine x_aald3 (j := i) rfl R.c1 (mm_idx_nI (by omega) (by omega)) ?_
      rw [if_pos hi]
      exact x_ret (v := some (.ref (X.1 (100 + i)))) rfl rfl rfl rfl
    · replace c2 := mt (nI_ltI (by omega) (by omega)).mpr c2
      first | exact absurd c1 (nI_pos (by omega)) | omega
theorem c_claimAtX (R : Rep (u + 1) v X P M z h) {q : Int32} (hq : q < 0 ∨ nI (pn P) ≤ q) : Wx (d + 6) 21 0 (lv_args 0 [.ref (X.1 0), .int (q)]) [] h (x_th 7 (Rep u v X P M z)) := by
  show Wx _ _ 0 [(0, .ref (X.1 0)), (1, .int (q))] [] h _
  refine x_run 1 (pc' := 1) (lv' := [(0, .ref (X.1 0)), (1, .int (q))]) (st' := [.int (q)]) rfl ?_
  refine x_if (c := q < 0) (t := 12) rfl rfl (fun c1 => ?_) (fun c1 => ?_)
  · exact x_throw R rfl rfl rfl rfl rfl rfl rfl rfl (by omega)
  · refine x_run 2 (pc' := 6) (lv' := [(0, .ref (X.1 0)), (1, .int (q))]) (st' := [.ref (X.1 0), .int (q)]) rfl ?_
    refine x_get (v := .int (nI (pn P))) rfl rfl R.c0 rfl ?_
    refine x_if (c := q < nI (pn P)) (t := 22) rfl rfl (fun c2 => ?_) (fun c2 => ?_)
    · exact absurd hq (fun e => e.elim c1 (fun e => Int32.not_lt.mpr e c2))
    · exact x_throw R rfl rfl rfl rfl rfl rfl rfl rfl (by omega)
theorem c_assetAt (R : Rep u v X P M z h) (hi : i < pa P) : Wx (d) 22 0 (lv_args 0 [.ref (X.1 0), .int (nI i)]) [] h (fun r0 => r0 = (.inl (some (.ref (X.1 (200 + i)))), h)) := by
  have n60 := R.a20
  show Wx _ _ 0 [(0, .ref (X.1 0)), (1, .int (nI i))] [] h _
  refine x_run 1 (pc' := 1) (lv' := [(0, .ref (X.1 0)), (1, .int (nI i))]) (st' := [.int (nI i)]) rfl ?_
  refine x_if (c := nI i < nI 0) (t := 12) rfl rfl (fun c1 => ?_) (fun c1 => ?_)
  · replace c1 := (nI_ltI (by omega) (by omega)).mp c1
    first | exact absurd c1 (nI_pos (by omega)) | omega
  · replace c1 := mt (nI_ltI (by omega) (by omega)).mpr c1
    refine x_run 2 (pc' := 6) (lv' := [(0, .ref (X.1 0)), (1, .int (nI i))]) (st' := [.ref (X.1 0), .int (nI i)]) rfl ?_
    refine x_get (v := .int (nI (pa P))) rfl rfl R.c0 rfl ?_
    refine x_if (c := nI i < nI (pa P)) (t := 22) rfl rfl (fun c2 => ?_) (fun c2 => ?_)
    · replace c2 := (nI_ltI (by omega) (by omega)).mp c2
      refine x_run 1 (pc' := 23) (lv' := [(0, .ref (X.1 0)), (1, .int (nI i))]) (st' := [.ref (X.1 0)]) rfl ?_
      refine x_get (v := .ref (X.1 2)) rfl rfl R.c0 rfl ?_
      refine x_run 1 (pc' := 27) (lv' := [(0, .ref (X.1 0)), (1, .int (nI i))]) (st' := [.int (nI i), .ref (X.1 2)]) rfl ?_
      refine x_aald4 (j := i) rfl R.c2 (mm_idx_nI (by omega) (by omega)) ?_
      rw [if_pos hi]
      exact x_ret (v := some (.ref (X.1 (200 + i)))) rfl rfl rfl rfl
    · replace c2 := mt (nI_ltI (by omega) (by omega)).mpr c2
      first | exact absurd c1 (nI_pos (by omega)) | omega
theorem c_assetAtX (R : Rep (u + 1) v X P M z h) {q : Int32} (hq : q < 0 ∨ nI (pa P) ≤ q) : Wx (d + 6) 22 0 (lv_args 0 [.ref (X.1 0), .int (q)]) [] h (x_th 7 (Rep u v X P M z)) := by
  show Wx _ _ 0 [(0, .ref (X.1 0)), (1, .int (q))] [] h _
  refine x_run 1 (pc' := 1) (lv' := [(0, .ref (X.1 0)), (1, .int (q))]) (st' := [.int (q)]) rfl ?_
  refine x_if (c := q < 0) (t := 12) rfl rfl (fun c1 => ?_) (fun c1 => ?_)
  · exact x_throw R rfl rfl rfl rfl rfl rfl rfl rfl (by omega)
  · refine x_run 2 (pc' := 6) (lv' := [(0, .ref (X.1 0)), (1, .int (q))]) (st' := [.ref (X.1 0), .int (q)]) rfl ?_
    refine x_get (v := .int (nI (pa P))) rfl rfl R.c0 rfl ?_
    refine x_if (c := q < nI (pa P)) (t := 22) rfl rfl (fun c2 => ?_) (fun c2 => ?_)
    · exact absurd hq (fun e => e.elim c1 (fun e => Int32.not_lt.mpr e c2))
    · exact x_throw R rfl rfl rfl rfl rfl rfl rfl rfl (by omega)
end GRD
end
section
section PUB1
variable {u v d : Nat} {X : xX} {P M : pP} {z : zZ} {h : mm_H} {i j : Nat}
theorem g_two (b : Bool) : b = false ∨ b = true := by cases b <;> simp
theorem c_owes (R : Rep (u + 1) v X P M z h) (hi : i < pn P) (n : Int64) : Wx (d + 7) 2 0 (lv_args 0 [.ref (X.1 0), .int (nI i), .long (n)]) [] h (pQ (RP u v X M z) (o_owes P i n)) := by
  show Wx _ _ 0 [(0, .ref (X.1 0)), (1, .int (nI i)), (2, .long (n))] [] h _
  refine x_run 2 (pc' := 2) (lv' := [(0, .ref (X.1 0)), (1, .int (nI i)), (2, .long (n))]) (st' := [.int (nI i), .ref (X.1 0)]) rfl ?_
  refine x_rd (v := .ref (X.1 (100 + i))) (k' := 21) (as := [.ref (X.1 0), .int (nI i)]) (rest := []) (x_isV (np := 1) rfl rfl rfl R.c0 rfl) (c_claimAt R hi) ?_
  refine x_run 3 (pc' := 9) (lv' := [(4, .ref (X.1 (100 + i))), (0, .ref (X.1 0)), (1, .int (nI i)), (2, .long (n))]) (st' := [.long (0), .long (n)]) rfl ?_
  rcases g_two (g_cents n 0) with g1 | g1
  · rw [show o_owes P i n = (5, none, P) from by simp only [o_owes, g1, not_true_eq_false, not_false_eq_true, if_true, if_false, ite_true, ite_false, reduceIte, reduceCtorEq, Classical.not_not]]
    exact x_up (k' := 20) (as := [.long (n), .long (0)]) (rest := []) (x_isS (np := 2) rfl rfl rfl rfl rfl) rfl (c_centsX R g1) (fun r e => pQ_x (by decide) (e.imp fun a q => ⟨q.1, q.2.less (Nat.le_refl _) (by omega)⟩))
  refine x_rd0 (k' := 20) (as := [.long (n), .long (0)]) (rest := []) (x_isS (np := 2) rfl rfl rfl rfl rfl) (c_cents R g1) ?_
  refine x_run 1 (pc' := 13) (lv' := [(4, .ref (X.1 (100 + i))), (0, .ref (X.1 0)), (1, .int (nI i)), (2, .long (n))]) (st' := [.ref (X.1 0)]) rfl ?_
  by_cases g2 : ¬ pI P 4 0 = 0
  · rw [show o_owes P i n = (6, none, P) from by simp only [o_owes, g1, g2, not_true_eq_false, not_false_eq_true, if_true, if_false, ite_true, ite_false, reduceIte, reduceCtorEq, Classical.not_not]]
    exact x_up (k' := 18) (as := [.ref (X.1 0)]) (rest := []) (x_isV (np := 0) rfl rfl rfl R.c0 rfl) rfl (c_liveX R g2) (fun r e => pQ_x (by decide) (e.imp fun a q => ⟨q.1, q.2.less (Nat.le_refl _) (by omega)⟩))
  refine x_rd0 (k' := 18) (as := [.ref (X.1 0)]) (rest := []) (x_isV (np := 0) rfl rfl rfl R.c0 rfl) (c_live R (Classical.not_not.mp g2)) ?_
  refine x_run 1 (pc' := 18) (lv' := [(4, .ref (X.1 (100 + i))), (0, .ref (X.1 0)), (1, .int (nI i)), (2, .long (n))]) (st' := [.ref (X.1 (100 + i))]) rfl ?_
  refine x_get (v := .int (pI P 0 i)) rfl rfl (R.cC hi) rfl ?_
  refine x_run 1 (pc' := 22) (lv' := [(4, .ref (X.1 (100 + i))), (0, .ref (X.1 0)), (1, .int (nI i)), (2, .long (n))]) (st' := [.int (2), .int (pI P 0 i)]) rfl ?_
  refine x_if (c := pI P 0 i = 2) (t := 33) rfl rfl (fun c3 => ?_) (fun c3 => ?_)
  · rw [show o_owes P i n = (6, none, P) from by simp only [o_owes, g1, g2, c3, not_true_eq_false, not_false_eq_true, if_true, if_false, ite_true, ite_false, reduceIte, reduceCtorEq, Classical.not_not]]
    exact pQ_th (x_throw (R.less (v' := v) (Nat.le_refl _) (by omega)) rfl rfl rfl rfl rfl rfl rfl rfl (by omega)) (by decide)
  · refine x_run 1 (pc' := 27) (lv' := [(4, .ref (X.1 (100 + i))), (0, .ref (X.1 0)), (1, .int (nI i)), (2, .long (n))]) (st' := [.ref (X.1 (100 + i))]) rfl ?_
    refine x_rd (v := .int (bI (p_fresh P i))) (k' := 41) (as := [.ref (X.1 (100 + i))]) (rest := []) (x_isV (np := 0) rfl rfl rfl (R.cC hi) rfl) (c_fresh R hi) ?_
    refine x_if (c := ¬ bI (p_fresh P i) = 0) (t := 43) rfl rfl (fun c4 => ?_) (fun c4 => ?_)
    · replace c4 := bI_n0 c4
      refine x_run 2 (pc' := 46) (lv' := [(4, .ref (X.1 (100 + i))), (0, .ref (X.1 0)), (1, .int (nI i)), (2, .long (n))]) (st' := [.ref (X.1 (100 + i)), .ref (X.1 (100 + i))]) rfl ?_
      refine x_get (v := .long (pL P 1 i)) rfl rfl (R.cC hi) rfl ?_
      refine x_run 2 (pc' := 51) (lv' := [(4, .ref (X.1 (100 + i))), (0, .ref (X.1 0)), (1, .int (nI i)), (2, .long (n))]) (st' := [.long ((pL P 1 i) + n), .ref (X.1 (100 + i))]) rfl ?_
      refine x_put rfl rfl (R.cC hi) rfl ?_
      refine gen_h (A := Rep (u + 1) v X (sL P 1 i ((pL P 1 i) + n)) M z) (R.uDebt hi _) (fun h R => ?_)
      refine x_run 1 (pc' := 56) (lv' := [(4, .ref (X.1 (100 + i))), (0, .ref (X.1 0)), (1, .int (nI i)), (2, .long (n))]) (st' := [.ref (X.1 (100 + i))]) rfl ?_
      refine x_get (v := .long (pL (sL P 1 i ((pL P 1 i) + n)) 1 i)) rfl rfl (R.cC hi) rfl ?_
      rw [show o_owes P i n = (0, some (.long (pL (sL P 1 i ((pL P 1 i) + n)) 1 i)), sL P 1 i ((pL P 1 i) + n)) from by simp only [o_owes, g1, g2, c3, c4, not_true_eq_false, not_false_eq_true, if_true, if_false, ite_true, ite_false, reduceIte, reduceCtorEq, Classical.not_not]]
      exact x_ret (v := some (.long (pL (sL P 1 i ((pL P 1 i) + n)) 1 i))) rfl rfl rfl (pQ_0 (R.less (by omega) (by omega)))
    · replace c4 := bI_0.mp (Classical.not_not.mp c4)
      rw [show o_owes P i n = (6, none, P) from by simp only [o_owes, g1, g2, c3, c4, not_true_eq_false, not_false_eq_true, if_true, if_false, ite_true, ite_false, reduceIte, reduceCtorEq, Classical.not_not]]
      exact pQ_th (x_throw (R.less (v' := v) (Nat.le_refl _) (by omega)) rfl rfl rfl rfl rfl rfl rfl rfl (by omega)) (by decide)
theorem c_contest (R : Rep (u + 1) v X P M z h) (hi : i < pn P) : Wx (d + 7) 6 0 (lv_args 0 [.ref (X.1 0), .int (nI i)]) [] h (pQ (RP u v X M z) (o_contest P i)) := by
  show Wx _ _ 0 [(0, .ref (X.1 0)), (1, .int (nI i))] [] h _
  refine x_run 2 (pc' := 2) (lv' := [(0, .ref (X.1 0)), (1, .int (nI i))]) (st' := [.int (nI i), .ref (X.1 0)]) rfl ?_
  refine x_rd (v := .ref (X.1 (100 + i))) (k' := 21) (as := [.ref (X.1 0), .int (nI i)]) (rest := []) (x_isV (np := 1) rfl rfl rfl R.c0 rfl) (c_claimAt R hi) ?_
  refine x_run 2 (pc' := 7) (lv' := [(2, .ref (X.1 (100 + i))), (0, .ref (X.1 0)), (1, .int (nI i))]) (st' := [.ref (X.1 0)]) rfl ?_
  by_cases g1 : ¬ pI P 4 0 = 0
  · rw [show o_contest P i = (6, none, P) from by simp only [o_contest, g1, not_true_eq_false, not_false_eq_true, if_true, if_false, ite_true, ite_false, reduceIte, reduceCtorEq, Classical.not_not]]
    exact x_up (k' := 18) (as := [.ref (X.1 0)]) (rest := []) (x_isV (np := 0) rfl rfl rfl R.c0 rfl) rfl (c_liveX R g1) (fun r e => pQ_x (by decide) (e.imp fun a q => ⟨q.1, q.2.less (Nat.le_refl _) (by omega)⟩))
  refine x_rd0 (k' := 18) (as := [.ref (X.1 0)]) (rest := []) (x_isV (np := 0) rfl rfl rfl R.c0 rfl) (c_live R (Classical.not_not.mp g1)) ?_
  refine x_run 1 (pc' := 11) (lv' := [(2, .ref (X.1 (100 + i))), (0, .ref (X.1 0)), (1, .int (nI i))]) (st' := [.ref (X.1 (100 + i))]) rfl ?_
  refine x_get (v := .int (pI P 0 i)) rfl rfl (R.cC hi) rfl ?_
  refine x_if (c := ¬ pI P 0 i = 0) (t := 24) rfl rfl (fun c2 => ?_) (fun c2 => ?_)
  · rw [show o_contest P i = (6, none, P) from by simp only [o_contest, g1, c2, not_true_eq_false, not_false_eq_true, if_true, if_false, ite_true, ite_false, reduceIte, reduceCtorEq, Classical.not_not]]
    exact pQ_th (x_throw (R.less (v' := v) (Nat.le_refl _) (by omega)) rfl rfl rfl rfl rfl rfl rfl rfl (by omega)) (by decide)
  · refine x_run 1 (pc' := 18) (lv' := [(2, .ref (X.1 (100 + i))), (0, .ref (X.1 0)), (1, .int (nI i))]) (st' := [.ref (X.1 (100 + i))]) rfl ?_
    refine x_rd (v := .int (bI (p_fresh P i))) (k' := 41) (as := [.ref (X.1 (100 + i))]) (rest := []) (x_isV (np := 0) rfl rfl rfl (R.cC hi) rfl) (c_fresh R hi) ?_
    refine x_if (c := ¬ bI (p_fresh P i) = 0) (t := 34) rfl rfl (fun c3 => ?_) (fun c3 => ?_)
    · replace c3 := bI_n0 c3
      refine x_run 2 (pc' := 36) (lv' := [(2, .ref (X.1 (100 + i))), (0, .ref (X.1 0)), (1, .int (nI i))]) (st' := [.int (1), .ref (X.1 (100 + i))]) rfl ?_
      refine x_put rfl rfl (R.cC hi) rfl ?_
      refine gen_h (A := Rep (u + 1) v X (sI P 0 i (1)) M z) (R.uState hi _) (fun h R => ?_)
      rw [show o_contest P i = (0, none, sI P 0 i (1)) from by simp only [o_contest, g1, c2, c3, not_true_eq_false, not_false_eq_true, if_true, if_false, ite_true, ite_false, reduceIte, reduceCtorEq, Classical.not_not]]
      exact x_ret (v := none) rfl rfl rfl (pQ_0 (R.less (by omega) (by omega)))
    · replace c3 := bI_0.mp (Classical.not_not.mp c3)
      rw [show o_contest P i = (6, none, P) from by simp only [o_contest, g1, c2, c3, not_true_eq_false, not_false_eq_true, if_true, if_false, ite_true, ite_false, reduceIte, reduceCtorEq, Classical.not_not]]
      exact pQ_th (x_throw (R.less (v' := v) (Nat.le_refl _) (by omega)) rfl rfl rfl rfl rfl rfl rfl rfl (by omega)) (by decide)
theorem c_cost (R : Rep (u + 1) (v + 1) X P M z h) (n : Int64) : Wx (d + 7) 8 0 (lv_args 0 [.ref (X.1 0), .long (n)]) [] h (pQ (RP u v X M z) (o_cost P n)) := by
  show Wx _ _ 0 [(0, .ref (X.1 0)), (1, .long (n))] [] h _
  refine x_run 2 (pc' := 2) (lv' := [(0, .ref (X.1 0)), (1, .long (n))]) (st' := [.long (0), .long (n)]) rfl ?_
  rcases g_two (g_cents n 0) with g1 | g1
  · rw [show o_cost P n = (5, none, P) from by simp only [o_cost, g1, not_true_eq_false, not_false_eq_true, if_true, if_false, ite_true, ite_false, reduceIte, reduceCtorEq, Classical.not_not]]
    exact x_up (k' := 20) (as := [.long (n), .long (0)]) (rest := []) (x_isS (np := 2) rfl rfl rfl rfl rfl) rfl (c_centsX R g1) (fun r e => pQ_x (by decide) (e.imp fun a q => ⟨q.1, q.2.less (Nat.le_refl _) (by omega)⟩))
  refine x_rd0 (k' := 20) (as := [.long (n), .long (0)]) (rest := []) (x_isS (np := 2) rfl rfl rfl rfl rfl) (c_cents R g1) ?_
  refine x_run 1 (pc' := 6) (lv' := [(0, .ref (X.1 0)), (1, .long (n))]) (st' := [.ref (X.1 0)]) rfl ?_
  by_cases g2 : ¬ pI P 4 0 = 0
  · rw [show o_cost P n = (6, none, P) from by simp only [o_cost, g1, g2, not_true_eq_false, not_false_eq_true, if_true, if_false, ite_true, ite_false, reduceIte, reduceCtorEq, Classical.not_not]]
    exact x_up (k' := 18) (as := [.ref (X.1 0)]) (rest := []) (x_isV (np := 0) rfl rfl rfl R.c0 rfl) rfl (c_liveX R g2) (fun r e => pQ_x (by decide) (e.imp fun a q => ⟨q.1, q.2.less (Nat.le_refl _) (by omega)⟩))
  refine x_rd0 (k' := 18) (as := [.ref (X.1 0)]) (rest := []) (x_isV (np := 0) rfl rfl rfl R.c0 rfl) (c_live R (Classical.not_not.mp g2)) ?_
  refine x_run 1 (pc' := 10) (lv' := [(0, .ref (X.1 0)), (1, .long (n))]) (st' := [.ref (X.1 0)]) rfl ?_
  refine x_get (v := .long (pL P 7 0)) rfl rfl R.c0 rfl ?_
  refine x_run 1 (pc' := 14) (lv' := [(0, .ref (X.1 0)), (1, .long (n))]) (st' := [.long (n), .long (pL P 7 0)]) rfl ?_
  refine x_lge (t := 28) rfl rfl rfl (fun c3 => ?_) (fun c3 => ?_)
  · refine x_run 2 (pc' := 30) (lv' := [(0, .ref (X.1 0)), (1, .long (n))]) (st' := [.ref (X.1 0), .ref (X.1 0)]) rfl ?_
    refine x_get (v := .long (pL P 7 0)) rfl rfl R.c0 rfl ?_
    refine x_run 2 (pc' := 35) (lv' := [(0, .ref (X.1 0)), (1, .long (n))]) (st' := [.long ((pL P 7 0) - n), .ref (X.1 0)]) rfl ?_
    refine x_put rfl rfl R.c0 rfl ?_
    refine gen_h (A := Rep (u + 1) (v + 1) X (sL P 7 0 ((pL P 7 0) - n)) M z) (R.uCash _) (fun h R => ?_)
    refine x_run 2 (pc' := 40) (lv' := [(0, .ref (X.1 0)), (1, .long (n))]) (st' := [.ref (X.1 0), .ref (X.1 0)]) rfl ?_
    refine x_get (v := .long (pL P 7 2)) rfl rfl R.c0 rfl ?_
    refine x_run 2 (pc' := 45) (lv' := [(0, .ref (X.1 0)), (1, .long (n))]) (st' := [.long ((pL P 7 2) + n), .ref (X.1 0)]) rfl ?_
    refine x_put rfl rfl R.c0 rfl ?_
    refine gen_h (A := Rep (u + 1) (v + 1) X (sL (sL P 7 0 ((pL P 7 0) - n)) 7 2 ((pL P 7 2) + n)) M z) (R.uSpent _) (fun h R => ?_)
    refine x_run 1 (pc' := 49) (lv' := [(0, .ref (X.1 0)), (1, .long (n))]) (st' := [.ref (X.1 0)]) rfl ?_
    refine x_get (v := .ref (X.1 4)) rfl rfl R.c0 rfl ?_
    refine x_run 3 (pc' := 55) (lv' := [(0, .ref (X.1 0)), (1, .long (n))]) (st' := [.long (n), .int (-1), .int (3), .ref (X.1 4)]) rfl ?_
    refine x_wr0 (A := Rep (u + 1) v X (p_note (sL (sL P 7 0 ((pL P 7 0) - n)) 7 2 ((pL P 7 2) + n)) 3 (-1) n) M z) (k' := 51) (as := [.ref (X.1 4), .int (3), .int (-1), .long (n)]) (rest := []) (x_isV (np := 3) rfl rfl rfl R.c4 rfl) (c_note R _ _ _) (fun h R => ?_)
    refine x_run 1 (pc' := 59) (lv' := [(0, .ref (X.1 0)), (1, .long (n))]) (st' := [.ref (X.1 0)]) rfl ?_
    refine x_get (v := .long ((pL P 7 0) - n)) rfl rfl R.c0 rfl ?_
    rw [show o_cost P n = (0, some (.long ((pL P 7 0) - n)), p_note (sL (sL P 7 0 ((pL P 7 0) - n)) 7 2 ((pL P 7 2) + n)) 3 (-1) n) from by simp only [o_cost, g1, g2, c3, not_true_eq_false, not_false_eq_true, if_true, if_false, ite_true, ite_false, reduceIte, reduceCtorEq, Classical.not_not]]
    exact x_ret (v := some (.long ((pL P 7 0) - n))) rfl rfl rfl (pQ_0 (R.less (by omega) (by omega)))
  · rw [show o_cost P n = (6, none, P) from by simp only [o_cost, g1, g2, c3, not_true_eq_false, not_false_eq_true, if_true, if_false, ite_true, ite_false, reduceIte, reduceCtorEq, Classical.not_not]]
    exact pQ_th (x_throw (R.less (v' := v) (Nat.le_refl _) (by omega)) rfl rfl rfl rfl rfl rfl rfl rfl (by omega)) (by decide)
theorem c_settle (R : Rep (u + 1) (v + 1 + 1) X P M z h) (hi : i < pn P) (n : Int64) : Wx (d + 7) 7 0 (lv_args 0 [.ref (X.1 0), .int (nI i), .long (n)]) [] h (pQ (RP u v X M z) (o_settle p_open P i n)) := by
  show Wx _ _ 0 [(0, .ref (X.1 0)), (1, .int (nI i)), (2, .long (n))] [] h _
  refine x_run 2 (pc' := 2) (lv' := [(0, .ref (X.1 0)), (1, .int (nI i)), (2, .long (n))]) (st' := [.int (nI i), .ref (X.1 0)]) rfl ?_
  refine x_rd (v := .ref (X.1 (100 + i))) (k' := 21) (as := [.ref (X.1 0), .int (nI i)]) (rest := []) (x_isV (np := 1) rfl rfl rfl R.c0 rfl) (c_claimAt R hi) ?_
  refine x_run 3 (pc' := 9) (lv' := [(4, .ref (X.1 (100 + i))), (0, .ref (X.1 0)), (1, .int (nI i)), (2, .long (n))]) (st' := [.long (0), .long (n)]) rfl ?_
  refine x_llt (t := 23) rfl rfl rfl (fun c1 => ?_) (fun c1 => ?_)
  · rw [show o_settle p_open P i n = (5, none, P) from by simp only [o_settle, p_set, c1, not_true_eq_false, not_false_eq_true, if_true, if_false, ite_true, ite_false, reduceIte, reduceCtorEq, Classical.not_not]]
    exact pQ_th (x_throw (R.less (v' := v) (Nat.le_refl _) (by omega)) rfl rfl rfl rfl rfl rfl rfl rfl (by omega)) (by decide)
  · refine x_run 2 (pc' := 16) (lv' := [(4, .ref (X.1 (100 + i))), (0, .ref (X.1 0)), (1, .int (nI i)), (2, .long (n))]) (st' := [.ref (X.1 (100 + i)), .long (n)]) rfl ?_
    refine x_get (v := .long (pL P 0 i)) rfl rfl (R.cC hi) rfl ?_
    refine x_lle (t := 33) rfl rfl rfl (fun c2 => ?_) (fun c2 => ?_)
    · refine x_run 1 (pc' := 34) (lv' := [(4, .ref (X.1 (100 + i))), (0, .ref (X.1 0)), (1, .int (nI i)), (2, .long (n))]) (st' := [.ref (X.1 0)]) rfl ?_
      by_cases g3 : ¬ pI P 4 0 = 0
      · rw [show o_settle p_open P i n = (6, none, P) from by simp only [o_settle, p_set, c1, c2, g3, not_true_eq_false, not_false_eq_true, if_true, if_false, ite_true, ite_false, reduceIte, reduceCtorEq, Classical.not_not]]
        exact x_up (k' := 18) (as := [.ref (X.1 0)]) (rest := []) (x_isV (np := 0) rfl rfl rfl R.c0 rfl) rfl (c_liveX R g3) (fun r e => pQ_x (by decide) (e.imp fun a q => ⟨q.1, q.2.less (Nat.le_refl _) (by omega)⟩))
      refine x_rd0 (k' := 18) (as := [.ref (X.1 0)]) (rest := []) (x_isV (np := 0) rfl rfl rfl R.c0 rfl) (c_live R (Classical.not_not.mp g3)) ?_
      refine x_run 1 (pc' := 39) (lv' := [(4, .ref (X.1 (100 + i))), (0, .ref (X.1 0)), (1, .int (nI i)), (2, .long (n))]) (st' := [.ref (X.1 (100 + i))]) rfl ?_
      refine x_get (v := .int (pI P 0 i)) rfl rfl (R.cC hi) rfl ?_
      refine x_run 1 (pc' := 43) (lv' := [(4, .ref (X.1 (100 + i))), (0, .ref (X.1 0)), (1, .int (nI i)), (2, .long (n))]) (st' := [.int (1), .int (pI P 0 i)]) rfl ?_
      refine x_if (c := pI P 0 i = 1) (t := 56) rfl rfl (fun c4 => ?_) (fun c4 => ?_)
      · refine x_run 2 (pc' := 58) (lv' := [(4, .ref (X.1 (100 + i))), (0, .ref (X.1 0)), (1, .int (nI i)), (2, .long (n))]) (st' := [.long (0), .long (n)]) rfl ?_
        refine x_lne (t := 71) rfl rfl rfl (fun c5 => ?_) (fun c5 => ?_)
        · refine x_run 2 (pc' := 74) (lv' := [(4, .ref (X.1 (100 + i))), (0, .ref (X.1 0)), (1, .int (nI i)), (2, .long (n))]) (st' := [.int (0), .ref (X.1 (100 + i))]) rfl ?_
          refine x_put rfl rfl (R.cC hi) rfl ?_
          refine gen_h (A := Rep (u + 1) (v + 1 + 1) X (sI P 0 i (0)) M z) (R.uState hi _) (fun h R => ?_)
          refine x_run 2 (pc' := 80) (lv' := [(4, .ref (X.1 (100 + i))), (0, .ref (X.1 0)), (1, .int (nI i)), (2, .long (n))]) (st' := [.long (n), .ref (X.1 (100 + i))]) rfl ?_
          refine x_put rfl rfl (R.cC hi) rfl ?_
          refine gen_h (A := Rep (u + 1) (v + 1 + 1) X (sL (sI P 0 i (0)) 0 i (n)) M z) (R.uAmount hi _) (fun h R => ?_)
          refine x_run 1 (pc' := 85) (lv' := [(4, .ref (X.1 (100 + i))), (0, .ref (X.1 0)), (1, .int (nI i)), (2, .long (n))]) (st' := [.ref (X.1 (100 + i))]) rfl ?_
          refine x_rd (v := .int (bI (p_open (sL (sI P 0 i (0)) 0 i (n)) i))) (k' := 40) (as := [.ref (X.1 (100 + i))]) (rest := []) (x_isV (np := 0) rfl rfl rfl (R.cC hi) rfl) (c_open R hi) ?_
          refine x_if (c := bI (p_open (sL (sI P 0 i (0)) 0 i (n)) i) = 0) (t := 115) rfl rfl (fun c6 => ?_) (fun c6 => ?_)
          · replace c6 := bI_0.mp c6
            refine x_run 2 (pc' := 118) (lv' := [(4, .ref (X.1 (100 + i))), (0, .ref (X.1 0)), (1, .int (nI i)), (2, .long (n))]) (st' := [.ref (X.1 (100 + i)), .ref (X.1 0)]) rfl ?_
            refine x_wr (v := .long (p_resV (p_open (sL (sI P 0 i (0)) 0 i (n)) i) (sL (sI P 0 i (0)) 0 i (n)) i)) (A := Rep (u + 1) v X (p_resolve (p_open (sL (sI P 0 i (0)) 0 i (n)) i) (sL (sI P 0 i (0)) 0 i (n)) i) M z) (k' := 29) (as := [.ref (X.1 0), .ref (X.1 (100 + i))]) (rest := []) (x_isV (np := 1) rfl rfl rfl R.c0 rfl) (c_resolve R hi) (fun h R => ?_)
            have e1 : p_set P i n = sL (sI P 0 i (0)) 0 i (n) := if_neg c5
            rw [show o_settle p_open P i n = (0, some (.long (p_resV (p_open (sL (sI P 0 i (0)) 0 i (n)) i) (sL (sI P 0 i (0)) 0 i (n)) i)), p_resolve (p_open (sL (sI P 0 i (0)) 0 i (n)) i) (sL (sI P 0 i (0)) 0 i (n)) i) from by rw [o_settle, if_neg c1, if_neg (not_not_intro c2), if_neg g3, if_neg (not_not_intro c4), e1]; (rw [if_neg (fun e => absurd (c6.symm.trans e) (by decide))]) <;> rfl]
            exact x_ret (v := some (.long (p_resV (p_open (sL (sI P 0 i (0)) 0 i (n)) i) (sL (sI P 0 i (0)) 0 i (n)) i))) rfl rfl rfl (pQ_0 (R.less (by omega) (by omega)))
          · replace c6 := bI_n0 c6
            refine x_run 4 (pc' := 97) (lv' := [(4, .ref (X.1 (100 + i))), (0, .ref (X.1 0)), (1, .int (nI i)), (2, .long (n))]) (st' := [.ref (X.1 (100 + i)), .long (0), .ref (X.1 (100 + i)), .ref (X.1 0)]) rfl ?_
            refine x_get (v := .long (pL P 4 i)) rfl rfl (R.cC hi) rfl ?_
            refine x_run 2 (pc' := 103) (lv' := [(4, .ref (X.1 (100 + i))), (0, .ref (X.1 0)), (1, .int (nI i)), (2, .long (n))]) (st' := [.ref (X.1 (100 + i)), .ref (X.1 0), .long (pL P 4 i), .long (0), .ref (X.1 (100 + i)), .ref (X.1 0)]) rfl ?_
            refine x_rd (v := .long (p_dueOf (sL (sI P 0 i (0)) 0 i (n)) i)) (k' := 23) (as := [.ref (X.1 0), .ref (X.1 (100 + i))]) (rest := [.long (pL P 4 i), .long (0), .ref (X.1 (100 + i)), .ref (X.1 0)]) (x_isV (np := 1) rfl rfl rfl R.c0 rfl) (c_dueOf R hi) ?_
            refine x_run 1 (pc' := 107) (lv' := [(4, .ref (X.1 (100 + i))), (0, .ref (X.1 0)), (1, .int (nI i)), (2, .long (n))]) (st' := [.long ((pL P 4 i) - (p_dueOf (sL (sI P 0 i (0)) 0 i (n)) i)), .long (0), .ref (X.1 (100 + i)), .ref (X.1 0)]) rfl ?_
            refine x_max rfl rfl rfl ?_
            refine x_wr0 (A := Rep (u + 1) (v + 1) X (p_release (sL (sI P 0 i (0)) 0 i (n)) i (if (pL P 4 i) - (p_dueOf (sL (sI P 0 i (0)) 0 i (n)) i) < 0 then 0 else (pL P 4 i) - (p_dueOf (sL (sI P 0 i (0)) 0 i (n)) i))) M z) (k' := 30) (as := [.ref (X.1 0), .ref (X.1 (100 + i)), .long (if (pL P 4 i) - (p_dueOf (sL (sI P 0 i (0)) 0 i (n)) i) < 0 then 0 else (pL P 4 i) - (p_dueOf (sL (sI P 0 i (0)) 0 i (n)) i))]) (rest := []) (x_isV (np := 2) rfl rfl rfl R.c0 rfl) (c_release R hi _) (fun h R => ?_)
            refine x_run 1 (pc' := 114) (lv' := [(4, .ref (X.1 (100 + i))), (0, .ref (X.1 0)), (1, .int (nI i)), (2, .long (n))]) (st' := [.long (0)]) rfl ?_
            have e1 : p_set P i n = sL (sI P 0 i (0)) 0 i (n) := if_neg c5
            rw [show o_settle p_open P i n = (0, some (.long (0)), p_release (sL (sI P 0 i (0)) 0 i (n)) i (if (pL P 4 i) - (p_dueOf (sL (sI P 0 i (0)) 0 i (n)) i) < 0 then 0 else (pL P 4 i) - (p_dueOf (sL (sI P 0 i (0)) 0 i (n)) i))) from by rw [o_settle, if_neg c1, if_neg (not_not_intro c2), if_neg g3, if_neg (not_not_intro c4), e1]; (rw [if_pos c6]) <;> rfl]
            exact x_ret (v := some (.long (0))) rfl rfl rfl (pQ_0 (R.less (by omega) (by omega)))
        · refine x_run 2 (pc' := 65) (lv' := [(4, .ref (X.1 (100 + i))), (0, .ref (X.1 0)), (1, .int (nI i)), (2, .long (n))]) (st' := [.int (2), .ref (X.1 (100 + i))]) rfl ?_
          refine x_put rfl rfl (R.cC hi) rfl ?_
          refine gen_h (A := Rep (u + 1) (v + 1 + 1) X (sI P 0 i (2)) M z) (R.uState hi _) (fun h R => ?_)
          refine x_run 2 (pc' := 85) (lv' := [(4, .ref (X.1 (100 + i))), (0, .ref (X.1 0)), (1, .int (nI i)), (2, .long (n))]) (st' := [.ref (X.1 (100 + i))]) rfl ?_
          refine x_rd (v := .int (bI (p_open (sI P 0 i (2)) i))) (k' := 40) (as := [.ref (X.1 (100 + i))]) (rest := []) (x_isV (np := 0) rfl rfl rfl (R.cC hi) rfl) (c_open R hi) ?_
          refine x_if (c := bI (p_open (sI P 0 i (2)) i) = 0) (t := 115) rfl rfl (fun c7 => ?_) (fun c7 => ?_)
          · replace c7 := bI_0.mp c7
            refine x_run 2 (pc' := 118) (lv' := [(4, .ref (X.1 (100 + i))), (0, .ref (X.1 0)), (1, .int (nI i)), (2, .long (n))]) (st' := [.ref (X.1 (100 + i)), .ref (X.1 0)]) rfl ?_
            refine x_wr (v := .long (p_resV (p_open (sI P 0 i (2)) i) (sI P 0 i (2)) i)) (A := Rep (u + 1) v X (p_resolve (p_open (sI P 0 i (2)) i) (sI P 0 i (2)) i) M z) (k' := 29) (as := [.ref (X.1 0), .ref (X.1 (100 + i))]) (rest := []) (x_isV (np := 1) rfl rfl rfl R.c0 rfl) (c_resolve R hi) (fun h R => ?_)
            have e1 : p_set P i n = sI P 0 i (2) := if_pos c5
            rw [show o_settle p_open P i n = (0, some (.long (p_resV (p_open (sI P 0 i (2)) i) (sI P 0 i (2)) i)), p_resolve (p_open (sI P 0 i (2)) i) (sI P 0 i (2)) i) from by rw [o_settle, if_neg c1, if_neg (not_not_intro c2), if_neg g3, if_neg (not_not_intro c4), e1]; (rw [if_neg (fun e => absurd (c7.symm.trans e) (by decide))]) <;> rfl]
            exact x_ret (v := some (.long (p_resV (p_open (sI P 0 i (2)) i) (sI P 0 i (2)) i))) rfl rfl rfl (pQ_0 (R.less (by omega) (by omega)))
          · replace c7 := bI_n0 c7
            refine x_run 4 (pc' := 97) (lv' := [(4, .ref (X.1 (100 + i))), (0, .ref (X.1 0)), (1, .int (nI i)), (2, .long (n))]) (st' := [.ref (X.1 (100 + i)), .long (0), .ref (X.1 (100 + i)), .ref (X.1 0)]) rfl ?_
            refine x_get (v := .long (pL P 4 i)) rfl rfl (R.cC hi) rfl ?_
            refine x_run 2 (pc' := 103) (lv' := [(4, .ref (X.1 (100 + i))), (0, .ref (X.1 0)), (1, .int (nI i)), (2, .long (n))]) (st' := [.ref (X.1 (100 + i)), .ref (X.1 0), .long (pL P 4 i), .long (0), .ref (X.1 (100 + i)), .ref (X.1 0)]) rfl ?_
            refine x_rd (v := .long (p_dueOf (sI P 0 i (2)) i)) (k' := 23) (as := [.ref (X.1 0), .ref (X.1 (100 + i))]) (rest := [.long (pL P 4 i), .long (0), .ref (X.1 (100 + i)), .ref (X.1 0)]) (x_isV (np := 1) rfl rfl rfl R.c0 rfl) (c_dueOf R hi) ?_
            refine x_run 1 (pc' := 107) (lv' := [(4, .ref (X.1 (100 + i))), (0, .ref (X.1 0)), (1, .int (nI i)), (2, .long (n))]) (st' := [.long ((pL P 4 i) - (p_dueOf (sI P 0 i (2)) i)), .long (0), .ref (X.1 (100 + i)), .ref (X.1 0)]) rfl ?_
            refine x_max rfl rfl rfl ?_
            refine x_wr0 (A := Rep (u + 1) (v + 1) X (p_release (sI P 0 i (2)) i (if (pL P 4 i) - (p_dueOf (sI P 0 i (2)) i) < 0 then 0 else (pL P 4 i) - (p_dueOf (sI P 0 i (2)) i))) M z) (k' := 30) (as := [.ref (X.1 0), .ref (X.1 (100 + i)), .long (if (pL P 4 i) - (p_dueOf (sI P 0 i (2)) i) < 0 then 0 else (pL P 4 i) - (p_dueOf (sI P 0 i (2)) i))]) (rest := []) (x_isV (np := 2) rfl rfl rfl R.c0 rfl) (c_release R hi _) (fun h R => ?_)
            refine x_run 1 (pc' := 114) (lv' := [(4, .ref (X.1 (100 + i))), (0, .ref (X.1 0)), (1, .int (nI i)), (2, .long (n))]) (st' := [.long (0)]) rfl ?_
            have e1 : p_set P i n = sI P 0 i (2) := if_pos c5
            rw [show o_settle p_open P i n = (0, some (.long (0)), p_release (sI P 0 i (2)) i (if (pL P 4 i) - (p_dueOf (sI P 0 i (2)) i) < 0 then 0 else (pL P 4 i) - (p_dueOf (sI P 0 i (2)) i))) from by rw [o_settle, if_neg c1, if_neg (not_not_intro c2), if_neg g3, if_neg (not_not_intro c4), e1]; (rw [if_pos c7]) <;> rfl]
            exact x_ret (v := some (.long (0))) rfl rfl rfl (pQ_0 (R.less (by omega) (by omega)))
      · rw [show o_settle p_open P i n = (6, none, P) from by simp only [o_settle, p_set, c1, c2, g3, c4, not_true_eq_false, not_false_eq_true, if_true, if_false, ite_true, ite_false, reduceIte, reduceCtorEq, Classical.not_not]]
        exact pQ_th (x_throw (R.less (v' := v) (Nat.le_refl _) (by omega)) rfl rfl rfl rfl rfl rfl rfl rfl (by omega)) (by decide)
    · rw [show o_settle p_open P i n = (5, none, P) from by simp only [o_settle, p_set, c1, c2, not_true_eq_false, not_false_eq_true, if_true, if_false, ite_true, ite_false, reduceIte, reduceCtorEq, Classical.not_not]]
      exact pQ_th (x_throw (R.less (v' := v) (Nat.le_refl _) (by omega)) rfl rfl rfl rfl rfl rfl rfl rfl (by omega)) (by decide)
theorem c_div  {r p : Nat} (R : Rep (u + 1) (v + 60 * (r + 1)) X P M z h) (hr : r < 8) (h1 : 1 ≤ p) (h2 : p ≤ 10000) : Wx (d + 7) 9 0 (lv_args 0 [.ref (X.1 0), .int (nI r), .int (nI p)]) [] h (pQ (RP u v X M z) (o_div p_open P r p)) := by
  have p4 := R.wP.pc r
  show Wx _ _ 0 [(0, .ref (X.1 0)), (1, .int (nI r)), (2, .int (nI p))] [] h _
  refine x_run 1 (pc' := 1) (lv' := [(0, .ref (X.1 0)), (1, .int (nI r)), (2, .int (nI p))]) (st' := [.int (nI r)]) rfl ?_
  refine x_rd0 (k' := 19) (as := [.int (nI r)]) (rest := []) (x_isS (np := 1) rfl rfl rfl rfl rfl) (c_rank R hr) ?_
  refine x_run 2 (pc' := 6) (lv' := [(0, .ref (X.1 0)), (1, .int (nI r)), (2, .int (nI p))]) (st' := [.int (1), .int (nI p)]) rfl ?_
  refine x_if (c := nI p < nI 1) (t := 16) rfl rfl (fun c1 => ?_) (fun c1 => ?_)
  · replace c1 := (nI_ltI (by omega) (by omega)).mp c1
    omega
  · replace c1 := mt (nI_ltI (by omega) (by omega)).mpr c1
    refine x_run 2 (pc' := 13) (lv' := [(0, .ref (X.1 0)), (1, .int (nI r)), (2, .int (nI p))]) (st' := [.int (10000), .int (nI p)]) rfl ?_
    refine x_if (c := nI p ≤ nI 10000) (t := 26) rfl rfl (fun c2 => ?_) (fun c2 => ?_)
    · replace c2 := (nI_leI (by omega) (by omega)).mp c2
      refine x_run 1 (pc' := 27) (lv' := [(0, .ref (X.1 0)), (1, .int (nI r)), (2, .int (nI p))]) (st' := [.ref (X.1 0)]) rfl ?_
      by_cases g3 : ¬ pI P 4 0 = 0
      · rw [show o_div p_open P r p = (6, none, P) from by simp only [o_div, c1, c2, g3, not_true_eq_false, not_false_eq_true, if_true, if_false, ite_true, ite_false, reduceIte, reduceCtorEq, Classical.not_not]]
        exact x_up (k' := 18) (as := [.ref (X.1 0)]) (rest := []) (x_isV (np := 0) rfl rfl rfl R.c0 rfl) rfl (c_liveX R g3) (fun r e => pQ_x (by decide) (e.imp fun a q => ⟨q.1, q.2.less (Nat.le_refl _) (by omega)⟩))
      refine x_rd0 (k' := 18) (as := [.ref (X.1 0)]) (rest := []) (x_isV (np := 0) rfl rfl rfl R.c0 rfl) (c_live R (Classical.not_not.mp g3)) ?_
      refine x_run 2 (pc' := 32) (lv' := [(0, .ref (X.1 0)), (1, .int (nI r)), (2, .int (nI p))]) (st' := [.ref (X.1 0), .int (nI p)]) rfl ?_
      refine x_get (v := .ref (X.1 3)) rfl rfl R.c0 rfl ?_
      refine x_run 1 (pc' := 36) (lv' := [(0, .ref (X.1 0)), (1, .int (nI r)), (2, .int (nI p))]) (st' := [.int (nI r), .ref (X.1 3), .int (nI p)]) rfl ?_
      refine x_iald (j := r) rfl R.c3 (mm_idx_nI (by omega) (by omega)) ?_
      refine x_if (c := nI p ≤ nI (pN P 3 r)) (t := 48) rfl rfl (fun c4 => ?_) (fun c4 => ?_)
      · replace c4 := (nI_leI (by omega) (by omega)).mp c4
        rw [show o_div p_open P r p = (6, none, P) from by simp only [o_div, c1, c2, g3, c4, not_true_eq_false, not_false_eq_true, if_true, if_false, ite_true, ite_false, reduceIte, reduceCtorEq, Classical.not_not]]
        exact pQ_th (x_throw (R.less (v' := v) (Nat.le_refl _) (by omega)) rfl rfl rfl rfl rfl rfl rfl rfl (by omega)) (by decide)
      · replace c4 := mt (nI_leI (by omega) (by omega)).mpr c4
        refine x_run 2 (pc' := 42) (lv' := [(0, .ref (X.1 0)), (1, .int (nI r)), (2, .int (nI p))]) (st' := [.int (nI r), .ref (X.1 0)]) rfl ?_
        refine x_rd (v := .int (bI (p_blk P r (pn P) 0))) (k' := 24) (as := [.ref (X.1 0), .int (nI r)]) (rest := []) (x_isV (np := 1) rfl rfl rfl R.c0 rfl) (c_blk R hr) ?_
        refine x_if (c := bI (p_blk P r (pn P) 0) = 0) (t := 58) rfl rfl (fun c5 => ?_) (fun c5 => ?_)
        · replace c5 := bI_0.mp c5
          refine x_run 3 (pc' := 61) (lv' := [(0, .ref (X.1 0)), (1, .int (nI r)), (2, .int (nI p))]) (st' := [.int (nI p), .int (nI r), .ref (X.1 0)]) rfl ?_
          refine x_rd (v := .long (p_need P r (nI p) (pn P) 0 0)) (k' := 25) (as := [.ref (X.1 0), .int (nI r), .int (nI p)]) (rest := []) (x_isV (np := 2) rfl rfl rfl R.c0 rfl) (c_need R hr _) ?_
          refine x_run 1 (pc' := 65) (lv' := [(0, .ref (X.1 0)), (1, .int (nI r)), (2, .int (nI p))]) (st' := [.ref (X.1 0), .long (p_need P r (nI p) (pn P) 0 0)]) rfl ?_
          refine x_get (v := .long (pL P 7 0)) rfl rfl R.c0 rfl ?_
          refine x_lle (t := 82) rfl rfl rfl (fun c6 => ?_) (fun c6 => ?_)
          · refine x_run 1 (pc' := 83) (lv' := [(0, .ref (X.1 0)), (1, .int (nI r)), (2, .int (nI p))]) (st' := [.ref (X.1 0)]) rfl ?_
            refine x_get (v := .ref (X.1 3)) rfl rfl R.c0 rfl ?_
            refine x_run 2 (pc' := 88) (lv' := [(0, .ref (X.1 0)), (1, .int (nI r)), (2, .int (nI p))]) (st' := [.int (nI p), .int (nI r), .ref (X.1 3)]) rfl ?_
            refine x_iast (j := r) rfl R.c3 (mm_idx_nI (by omega) (by omega)) ?_
            refine gen_h (A := Rep (u + 1) (v + 60 * (r + 1)) X (sN P 3 r (p)) M z) (R.uPct _ (by omega)) (fun h R => ?_)
            refine x_run 2 (pc' := 91) (lv' := [(0, .ref (X.1 0)), (1, .int (nI r)), (2, .int (nI p))]) (st' := [.int (nI r), .ref (X.1 0)]) rfl ?_
            refine x_wr (v := .long ((p_serveR p_open (r + 1) 0 (sN P 3 r (p)) 0).2)) (A := Rep (u + 1) v X ((p_serveR p_open (r + 1) 0 (sN P 3 r (p)) 0).1) M z) (k' := 26) (as := [.ref (X.1 0), .int (nI r)]) (rest := []) (x_isV (np := 1) rfl rfl rfl R.c0 rfl) (c_through (l := r) R (by omega)) (fun h R => ?_)
            rw [show o_div p_open P r p = (0, some (.long ((p_serveR p_open (r + 1) 0 (sN P 3 r (p)) 0).2)), (p_serveR p_open (r + 1) 0 (sN P 3 r (p)) 0).1) from by simp only [o_div, c1, c2, g3, c4, c5, c6, not_true_eq_false, not_false_eq_true, if_true, if_false, ite_true, ite_false, reduceIte, reduceCtorEq, Classical.not_not]]
            exact x_ret (v := some (.long ((p_serveR p_open (r + 1) 0 (sN P 3 r (p)) 0).2))) rfl rfl rfl (pQ_0 (R.less (by omega) (by omega)))
          · rw [show o_div p_open P r p = (8, none, P) from by simp only [o_div, c1, c2, g3, c4, c5, c6, not_true_eq_false, not_false_eq_true, if_true, if_false, ite_true, ite_false, reduceIte, reduceCtorEq, Classical.not_not]]
            exact pQ_th (x_throw (R.less (v' := v) (Nat.le_refl _) (by omega)) rfl rfl rfl rfl rfl rfl rfl rfl (by omega)) (by decide)
        · replace c5 := bI_n0 c5
          rw [show o_div p_open P r p = (6, none, P) from by simp only [o_div, c1, c2, g3, c4, c5, not_true_eq_false, not_false_eq_true, if_true, if_false, ite_true, ite_false, reduceIte, reduceCtorEq, Classical.not_not]]
          exact pQ_th (x_throw (R.less (v' := v) (Nat.le_refl _) (by omega)) rfl rfl rfl rfl rfl rfl rfl rfl (by omega)) (by decide)
    · replace c2 := mt (nI_leI (by omega) (by omega)).mpr c2
      omega
theorem c_catch (R : Rep (u + 1) (v + 60 * (7 + 1)) X P M z h) : Wx (d + 7) 11 0 (lv_args 0 [.ref (X.1 0)]) [] h (pQ (RP u v X M z) (o_catch p_open P)) := by
  show Wx _ _ 0 [(0, .ref (X.1 0))] [] h _
  refine x_run 1 (pc' := 1) (lv' := [(0, .ref (X.1 0))]) (st' := [.ref (X.1 0)]) rfl ?_
  by_cases g1 : ¬ pI P 4 0 = 0
  · rw [show o_catch p_open P = (6, none, P) from by simp only [o_catch, g1, not_true_eq_false, not_false_eq_true, if_true, if_false, ite_true, ite_false, reduceIte, reduceCtorEq, Classical.not_not]]
    exact x_up (k' := 18) (as := [.ref (X.1 0)]) (rest := []) (x_isV (np := 0) rfl rfl rfl R.c0 rfl) rfl (c_liveX R g1) (fun r e => pQ_x (by decide) (e.imp fun a q => ⟨q.1, q.2.less (Nat.le_refl _) (by omega)⟩))
  refine x_rd0 (k' := 18) (as := [.ref (X.1 0)]) (rest := []) (x_isV (np := 0) rfl rfl rfl R.c0 rfl) (c_live R (Classical.not_not.mp g1)) ?_
  refine x_run 2 (pc' := 7) (lv' := [(0, .ref (X.1 0))]) (st' := [.int (7), .ref (X.1 0)]) rfl ?_
  refine x_wr (v := .long ((p_serveR p_open (7 + 1) 0 P 0).2)) (A := Rep (u + 1) v X ((p_serveR p_open (7 + 1) 0 P 0).1) M z) (k' := 26) (as := [.ref (X.1 0), .int (7)]) (rest := []) (x_isV (np := 1) rfl rfl rfl R.c0 rfl) (c_through (l := 7) R (by omega)) (fun h R => ?_)
  rw [show o_catch p_open P = (0, some (.long ((p_serveR p_open (7 + 1) 0 P 0).2)), (p_serveR p_open (7 + 1) 0 P 0).1) from by simp only [o_catch, g1, not_true_eq_false, not_false_eq_true, if_true, if_false, ite_true, ite_false, reduceIte, reduceCtorEq, Classical.not_not]]
  exact x_ret (v := some (.long ((p_serveR p_open (7 + 1) 0 P 0).2))) rfl rfl rfl (pQ_0 (R.less (by omega) (by omega)))
theorem c_owesX (R : Rep (u + 1) v X P M z h) {q : Int32} (hq : q < 0 ∨ nI (pn P) ≤ q) (n : Int64) : Wx (d + 7) 2 0 (lv_args 0 [.ref (X.1 0), .int (q), .long (n)]) [] h (x_th 7 (Rep u v X P M z)) := by
  show Wx _ _ 0 [(0, .ref (X.1 0)), (1, .int (q)), (2, .long (n))] [] h _
  refine x_run 2 (pc' := 2) (lv' := [(0, .ref (X.1 0)), (1, .int (q)), (2, .long (n))]) (st' := [.int (q), .ref (X.1 0)]) rfl ?_
  exact x_up (k' := 21) (as := [.ref (X.1 0), .int (q)]) (rest := []) (x_isV (np := 1) rfl rfl rfl R.c0 rfl) rfl (c_claimAtX R hq) (fun r e => e)
theorem c_contestX (R : Rep (u + 1) v X P M z h) {q : Int32} (hq : q < 0 ∨ nI (pn P) ≤ q) : Wx (d + 7) 6 0 (lv_args 0 [.ref (X.1 0), .int (q)]) [] h (x_th 7 (Rep u v X P M z)) := by
  show Wx _ _ 0 [(0, .ref (X.1 0)), (1, .int (q))] [] h _
  refine x_run 2 (pc' := 2) (lv' := [(0, .ref (X.1 0)), (1, .int (q))]) (st' := [.int (q), .ref (X.1 0)]) rfl ?_
  exact x_up (k' := 21) (as := [.ref (X.1 0), .int (q)]) (rest := []) (x_isV (np := 1) rfl rfl rfl R.c0 rfl) rfl (c_claimAtX R hq) (fun r e => e)
theorem c_settleX (R : Rep (u + 1) v X P M z h) {q : Int32} (hq : q < 0 ∨ nI (pn P) ≤ q) (n : Int64) : Wx (d + 7) 7 0 (lv_args 0 [.ref (X.1 0), .int (q), .long (n)]) [] h (x_th 7 (Rep u v X P M z)) := by
  show Wx _ _ 0 [(0, .ref (X.1 0)), (1, .int (q)), (2, .long (n))] [] h _
  refine x_run 2 (pc' := 2) (lv' := [(0, .ref (X.1 0)), (1, .int (q)), (2, .long (n))]) (st' := [.int (q), .ref (X.1 0)]) rfl ?_
  exact x_up (k' := 21) (as := [.ref (X.1 0), .int (q)]) (rest := []) (x_isV (np := 1) rfl rfl rfl R.c0 rfl) rfl (c_claimAtX R hq) (fun r e => e)
theorem c_toldX (R : Rep (u + 1) v X P M z h) {q : Int32} (hq : q < 0 ∨ nI (pn P) ≤ q) (w : Int32) : Wx (d + 7) 13 0 (lv_args 0 [.ref (X.1 0), .int (q), .int (w)]) [] h (x_th 7 (Rep u v X P M z)) := by
  show Wx _ _ 0 [(0, .ref (X.1 0)), (1, .int (q)), (2, .int (w))] [] h _
  refine x_run 2 (pc' := 2) (lv' := [(0, .ref (X.1 0)), (1, .int (q)), (2, .int (w))]) (st' := [.int (q), .ref (X.1 0)]) rfl ?_
  exact x_up (k' := 21) (as := [.ref (X.1 0), .int (q)]) (rest := []) (x_isV (np := 1) rfl rfl rfl R.c0 rfl) rfl (c_claimAtX R hq) (fun r e => e)
theorem c_realiseX (R : Rep (u + 1) v X P M z h) {q : Int32} (hq : q < 0 ∨ nI (pa P) ≤ q) (n : Int64) : Wx (d + 7) 5 0 (lv_args 0 [.ref (X.1 0), .int (q), .long (n)]) [] h (x_th 7 (Rep u v X P M z)) := by
  show Wx _ _ 0 [(0, .ref (X.1 0)), (1, .int (q)), (2, .long (n))] [] h _
  refine x_run 2 (pc' := 2) (lv' := [(0, .ref (X.1 0)), (1, .int (q)), (2, .long (n))]) (st' := [.int (q), .ref (X.1 0)]) rfl ?_
  exact x_up (k' := 22) (as := [.ref (X.1 0), .int (q)]) (rest := []) (x_isV (np := 1) rfl rfl rfl R.c0 rfl) rfl (c_assetAtX R hq) (fun r e => e)
theorem c_secureAX (R : Rep (u + 1) v X P M z h) {q : Int32} (hq : q < 0 ∨ nI (pa P) ≤ q) (c : Int32) (n : Int64) : Wx (d + 7) 4 0 (lv_args 0 [.ref (X.1 0), .int (q), .int (c), .long (n)]) [] h (x_th 7 (Rep u v X P M z)) := by
  show Wx _ _ 0 [(0, .ref (X.1 0)), (1, .int (q)), (2, .int (c)), (3, .long (n))] [] h _
  refine x_run 2 (pc' := 2) (lv' := [(0, .ref (X.1 0)), (1, .int (q)), (2, .int (c)), (3, .long (n))]) (st' := [.int (q), .ref (X.1 0)]) rfl ?_
  exact x_up (k' := 22) (as := [.ref (X.1 0), .int (q)]) (rest := []) (x_isV (np := 1) rfl rfl rfl R.c0 rfl) rfl (c_assetAtX R hq) (fun r e => e)
theorem c_secureCX (R : Rep (u + 1) v X P M z h) (hj : j < pa P) {q : Int32} (hq : q < 0 ∨ nI (pn P) ≤ q) (n : Int64) : Wx (d + 7) 4 0 (lv_args 0 [.ref (X.1 0), .int (nI j), .int (q), .long (n)]) [] h (x_th 7 (Rep u v X P M z)) := by
  show Wx _ _ 0 [(0, .ref (X.1 0)), (1, .int (nI j)), (2, .int (q)), (3, .long (n))] [] h _
  refine x_run 2 (pc' := 2) (lv' := [(0, .ref (X.1 0)), (1, .int (nI j)), (2, .int (q)), (3, .long (n))]) (st' := [.int (nI j), .ref (X.1 0)]) rfl ?_
  refine x_rd (v := .ref (X.1 (200 + j))) (k' := 22) (as := [.ref (X.1 0), .int (nI j)]) (rest := []) (x_isV (np := 1) rfl rfl rfl R.c0 rfl) (c_assetAt R hj) ?_
  refine x_run 3 (pc' := 9) (lv' := [(5, .ref (X.1 (200 + j))), (0, .ref (X.1 0)), (1, .int (nI j)), (2, .int (q)), (3, .long (n))]) (st' := [.int (q), .ref (X.1 0)]) rfl ?_
  exact x_up (k' := 21) (as := [.ref (X.1 0), .int (q)]) (rest := []) (x_isV (np := 1) rfl rfl rfl R.c0 rfl) rfl (c_claimAtX R hq) (fun r e => e)
theorem c_claimX (R : Rep (u + 1) v X P M z h) {q : Int32} (hq : q < 0 ∨ 8 ≤ q) (n : Int64) : Wx (d + 7) 1 0 (lv_args 0 [.ref (X.1 0), .int (q), .long (n)]) [] h (x_th 5 (Rep u v X P M z)) := by
  show Wx _ _ 0 [(0, .ref (X.1 0)), (1, .int (q)), (2, .long (n))] [] h _
  refine x_run 1 (pc' := 1) (lv' := [(0, .ref (X.1 0)), (1, .int (q)), (2, .long (n))]) (st' := [.int (q)]) rfl ?_
  exact x_up (k' := 19) (as := [.int (q)]) (rest := []) (x_isS (np := 1) rfl rfl rfl rfl rfl) rfl (c_rankX R hq) (fun r e => e)
theorem c_divX (R : Rep (u + 1) v X P M z h) {q : Int32} (hq : q < 0 ∨ 8 ≤ q) (p : Int32) : Wx (d + 7) 9 0 (lv_args 0 [.ref (X.1 0), .int (q), .int (p)]) [] h (x_th 5 (Rep u v X P M z)) := by
  show Wx _ _ 0 [(0, .ref (X.1 0)), (1, .int (q)), (2, .int (p))] [] h _
  refine x_run 1 (pc' := 1) (lv' := [(0, .ref (X.1 0)), (1, .int (q)), (2, .int (p))]) (st' := [.int (q)]) rfl ?_
  exact x_up (k' := 19) (as := [.int (q)]) (rest := []) (x_isS (np := 1) rfl rfl rfl rfl rfl) rfl (c_rankX R hq) (fun r e => e)
theorem c_greatestX (R : Rep (u + 1) v X P M z h) {q : Int32} (hq : q < 0 ∨ 8 ≤ q) : Wx (d + 7) 10 0 (lv_args 0 [.ref (X.1 0), .int (q)]) [] h (x_th 5 (Rep u v X P M z)) := by
  show Wx _ _ 0 [(0, .ref (X.1 0)), (1, .int (q))] [] h _
  refine x_run 1 (pc' := 1) (lv' := [(0, .ref (X.1 0)), (1, .int (q))]) (st' := [.int (q)]) rfl ?_
  exact x_up (k' := 19) (as := [.int (q)]) (rest := []) (x_isS (np := 1) rfl rfl rfl rfl rfl) rfl (c_rankX R hq) (fun r e => e)
theorem c_percentageX (R : Rep (u + 1) v X P M z h) {q : Int32} (hq : q < 0 ∨ 8 ≤ q) : Wx (d + 7) 14 0 (lv_args 0 [.ref (X.1 0), .int (q)]) [] h (x_th 5 (Rep u v X P M z)) := by
  show Wx _ _ 0 [(0, .ref (X.1 0)), (1, .int (q))] [] h _
  refine x_run 1 (pc' := 1) (lv' := [(0, .ref (X.1 0)), (1, .int (q))]) (st' := [.int (q)]) rfl ?_
  exact x_up (k' := 19) (as := [.int (q)]) (rest := []) (x_isS (np := 1) rfl rfl rfl rfl rfl) rfl (c_rankX R hq) (fun r e => e)
theorem c_divPX (R : Rep (u + 1) v X P M z h) {r : Nat} (hr : r < 8) {p : Int32} (hp : p < 1 ∨ 10000 < p) : Wx (d + 7) 9 0 (lv_args 0 [.ref (X.1 0), .int (nI r), .int (p)]) [] h (x_th 5 (Rep u v X P M z)) := by
  show Wx _ _ 0 [(0, .ref (X.1 0)), (1, .int (nI r)), (2, .int (p))] [] h _
  refine x_run 1 (pc' := 1) (lv' := [(0, .ref (X.1 0)), (1, .int (nI r)), (2, .int (p))]) (st' := [.int (nI r)]) rfl ?_
  refine x_rd0 (k' := 19) (as := [.int (nI r)]) (rest := []) (x_isS (np := 1) rfl rfl rfl rfl rfl) (c_rank R hr) ?_
  refine x_run 2 (pc' := 6) (lv' := [(0, .ref (X.1 0)), (1, .int (nI r)), (2, .int (p))]) (st' := [.int (1), .int (p)]) rfl ?_
  refine x_if (c := p < 1) (t := 16) rfl rfl (fun c1 => ?_) (fun c1 => ?_)
  · exact x_throw R rfl rfl rfl rfl rfl rfl rfl rfl (by omega)
  · refine x_run 2 (pc' := 13) (lv' := [(0, .ref (X.1 0)), (1, .int (nI r)), (2, .int (p))]) (st' := [.int (10000), .int (p)]) rfl ?_
    refine x_if (c := p ≤ 10000) (t := 26) rfl rfl (fun c2 => ?_) (fun c2 => ?_)
    · exact absurd hp (fun e => e.elim c1 (fun e => Int32.not_lt.mpr c2 e))
    · exact x_throw R rfl rfl rfl rfl rfl rfl rfl rfl (by omega)
theorem c_percentage (R : Rep u v X P M z h) {r : Nat} (hr : r < 8) : Wx (d + 1) 14 0 (lv_args 0 [.ref (X.1 0), .int (nI r)]) [] h (fun r0 => r0 = (.inl (some (.int (nI (pN P 3 r)))), h)) := by
  show Wx _ _ 0 [(0, .ref (X.1 0)), (1, .int (nI r))] [] h _
  refine x_run 1 (pc' := 1) (lv' := [(0, .ref (X.1 0)), (1, .int (nI r))]) (st' := [.int (nI r)]) rfl ?_
  refine x_rd0 (k' := 19) (as := [.int (nI r)]) (rest := []) (x_isS (np := 1) rfl rfl rfl rfl rfl) (c_rank R hr) ?_
  refine x_run 1 (pc' := 5) (lv' := [(0, .ref (X.1 0)), (1, .int (nI r))]) (st' := [.ref (X.1 0)]) rfl ?_
  refine x_get (v := .ref (X.1 3)) rfl rfl R.c0 rfl ?_
  refine x_run 1 (pc' := 9) (lv' := [(0, .ref (X.1 0)), (1, .int (nI r))]) (st' := [.int (nI r), .ref (X.1 3)]) rfl ?_
  refine x_iald (j := r) rfl R.c3 (mm_idx_nI (by omega) (by omega)) ?_
  exact x_ret (v := some (.int (nI (pN P 3 r)))) rfl rfl rfl rfl
theorem c_entries (R : Rep u v X P M z h) : Wx (d) 16 0 (lv_args 0 [.ref (X.1 0)]) [] h (fun r0 => r0 = (.inl (some (.int (nI (pj P)))), h)) := by
  show Wx _ _ 0 [(0, .ref (X.1 0))] [] h _
  refine x_run 1 (pc' := 1) (lv' := [(0, .ref (X.1 0))]) (st' := [.ref (X.1 0)]) rfl ?_
  refine x_get (v := .ref (X.1 4)) rfl rfl R.c0 rfl ?_
  refine x_get (v := .int (nI (pj P))) rfl rfl R.c4 rfl ?_
  exact x_ret (v := some (.int (nI (pj P)))) rfl rfl rfl rfl
theorem c_sum0 (R : Rep u v X P M z h) : Wx (d + 1) 15 0 (lv_args 0 [.ref (X.1 0), .int (0)]) [] h (fun r0 => r0 = (.inl (some (.long (pL P 7 0))), h)) := by
  show Wx _ _ 0 [(0, .ref (X.1 0)), (1, .int (0))] [] h _
  refine x_run 1 (pc' := 1) (lv' := [(0, .ref (X.1 0)), (1, .int (0))]) (st' := [.int (0)]) rfl ?_
  refine x_step (pc' := 40) (lv' := [(0, .ref (X.1 0)), (1, .int (0))]) (st' := []) (h' := h) rfl rfl ?_
  refine x_run 1 (pc' := 41) (lv' := [(0, .ref (X.1 0)), (1, .int (0))]) (st' := [.ref (X.1 0)]) rfl ?_
  refine x_get (v := .long (pL P 7 0)) rfl rfl R.c0 rfl ?_
  exact x_ret (v := some (.long (pL P 7 0))) rfl rfl rfl rfl
theorem c_sum1 (R : Rep u v X P M z h) : Wx (d + 1) 15 0 (lv_args 0 [.ref (X.1 0), .int (1)]) [] h (fun r0 => r0 = (.inl (some (.long (p_all P 4 (pn P) 0 0))), h)) := by
  show Wx _ _ 0 [(0, .ref (X.1 0)), (1, .int (1))] [] h _
  refine x_run 1 (pc' := 1) (lv' := [(0, .ref (X.1 0)), (1, .int (1))]) (st' := [.int (1)]) rfl ?_
  refine x_step (pc' := 45) (lv' := [(0, .ref (X.1 0)), (1, .int (1))]) (st' := []) (h' := h) rfl rfl ?_
  refine x_run 1 (pc' := 46) (lv' := [(0, .ref (X.1 0)), (1, .int (1))]) (st' := [.ref (X.1 0)]) rfl ?_
  refine x_rd (v := .long (p_all P 4 (pn P) 0 0)) (k' := 36) (as := [.ref (X.1 0)]) (rest := []) (x_isV (np := 0) rfl rfl rfl R.c0 rfl) (c_all4 R) ?_
  exact x_ret (v := some (.long (p_all P 4 (pn P) 0 0))) rfl rfl rfl rfl
theorem c_sum2 (R : Rep u v X P M z h) : Wx (d + 1) 15 0 (lv_args 0 [.ref (X.1 0), .int (2)]) [] h (fun r0 => r0 = (.inl (some (.long (pL P 7 1))), h)) := by
  show Wx _ _ 0 [(0, .ref (X.1 0)), (1, .int (2))] [] h _
  refine x_run 1 (pc' := 1) (lv' := [(0, .ref (X.1 0)), (1, .int (2))]) (st' := [.int (2)]) rfl ?_
  refine x_step (pc' := 50) (lv' := [(0, .ref (X.1 0)), (1, .int (2))]) (st' := []) (h' := h) rfl rfl ?_
  refine x_run 1 (pc' := 51) (lv' := [(0, .ref (X.1 0)), (1, .int (2))]) (st' := [.ref (X.1 0)]) rfl ?_
  refine x_get (v := .long (pL P 7 1)) rfl rfl R.c0 rfl ?_
  exact x_ret (v := some (.long (pL P 7 1))) rfl rfl rfl rfl
theorem c_sum3 (R : Rep u v X P M z h) : Wx (d + 1) 15 0 (lv_args 0 [.ref (X.1 0), .int (3)]) [] h (fun r0 => r0 = (.inl (some (.long (pL P 7 2))), h)) := by
  show Wx _ _ 0 [(0, .ref (X.1 0)), (1, .int (3))] [] h _
  refine x_run 1 (pc' := 1) (lv' := [(0, .ref (X.1 0)), (1, .int (3))]) (st' := [.int (3)]) rfl ?_
  refine x_step (pc' := 55) (lv' := [(0, .ref (X.1 0)), (1, .int (3))]) (st' := []) (h' := h) rfl rfl ?_
  refine x_run 1 (pc' := 56) (lv' := [(0, .ref (X.1 0)), (1, .int (3))]) (st' := [.ref (X.1 0)]) rfl ?_
  refine x_get (v := .long (pL P 7 2)) rfl rfl R.c0 rfl ?_
  exact x_ret (v := some (.long (pL P 7 2))) rfl rfl rfl rfl
theorem c_sum4 (R : Rep u v X P M z h) : Wx (d + 1) 15 0 (lv_args 0 [.ref (X.1 0), .int (4)]) [] h (fun r0 => r0 = (.inl (some (.long (p_all P 2 (pn P) 0 0))), h)) := by
  show Wx _ _ 0 [(0, .ref (X.1 0)), (1, .int (4))] [] h _
  refine x_run 1 (pc' := 1) (lv' := [(0, .ref (X.1 0)), (1, .int (4))]) (st' := [.int (4)]) rfl ?_
  refine x_step (pc' := 60) (lv' := [(0, .ref (X.1 0)), (1, .int (4))]) (st' := []) (h' := h) rfl rfl ?_
  refine x_run 1 (pc' := 61) (lv' := [(0, .ref (X.1 0)), (1, .int (4))]) (st' := [.ref (X.1 0)]) rfl ?_
  refine x_rd (v := .long (p_all P 2 (pn P) 0 0)) (k' := 37) (as := [.ref (X.1 0)]) (rest := []) (x_isV (np := 0) rfl rfl rfl R.c0 rfl) (c_all2 R) ?_
  exact x_ret (v := some (.long (p_all P 2 (pn P) 0 0))) rfl rfl rfl rfl
theorem c_sum5 (R : Rep u v X P M z h) : Wx (d + 1) 15 0 (lv_args 0 [.ref (X.1 0), .int (5)]) [] h (fun r0 => r0 = (.inl (some (.long (p_all P 3 (pn P) 0 0))), h)) := by
  show Wx _ _ 0 [(0, .ref (X.1 0)), (1, .int (5))] [] h _
  refine x_run 1 (pc' := 1) (lv' := [(0, .ref (X.1 0)), (1, .int (5))]) (st' := [.int (5)]) rfl ?_
  refine x_step (pc' := 65) (lv' := [(0, .ref (X.1 0)), (1, .int (5))]) (st' := []) (h' := h) rfl rfl ?_
  refine x_run 1 (pc' := 66) (lv' := [(0, .ref (X.1 0)), (1, .int (5))]) (st' := [.ref (X.1 0)]) rfl ?_
  refine x_rd (v := .long (p_all P 3 (pn P) 0 0)) (k' := 38) (as := [.ref (X.1 0)]) (rest := []) (x_isV (np := 0) rfl rfl rfl R.c0 rfl) (c_all3 R) ?_
  exact x_ret (v := some (.long (p_all P 3 (pn P) 0 0))) rfl rfl rfl rfl
theorem c_sumX (R : Rep u v X P M z h) {w : Int32} (hw : w.toInt < 0 ∨ 5 < w.toInt) : Wx (d + 1) 15 0 (lv_args 0 [.ref (X.1 0), .int (w)]) [] h (fun r0 => r0 = (.inl (some (.long (-1))), h)) := by
  show Wx _ _ 0 [(0, .ref (X.1 0)), (1, .int (w))] [] h _
  refine x_run 1 (pc' := 1) (lv' := [(0, .ref (X.1 0)), (1, .int (w))]) (st' := [.int (w)]) rfl ?_
  refine x_swd (t := 70) rfl hw rfl ?_
  refine x_ldc2 (x := -1) rfl rfl ?_
  exact x_ret (v := some (.long (-1))) rfl rfl rfl rfl
theorem c_told0 (R : Rep u v X P M z h) (hi : i < pn P) : Wx (d + 4) 13 0 (lv_args 0 [.ref (X.1 0), .int (nI i), .int (0)]) [] h (fun r0 => r0 = (.inl (some (.long ((nI (pN P 0 i)).toInt64))), h)) := by
  show Wx _ _ 0 [(0, .ref (X.1 0)), (1, .int (nI i)), (2, .int (0))] [] h _
  refine x_run 2 (pc' := 2) (lv' := [(0, .ref (X.1 0)), (1, .int (nI i)), (2, .int (0))]) (st' := [.int (nI i), .ref (X.1 0)]) rfl ?_
  refine x_rd (v := .ref (X.1 (100 + i))) (k' := 21) (as := [.ref (X.1 0), .int (nI i)]) (rest := []) (x_isV (np := 1) rfl rfl rfl R.c0 rfl) (c_claimAt R hi) ?_
  refine x_run 2 (pc' := 7) (lv' := [(3, .ref (X.1 (100 + i))), (0, .ref (X.1 0)), (1, .int (nI i)), (2, .int (0))]) (st' := [.int (0)]) rfl ?_
  refine x_step (pc' := 60) (lv' := [(3, .ref (X.1 (100 + i))), (0, .ref (X.1 0)), (1, .int (nI i)), (2, .int (0))]) (st' := []) (h' := h) rfl rfl ?_
  refine x_run 1 (pc' := 61) (lv' := [(3, .ref (X.1 (100 + i))), (0, .ref (X.1 0)), (1, .int (nI i)), (2, .int (0))]) (st' := [.ref (X.1 (100 + i))]) rfl ?_
  refine x_get (v := .int (nI (pN P 0 i))) rfl rfl (R.cC hi) rfl ?_
  refine x_run 1 (pc' := 65) (lv' := [(3, .ref (X.1 (100 + i))), (0, .ref (X.1 0)), (1, .int (nI i)), (2, .int (0))]) (st' := [.long ((nI (pN P 0 i)).toInt64)]) rfl ?_
  exact x_ret (v := some (.long ((nI (pN P 0 i)).toInt64))) rfl rfl rfl rfl
theorem c_told1 (R : Rep u v X P M z h) (hi : i < pn P) : Wx (d + 4) 13 0 (lv_args 0 [.ref (X.1 0), .int (nI i), .int (1)]) [] h (fun r0 => r0 = (.inl (some (.long ((pI P 0 i).toInt64))), h)) := by
  show Wx _ _ 0 [(0, .ref (X.1 0)), (1, .int (nI i)), (2, .int (1))] [] h _
  refine x_run 2 (pc' := 2) (lv' := [(0, .ref (X.1 0)), (1, .int (nI i)), (2, .int (1))]) (st' := [.int (nI i), .ref (X.1 0)]) rfl ?_
  refine x_rd (v := .ref (X.1 (100 + i))) (k' := 21) (as := [.ref (X.1 0), .int (nI i)]) (rest := []) (x_isV (np := 1) rfl rfl rfl R.c0 rfl) (c_claimAt R hi) ?_
  refine x_run 2 (pc' := 7) (lv' := [(3, .ref (X.1 (100 + i))), (0, .ref (X.1 0)), (1, .int (nI i)), (2, .int (1))]) (st' := [.int (1)]) rfl ?_
  refine x_step (pc' := 66) (lv' := [(3, .ref (X.1 (100 + i))), (0, .ref (X.1 0)), (1, .int (nI i)), (2, .int (1))]) (st' := []) (h' := h) rfl rfl ?_
  refine x_run 1 (pc' := 67) (lv' := [(3, .ref (X.1 (100 + i))), (0, .ref (X.1 0)), (1, .int (nI i)), (2, .int (1))]) (st' := [.ref (X.1 (100 + i))]) rfl ?_
  refine x_get (v := .int (pI P 0 i)) rfl rfl (R.cC hi) rfl ?_
  refine x_run 1 (pc' := 71) (lv' := [(3, .ref (X.1 (100 + i))), (0, .ref (X.1 0)), (1, .int (nI i)), (2, .int (1))]) (st' := [.long ((pI P 0 i).toInt64)]) rfl ?_
  exact x_ret (v := some (.long ((pI P 0 i).toInt64))) rfl rfl rfl rfl
theorem c_told2 (R : Rep u v X P M z h) (hi : i < pn P) : Wx (d + 4) 13 0 (lv_args 0 [.ref (X.1 0), .int (nI i), .int (2)]) [] h (fun r0 => r0 = (.inl (some (.long (pL P 0 i))), h)) := by
  show Wx _ _ 0 [(0, .ref (X.1 0)), (1, .int (nI i)), (2, .int (2))] [] h _
  refine x_run 2 (pc' := 2) (lv' := [(0, .ref (X.1 0)), (1, .int (nI i)), (2, .int (2))]) (st' := [.int (nI i), .ref (X.1 0)]) rfl ?_
  refine x_rd (v := .ref (X.1 (100 + i))) (k' := 21) (as := [.ref (X.1 0), .int (nI i)]) (rest := []) (x_isV (np := 1) rfl rfl rfl R.c0 rfl) (c_claimAt R hi) ?_
  refine x_run 2 (pc' := 7) (lv' := [(3, .ref (X.1 (100 + i))), (0, .ref (X.1 0)), (1, .int (nI i)), (2, .int (2))]) (st' := [.int (2)]) rfl ?_
  refine x_step (pc' := 72) (lv' := [(3, .ref (X.1 (100 + i))), (0, .ref (X.1 0)), (1, .int (nI i)), (2, .int (2))]) (st' := []) (h' := h) rfl rfl ?_
  refine x_run 1 (pc' := 73) (lv' := [(3, .ref (X.1 (100 + i))), (0, .ref (X.1 0)), (1, .int (nI i)), (2, .int (2))]) (st' := [.ref (X.1 (100 + i))]) rfl ?_
  refine x_get (v := .long (pL P 0 i)) rfl rfl (R.cC hi) rfl ?_
  exact x_ret (v := some (.long (pL P 0 i))) rfl rfl rfl rfl
theorem c_told3 (R : Rep u v X P M z h) (hi : i < pn P) : Wx (d + 4) 13 0 (lv_args 0 [.ref (X.1 0), .int (nI i), .int (3)]) [] h (fun r0 => r0 = (.inl (some (.long (pL P 1 i))), h)) := by
  show Wx _ _ 0 [(0, .ref (X.1 0)), (1, .int (nI i)), (2, .int (3))] [] h _
  refine x_run 2 (pc' := 2) (lv' := [(0, .ref (X.1 0)), (1, .int (nI i)), (2, .int (3))]) (st' := [.int (nI i), .ref (X.1 0)]) rfl ?_
  refine x_rd (v := .ref (X.1 (100 + i))) (k' := 21) (as := [.ref (X.1 0), .int (nI i)]) (rest := []) (x_isV (np := 1) rfl rfl rfl R.c0 rfl) (c_claimAt R hi) ?_
  refine x_run 2 (pc' := 7) (lv' := [(3, .ref (X.1 (100 + i))), (0, .ref (X.1 0)), (1, .int (nI i)), (2, .int (3))]) (st' := [.int (3)]) rfl ?_
  refine x_step (pc' := 77) (lv' := [(3, .ref (X.1 (100 + i))), (0, .ref (X.1 0)), (1, .int (nI i)), (2, .int (3))]) (st' := []) (h' := h) rfl rfl ?_
  refine x_run 1 (pc' := 78) (lv' := [(3, .ref (X.1 (100 + i))), (0, .ref (X.1 0)), (1, .int (nI i)), (2, .int (3))]) (st' := [.ref (X.1 (100 + i))]) rfl ?_
  refine x_get (v := .long (pL P 1 i)) rfl rfl (R.cC hi) rfl ?_
  exact x_ret (v := some (.long (pL P 1 i))) rfl rfl rfl rfl
theorem c_told4 (R : Rep u v X P M z h) (hi : i < pn P) : Wx (d + 4) 13 0 (lv_args 0 [.ref (X.1 0), .int (nI i), .int (4)]) [] h (fun r0 => r0 = (.inl (some (.long (pL P 2 i))), h)) := by
  show Wx _ _ 0 [(0, .ref (X.1 0)), (1, .int (nI i)), (2, .int (4))] [] h _
  refine x_run 2 (pc' := 2) (lv' := [(0, .ref (X.1 0)), (1, .int (nI i)), (2, .int (4))]) (st' := [.int (nI i), .ref (X.1 0)]) rfl ?_
  refine x_rd (v := .ref (X.1 (100 + i))) (k' := 21) (as := [.ref (X.1 0), .int (nI i)]) (rest := []) (x_isV (np := 1) rfl rfl rfl R.c0 rfl) (c_claimAt R hi) ?_
  refine x_run 2 (pc' := 7) (lv' := [(3, .ref (X.1 (100 + i))), (0, .ref (X.1 0)), (1, .int (nI i)), (2, .int (4))]) (st' := [.int (4)]) rfl ?_
  refine x_step (pc' := 82) (lv' := [(3, .ref (X.1 (100 + i))), (0, .ref (X.1 0)), (1, .int (nI i)), (2, .int (4))]) (st' := []) (h' := h) rfl rfl ?_
  refine x_run 1 (pc' := 83) (lv' := [(3, .ref (X.1 (100 + i))), (0, .ref (X.1 0)), (1, .int (nI i)), (2, .int (4))]) (st' := [.ref (X.1 (100 + i))]) rfl ?_
  refine x_get (v := .long (pL P 2 i)) rfl rfl (R.cC hi) rfl ?_
  exact x_ret (v := some (.long (pL P 2 i))) rfl rfl rfl rfl
theorem c_told5 (R : Rep u v X P M z h) (hi : i < pn P) : Wx (d + 4) 13 0 (lv_args 0 [.ref (X.1 0), .int (nI i), .int (5)]) [] h (fun r0 => r0 = (.inl (some (.long (pL P 3 i))), h)) := by
  show Wx _ _ 0 [(0, .ref (X.1 0)), (1, .int (nI i)), (2, .int (5))] [] h _
  refine x_run 2 (pc' := 2) (lv' := [(0, .ref (X.1 0)), (1, .int (nI i)), (2, .int (5))]) (st' := [.int (nI i), .ref (X.1 0)]) rfl ?_
  refine x_rd (v := .ref (X.1 (100 + i))) (k' := 21) (as := [.ref (X.1 0), .int (nI i)]) (rest := []) (x_isV (np := 1) rfl rfl rfl R.c0 rfl) (c_claimAt R hi) ?_
  refine x_run 2 (pc' := 7) (lv' := [(3, .ref (X.1 (100 + i))), (0, .ref (X.1 0)), (1, .int (nI i)), (2, .int (5))]) (st' := [.int (5)]) rfl ?_
  refine x_step (pc' := 87) (lv' := [(3, .ref (X.1 (100 + i))), (0, .ref (X.1 0)), (1, .int (nI i)), (2, .int (5))]) (st' := []) (h' := h) rfl rfl ?_
  refine x_run 1 (pc' := 88) (lv' := [(3, .ref (X.1 (100 + i))), (0, .ref (X.1 0)), (1, .int (nI i)), (2, .int (5))]) (st' := [.ref (X.1 (100 + i))]) rfl ?_
  refine x_get (v := .long (pL P 3 i)) rfl rfl (R.cC hi) rfl ?_
  exact x_ret (v := some (.long (pL P 3 i))) rfl rfl rfl rfl
theorem c_told6 (R : Rep u v X P M z h) (hi : i < pn P) : Wx (d + 4) 13 0 (lv_args 0 [.ref (X.1 0), .int (nI i), .int (6)]) [] h (fun r0 => r0 = (.inl (some (.long (pL P 4 i))), h)) := by
  show Wx _ _ 0 [(0, .ref (X.1 0)), (1, .int (nI i)), (2, .int (6))] [] h _
  refine x_run 2 (pc' := 2) (lv' := [(0, .ref (X.1 0)), (1, .int (nI i)), (2, .int (6))]) (st' := [.int (nI i), .ref (X.1 0)]) rfl ?_
  refine x_rd (v := .ref (X.1 (100 + i))) (k' := 21) (as := [.ref (X.1 0), .int (nI i)]) (rest := []) (x_isV (np := 1) rfl rfl rfl R.c0 rfl) (c_claimAt R hi) ?_
  refine x_run 2 (pc' := 7) (lv' := [(3, .ref (X.1 (100 + i))), (0, .ref (X.1 0)), (1, .int (nI i)), (2, .int (6))]) (st' := [.int (6)]) rfl ?_
  refine x_step (pc' := 92) (lv' := [(3, .ref (X.1 (100 + i))), (0, .ref (X.1 0)), (1, .int (nI i)), (2, .int (6))]) (st' := []) (h' := h) rfl rfl ?_
  refine x_run 1 (pc' := 93) (lv' := [(3, .ref (X.1 (100 + i))), (0, .ref (X.1 0)), (1, .int (nI i)), (2, .int (6))]) (st' := [.ref (X.1 (100 + i))]) rfl ?_
  refine x_get (v := .long (pL P 4 i)) rfl rfl (R.cC hi) rfl ?_
  exact x_ret (v := some (.long (pL P 4 i))) rfl rfl rfl rfl
theorem c_told7 (R : Rep u v X P M z h) (hi : i < pn P) : Wx (d + 4) 13 0 (lv_args 0 [.ref (X.1 0), .int (nI i), .int (7)]) [] h (fun r0 => r0 = (.inl (some (.long (p_net P i))), h)) := by
  show Wx _ _ 0 [(0, .ref (X.1 0)), (1, .int (nI i)), (2, .int (7))] [] h _
  refine x_run 2 (pc' := 2) (lv' := [(0, .ref (X.1 0)), (1, .int (nI i)), (2, .int (7))]) (st' := [.int (nI i), .ref (X.1 0)]) rfl ?_
  refine x_rd (v := .ref (X.1 (100 + i))) (k' := 21) (as := [.ref (X.1 0), .int (nI i)]) (rest := []) (x_isV (np := 1) rfl rfl rfl R.c0 rfl) (c_claimAt R hi) ?_
  refine x_run 2 (pc' := 7) (lv' := [(3, .ref (X.1 (100 + i))), (0, .ref (X.1 0)), (1, .int (nI i)), (2, .int (7))]) (st' := [.int (7)]) rfl ?_
  refine x_step (pc' := 97) (lv' := [(3, .ref (X.1 (100 + i))), (0, .ref (X.1 0)), (1, .int (nI i)), (2, .int (7))]) (st' := []) (h' := h) rfl rfl ?_
  refine x_run 1 (pc' := 98) (lv' := [(3, .ref (X.1 (100 + i))), (0, .ref (X.1 0)), (1, .int (nI i)), (2, .int (7))]) (st' := [.ref (X.1 (100 + i))]) rfl ?_
  refine x_rd (v := .long (p_net P i)) (k' := 42) (as := [.ref (X.1 (100 + i))]) (rest := []) (x_isV (np := 0) rfl rfl rfl (R.cC hi) rfl) (c_net R hi) ?_
  exact x_ret (v := some (.long (p_net P i))) rfl rfl rfl rfl
theorem c_told8 (R : Rep u v X P M z h) (hi : i < pn P) : Wx (d + 4) 13 0 (lv_args 0 [.ref (X.1 0), .int (nI i), .int (8)]) [] h (fun r0 => r0 = (.inl (some (.long (p_dueOf P i))), h)) := by
  show Wx _ _ 0 [(0, .ref (X.1 0)), (1, .int (nI i)), (2, .int (8))] [] h _
  refine x_run 2 (pc' := 2) (lv' := [(0, .ref (X.1 0)), (1, .int (nI i)), (2, .int (8))]) (st' := [.int (nI i), .ref (X.1 0)]) rfl ?_
  refine x_rd (v := .ref (X.1 (100 + i))) (k' := 21) (as := [.ref (X.1 0), .int (nI i)]) (rest := []) (x_isV (np := 1) rfl rfl rfl R.c0 rfl) (c_claimAt R hi) ?_
  refine x_run 2 (pc' := 7) (lv' := [(3, .ref (X.1 (100 + i))), (0, .ref (X.1 0)), (1, .int (nI i)), (2, .int (8))]) (st' := [.int (8)]) rfl ?_
  refine x_step (pc' := 102) (lv' := [(3, .ref (X.1 (100 + i))), (0, .ref (X.1 0)), (1, .int (nI i)), (2, .int (8))]) (st' := []) (h' := h) rfl rfl ?_
  refine x_run 2 (pc' := 104) (lv' := [(3, .ref (X.1 (100 + i))), (0, .ref (X.1 0)), (1, .int (nI i)), (2, .int (8))]) (st' := [.ref (X.1 (100 + i)), .ref (X.1 0)]) rfl ?_
  refine x_rd (v := .long (p_dueOf P i)) (k' := 23) (as := [.ref (X.1 0), .ref (X.1 (100 + i))]) (rest := []) (x_isV (np := 1) rfl rfl rfl R.c0 rfl) (c_dueOf R hi) ?_
  exact x_ret (v := some (.long (p_dueOf P i))) rfl rfl rfl rfl
theorem c_told9 (R : Rep u v X P M z h) (hi : i < pn P) : Wx (d + 4) 13 0 (lv_args 0 [.ref (X.1 0), .int (nI i), .int (9)]) [] h (fun r0 => r0 = (.inl (some (.long (cond (p_open P i) 1 0))), h)) := by
  show Wx _ _ 0 [(0, .ref (X.1 0)), (1, .int (nI i)), (2, .int (9))] [] h _
  refine x_run 2 (pc' := 2) (lv' := [(0, .ref (X.1 0)), (1, .int (nI i)), (2, .int (9))]) (st' := [.int (nI i), .ref (X.1 0)]) rfl ?_
  refine x_rd (v := .ref (X.1 (100 + i))) (k' := 21) (as := [.ref (X.1 0), .int (nI i)]) (rest := []) (x_isV (np := 1) rfl rfl rfl R.c0 rfl) (c_claimAt R hi) ?_
  refine x_run 2 (pc' := 7) (lv' := [(3, .ref (X.1 (100 + i))), (0, .ref (X.1 0)), (1, .int (nI i)), (2, .int (9))]) (st' := [.int (9)]) rfl ?_
  refine x_step (pc' := 108) (lv' := [(3, .ref (X.1 (100 + i))), (0, .ref (X.1 0)), (1, .int (nI i)), (2, .int (9))]) (st' := []) (h' := h) rfl rfl ?_
  refine x_run 1 (pc' := 109) (lv' := [(3, .ref (X.1 (100 + i))), (0, .ref (X.1 0)), (1, .int (nI i)), (2, .int (9))]) (st' := [.ref (X.1 (100 + i))]) rfl ?_
  refine x_rd (v := .int (bI (p_open P i))) (k' := 40) (as := [.ref (X.1 (100 + i))]) (rest := []) (x_isV (np := 0) rfl rfl rfl (R.cC hi) rfl) (c_open R hi) ?_
  refine x_if (c := bI (p_open P i) = 0) (t := 119) rfl rfl (fun c1 => ?_) (fun c1 => ?_)
  · replace c1 := bI_0.mp c1
    refine x_run 1 (pc' := 120) (lv' := [(3, .ref (X.1 (100 + i))), (0, .ref (X.1 0)), (1, .int (nI i)), (2, .int (9))]) (st' := [.long (0)]) rfl ?_
    refine x_ret (v := some (.long (0))) rfl rfl rfl ?_
    rw [c1]
    rfl
  · replace c1 := bI_n0 c1
    refine x_run 2 (pc' := 120) (lv' := [(3, .ref (X.1 (100 + i))), (0, .ref (X.1 0)), (1, .int (nI i)), (2, .int (9))]) (st' := [.long (1)]) rfl ?_
    refine x_ret (v := some (.long (1))) rfl rfl rfl ?_
    rw [c1]
    rfl
theorem c_toldW (R : Rep (u + 1) v X P M z h) (hi : i < pn P) {w : Int32} (hw : w.toInt < 0 ∨ 9 < w.toInt) : Wx (d + 7) 13 0 (lv_args 0 [.ref (X.1 0), .int (nI i), .int (w)]) [] h (x_th 5 (Rep u v X P M z)) := by
  show Wx _ _ 0 [(0, .ref (X.1 0)), (1, .int (nI i)), (2, .int (w))] [] h _
  refine x_run 2 (pc' := 2) (lv' := [(0, .ref (X.1 0)), (1, .int (nI i)), (2, .int (w))]) (st' := [.int (nI i), .ref (X.1 0)]) rfl ?_
  refine x_rd (v := .ref (X.1 (100 + i))) (k' := 21) (as := [.ref (X.1 0), .int (nI i)]) (rest := []) (x_isV (np := 1) rfl rfl rfl R.c0 rfl) (c_claimAt R hi) ?_
  refine x_run 2 (pc' := 7) (lv' := [(3, .ref (X.1 (100 + i))), (0, .ref (X.1 0)), (1, .int (nI i)), (2, .int (w))]) (st' := [.int (w)]) rfl ?_
  refine x_swd (t := 121) rfl hw rfl ?_
  exact x_throw R rfl rfl rfl rfl rfl rfl rfl rfl (by omega)
theorem c_entry0 (R : Rep u v X P M z h) {e : Nat} (he : e < 3000) (hk : p_keeps P (nI e) = true) : Wx (d + 1) 17 0 (lv_args 0 [.ref (X.1 0), .int (nI e), .int (0)]) [] h (fun r0 => r0 = (.inl (some (.long ((pI P 2 e).toInt64))), h)) := by
  show Wx _ _ 0 [(0, .ref (X.1 0)), (1, .int (nI e)), (2, .int (0))] [] h _
  refine x_run 1 (pc' := 1) (lv' := [(0, .ref (X.1 0)), (1, .int (nI e)), (2, .int (0))]) (st' := [.ref (X.1 0)]) rfl ?_
  refine x_get (v := .ref (X.1 4)) rfl rfl R.c0 rfl ?_
  refine x_run 1 (pc' := 5) (lv' := [(0, .ref (X.1 0)), (1, .int (nI e)), (2, .int (0))]) (st' := [.int (nI e), .ref (X.1 4)]) rfl ?_
  refine x_rd (v := .int (bI (p_keeps P (nI e)))) (k' := 52) (as := [.ref (X.1 4), .int (nI e)]) (rest := []) (x_isV (np := 1) rfl rfl rfl R.c4 rfl) (c_keeps R _) ?_
  refine x_if (c := ¬ bI (p_keeps P (nI e)) = 0) (t := 21) rfl rfl (fun c1 => ?_) (fun c1 => ?_)
  · replace c1 := bI_n0 c1
    refine x_run 1 (pc' := 22) (lv' := [(0, .ref (X.1 0)), (1, .int (nI e)), (2, .int (0))]) (st' := [.int (0)]) rfl ?_
    refine x_step (pc' := 48) (lv' := [(0, .ref (X.1 0)), (1, .int (nI e)), (2, .int (0))]) (st' := []) (h' := h) rfl rfl ?_
    refine x_run 1 (pc' := 49) (lv' := [(0, .ref (X.1 0)), (1, .int (nI e)), (2, .int (0))]) (st' := [.ref (X.1 0)]) rfl ?_
    refine x_get (v := .ref (X.1 4)) rfl rfl R.c0 rfl ?_
    refine x_get (v := .ref (X.1 5)) rfl rfl R.c4 rfl ?_
    refine x_run 1 (pc' := 56) (lv' := [(0, .ref (X.1 0)), (1, .int (nI e)), (2, .int (0))]) (st' := [.int (nI e), .ref (X.1 5)]) rfl ?_
    refine x_iald (j := e) rfl R.c5 (mm_idx_nI (by omega) (by omega)) ?_
    refine x_run 1 (pc' := 58) (lv' := [(0, .ref (X.1 0)), (1, .int (nI e)), (2, .int (0))]) (st' := [.long ((pI P 2 e).toInt64)]) rfl ?_
    exact x_ret (v := some (.long ((pI P 2 e).toInt64))) rfl rfl rfl rfl
  · replace c1 := bI_0.mp (Classical.not_not.mp c1)
    exact absurd (hk.symm.trans c1) (by decide)
theorem c_entry1 (R : Rep u v X P M z h) {e : Nat} (he : e < 3000) (hk : p_keeps P (nI e) = true) : Wx (d + 1) 17 0 (lv_args 0 [.ref (X.1 0), .int (nI e), .int (1)]) [] h (fun r0 => r0 = (.inl (some (.long ((pI P 3 e).toInt64))), h)) := by
  show Wx _ _ 0 [(0, .ref (X.1 0)), (1, .int (nI e)), (2, .int (1))] [] h _
  refine x_run 1 (pc' := 1) (lv' := [(0, .ref (X.1 0)), (1, .int (nI e)), (2, .int (1))]) (st' := [.ref (X.1 0)]) rfl ?_
  refine x_get (v := .ref (X.1 4)) rfl rfl R.c0 rfl ?_
  refine x_run 1 (pc' := 5) (lv' := [(0, .ref (X.1 0)), (1, .int (nI e)), (2, .int (1))]) (st' := [.int (nI e), .ref (X.1 4)]) rfl ?_
  refine x_rd (v := .int (bI (p_keeps P (nI e)))) (k' := 52) (as := [.ref (X.1 4), .int (nI e)]) (rest := []) (x_isV (np := 1) rfl rfl rfl R.c4 rfl) (c_keeps R _) ?_
  refine x_if (c := ¬ bI (p_keeps P (nI e)) = 0) (t := 21) rfl rfl (fun c1 => ?_) (fun c1 => ?_)
  · replace c1 := bI_n0 c1
    refine x_run 1 (pc' := 22) (lv' := [(0, .ref (X.1 0)), (1, .int (nI e)), (2, .int (1))]) (st' := [.int (1)]) rfl ?_
    refine x_step (pc' := 59) (lv' := [(0, .ref (X.1 0)), (1, .int (nI e)), (2, .int (1))]) (st' := []) (h' := h) rfl rfl ?_
    refine x_run 1 (pc' := 60) (lv' := [(0, .ref (X.1 0)), (1, .int (nI e)), (2, .int (1))]) (st' := [.ref (X.1 0)]) rfl ?_
    refine x_get (v := .ref (X.1 4)) rfl rfl R.c0 rfl ?_
    refine x_get (v := .ref (X.1 6)) rfl rfl R.c4 rfl ?_
    refine x_run 1 (pc' := 67) (lv' := [(0, .ref (X.1 0)), (1, .int (nI e)), (2, .int (1))]) (st' := [.int (nI e), .ref (X.1 6)]) rfl ?_
    refine x_iald (j := e) rfl R.c6 (mm_idx_nI (by omega) (by omega)) ?_
    refine x_run 1 (pc' := 69) (lv' := [(0, .ref (X.1 0)), (1, .int (nI e)), (2, .int (1))]) (st' := [.long ((pI P 3 e).toInt64)]) rfl ?_
    exact x_ret (v := some (.long ((pI P 3 e).toInt64))) rfl rfl rfl rfl
  · replace c1 := bI_0.mp (Classical.not_not.mp c1)
    exact absurd (hk.symm.trans c1) (by decide)
theorem c_entry2 (R : Rep u v X P M z h) {e : Nat} (he : e < 3000) (hk : p_keeps P (nI e) = true) : Wx (d + 1) 17 0 (lv_args 0 [.ref (X.1 0), .int (nI e), .int (2)]) [] h (fun r0 => r0 = (.inl (some (.long (pL P 6 e))), h)) := by
  show Wx _ _ 0 [(0, .ref (X.1 0)), (1, .int (nI e)), (2, .int (2))] [] h _
  refine x_run 1 (pc' := 1) (lv' := [(0, .ref (X.1 0)), (1, .int (nI e)), (2, .int (2))]) (st' := [.ref (X.1 0)]) rfl ?_
  refine x_get (v := .ref (X.1 4)) rfl rfl R.c0 rfl ?_
  refine x_run 1 (pc' := 5) (lv' := [(0, .ref (X.1 0)), (1, .int (nI e)), (2, .int (2))]) (st' := [.int (nI e), .ref (X.1 4)]) rfl ?_
  refine x_rd (v := .int (bI (p_keeps P (nI e)))) (k' := 52) (as := [.ref (X.1 4), .int (nI e)]) (rest := []) (x_isV (np := 1) rfl rfl rfl R.c4 rfl) (c_keeps R _) ?_
  refine x_if (c := ¬ bI (p_keeps P (nI e)) = 0) (t := 21) rfl rfl (fun c1 => ?_) (fun c1 => ?_)
  · replace c1 := bI_n0 c1
    refine x_run 1 (pc' := 22) (lv' := [(0, .ref (X.1 0)), (1, .int (nI e)), (2, .int (2))]) (st' := [.int (2)]) rfl ?_
    refine x_step (pc' := 70) (lv' := [(0, .ref (X.1 0)), (1, .int (nI e)), (2, .int (2))]) (st' := []) (h' := h) rfl rfl ?_
    refine x_run 1 (pc' := 71) (lv' := [(0, .ref (X.1 0)), (1, .int (nI e)), (2, .int (2))]) (st' := [.ref (X.1 0)]) rfl ?_
    refine x_get (v := .ref (X.1 4)) rfl rfl R.c0 rfl ?_
    refine x_get (v := .ref (X.1 7)) rfl rfl R.c4 rfl ?_
    refine x_run 1 (pc' := 78) (lv' := [(0, .ref (X.1 0)), (1, .int (nI e)), (2, .int (2))]) (st' := [.int (nI e), .ref (X.1 7)]) rfl ?_
    refine x_lald (j := e) rfl R.c7 (mm_idx_nI (by omega) (by omega)) ?_
    exact x_ret (v := some (.long (pL P 6 e))) rfl rfl rfl rfl
  · replace c1 := bI_0.mp (Classical.not_not.mp c1)
    exact absurd (hk.symm.trans c1) (by decide)
theorem c_entryW (R : Rep (u + 1) v X P M z h) {e : Nat} (he : e < 3000) (hk : p_keeps P (nI e) = true) {w : Int32} (hw : w.toInt < 0 ∨ 2 < w.toInt) : Wx (d + 6) 17 0 (lv_args 0 [.ref (X.1 0), .int (nI e), .int (w)]) [] h (x_th 5 (Rep u v X P M z)) := by
  show Wx _ _ 0 [(0, .ref (X.1 0)), (1, .int (nI e)), (2, .int (w))] [] h _
  refine x_run 1 (pc' := 1) (lv' := [(0, .ref (X.1 0)), (1, .int (nI e)), (2, .int (w))]) (st' := [.ref (X.1 0)]) rfl ?_
  refine x_get (v := .ref (X.1 4)) rfl rfl R.c0 rfl ?_
  refine x_run 1 (pc' := 5) (lv' := [(0, .ref (X.1 0)), (1, .int (nI e)), (2, .int (w))]) (st' := [.int (nI e), .ref (X.1 4)]) rfl ?_
  refine x_rd (v := .int (bI (p_keeps P (nI e)))) (k' := 52) (as := [.ref (X.1 4), .int (nI e)]) (rest := []) (x_isV (np := 1) rfl rfl rfl R.c4 rfl) (c_keeps R _) ?_
  refine x_if (c := ¬ bI (p_keeps P (nI e)) = 0) (t := 21) rfl rfl (fun c1 => ?_) (fun c1 => ?_)
  · replace c1 := bI_n0 c1
    refine x_run 1 (pc' := 22) (lv' := [(0, .ref (X.1 0)), (1, .int (nI e)), (2, .int (w))]) (st' := [.int (w)]) rfl ?_
    refine x_swd (t := 80) rfl hw rfl ?_
    exact x_throw R rfl rfl rfl rfl rfl rfl rfl rfl (by omega)
  · replace c1 := bI_0.mp (Classical.not_not.mp c1)
    exact absurd (hk.symm.trans c1) (by decide)
theorem c_entryX (R : Rep (u + 1) v X P M z h) {q : Int32} (hk : p_keeps P q = false) (w : Int32) : Wx (d + 6) 17 0 (lv_args 0 [.ref (X.1 0), .int (q), .int (w)]) [] h (x_th 7 (Rep u v X P M z)) := by
  show Wx _ _ 0 [(0, .ref (X.1 0)), (1, .int (q)), (2, .int (w))] [] h _
  refine x_run 1 (pc' := 1) (lv' := [(0, .ref (X.1 0)), (1, .int (q)), (2, .int (w))]) (st' := [.ref (X.1 0)]) rfl ?_
  refine x_get (v := .ref (X.1 4)) rfl rfl R.c0 rfl ?_
  refine x_run 1 (pc' := 5) (lv' := [(0, .ref (X.1 0)), (1, .int (q)), (2, .int (w))]) (st' := [.int (q), .ref (X.1 4)]) rfl ?_
  refine x_rd (v := .int (bI (p_keeps P q))) (k' := 52) (as := [.ref (X.1 4), .int (q)]) (rest := []) (x_isV (np := 1) rfl rfl rfl R.c4 rfl) (c_keeps R _) ?_
  refine x_if (c := ¬ bI (p_keeps P q) = 0) (t := 21) rfl rfl (fun c1 => ?_) (fun c1 => ?_)
  · replace c1 := bI_n0 c1
    exact absurd (hk.symm.trans c1) (by decide)
  · replace c1 := bI_0.mp (Classical.not_not.mp c1)
    exact x_throw R rfl rfl rfl rfl rfl rfl rfl rfl (by omega)
end PUB1
end
section
section PUB2
variable {u v d : Nat} {X : xX} {P M : pP} {z : zZ} {h : mm_H} {i j : Nat}
theorem l_resolves {rest : Int64} {Q : mm_O × mm_H → Prop} : ∀ (m : Nat) (i : Nat) (P : pP) (h : mm_H), Rep u (v + 2 * m) X P M z h → i + m = pn P → (∀ h, Rep u v X (p_resolves p_open m i P) M z h → Wx (d + 5) 5 120 [(7, .int (nI (i + m))), (5, .long rest), (0, .ref (X.1 0))] [] h Q) → Wx (d + 5) 5 93 [(7, .int (nI i)), (5, .long (rest)), (0, .ref (X.1 0))] [] h Q := by
  intro m
  induction m with
  | zero =>
    intro i P h R hm kk
    have n60 := R.n60
    refine x_run 2 (pc' := 96) (lv' := [(7, .int (nI i)), (5, .long (rest)), (0, .ref (X.1 0))]) (st' := [.ref (X.1 0), .int (nI i)]) rfl ?_
    refine x_get (v := .int (nI (pn P))) rfl rfl R.c0 rfl ?_
    refine x_if (c := nI (pn P) ≤ nI i) (t := 120) rfl rfl (fun c1 => ?_) (fun c1 => ?_)
    · replace c1 := (nI_leI (by omega) (by omega)).mp c1
      refine x_lv (a := [(7, .int (nI i)), (5, .long (rest)), (0, .ref (X.1 0))]) rfl rfl ⟨rfl, rfl, rfl, trivial⟩ ?_
      exact kk h R
    · replace c1 := mt (nI_leI (by omega) (by omega)).mpr c1
      omega
  | succ m ih =>
    intro i P h R hm kk
    have R : Rep u (v + 2 * m + 1 + 1) X P M z h := R.less (Nat.le_refl _) (by omega)
    have n60 := R.n60
    have hi : i < pn P := by omega
    rw [show i + (m + 1) = i + 1 + m by omega] at kk
    refine x_run 2 (pc' := 96) (lv' := [(7, .int (nI i)), (5, .long (rest)), (0, .ref (X.1 0))]) (st' := [.ref (X.1 0), .int (nI i)]) rfl ?_
    refine x_get (v := .int (nI (pn P))) rfl rfl R.c0 rfl ?_
    refine x_if (c := nI (pn P) ≤ nI i) (t := 120) rfl rfl (fun c1 => ?_) (fun c1 => ?_)
    · replace c1 := (nI_leI (by omega) (by omega)).mp c1
      omega
    · replace c1 := mt (nI_leI (by omega) (by omega)).mpr c1
      refine x_run 2 (pc' := 104) (lv' := [(7, .int (nI i)), (5, .long (rest)), (0, .ref (X.1 0))]) (st' := [.ref (X.1 0), .ref (X.1 0)]) rfl ?_
      refine x_get (v := .ref (X.1 1)) rfl rfl R.c0 rfl ?_
      refine x_run 1 (pc' := 109) (lv' := [(7, .int (nI i)), (5, .long (rest)), (0, .ref (X.1 0))]) (st' := [.int (nI i), .ref (X.1 1), .ref (X.1 0)]) rfl ?_
      refine x_aald3 (j := i) rfl R.c1 (mm_idx_nI (by omega) (by omega)) ?_
      rw [if_pos hi]
      refine x_wr (v := .long (p_resV (p_open P i) P i)) (A := Rep u (v + 2 * m) X (p_resolve (p_open P i) P i) M z) (k' := 29) (as := [.ref (X.1 0), .ref (X.1 (100 + i))]) (rest := []) (x_isV (np := 1) rfl rfl rfl R.c0 rfl) (c_resolve R hi) (fun h R => ?_)
      refine x_run 2 (pc' := 117) (lv' := [(7, .int (nI i + 1)), (5, .long (rest)), (0, .ref (X.1 0))]) (st' := []) rfl ?_
      rw [nI_1]
      refine x_run 1 (pc' := 93) (lv' := [(7, .int (nI (i + 1))), (5, .long (rest)), (0, .ref (X.1 0))]) (st' := []) rfl ?_
      refine x_lv (a := [(7, .int (nI (i + 1))), (5, .long (rest)), (0, .ref (X.1 0))]) rfl rfl ⟨rfl, rfl, rfl, trivial⟩ ?_
      rw [show p_resolves p_open (m + 1) i P = p_resolves p_open m (i + 1) (p_resolve (p_open P i) P i) from rfl] at kk
      exact ih (i + 1) _ _ R (by rw [(sh_resolve (p_open P i) P i).1]; omega) kk
theorem c_real (R : Rep (u + 1) (v + 120 + 4 + 1) X P M z h) (hj : j < pa P) (n : Int64) : Wx (d + 7) 5 0 (lv_args 0 [.ref (X.1 0), .int (nI j), .long (n)]) [] h (pQ (RP u v X M z) (o_real p_open P j n)) := by
  show Wx _ _ 0 [(0, .ref (X.1 0)), (1, .int (nI j)), (2, .long (n))] [] h _
  refine x_run 2 (pc' := 2) (lv' := [(0, .ref (X.1 0)), (1, .int (nI j)), (2, .long (n))]) (st' := [.int (nI j), .ref (X.1 0)]) rfl ?_
  refine x_rd (v := .ref (X.1 (200 + j))) (k' := 22) (as := [.ref (X.1 0), .int (nI j)]) (rest := []) (x_isV (np := 1) rfl rfl rfl R.c0 rfl) (c_assetAt R hj) ?_
  refine x_run 3 (pc' := 9) (lv' := [(4, .ref (X.1 (200 + j))), (0, .ref (X.1 0)), (1, .int (nI j)), (2, .long (n))]) (st' := [.long (0), .long (n)]) rfl ?_
  rcases g_two (g_cents n 0) with g1 | g1
  · rw [show o_real p_open P j n = (5, none, P) from by simp only [o_real, g1, not_true_eq_false, not_false_eq_true, if_true, if_false, ite_true, ite_false, reduceIte, reduceCtorEq, Classical.not_not]]
    exact x_up (k' := 20) (as := [.long (n), .long (0)]) (rest := []) (x_isS (np := 2) rfl rfl rfl rfl rfl) rfl (c_centsX R g1) (fun r e => pQ_x (by decide) (e.imp fun a q => ⟨q.1, q.2.less (Nat.le_refl _) (by omega)⟩))
  refine x_rd0 (k' := 20) (as := [.long (n), .long (0)]) (rest := []) (x_isS (np := 2) rfl rfl rfl rfl rfl) (c_cents R g1) ?_
  refine x_run 1 (pc' := 13) (lv' := [(4, .ref (X.1 (200 + j))), (0, .ref (X.1 0)), (1, .int (nI j)), (2, .long (n))]) (st' := [.ref (X.1 0)]) rfl ?_
  by_cases g2 : ¬ pI P 4 0 = 0
  · rw [show o_real p_open P j n = (6, none, P) from by simp only [o_real, g1, g2, not_true_eq_false, not_false_eq_true, if_true, if_false, ite_true, ite_false, reduceIte, reduceCtorEq, Classical.not_not]]
    exact x_up (k' := 18) (as := [.ref (X.1 0)]) (rest := []) (x_isV (np := 0) rfl rfl rfl R.c0 rfl) rfl (c_liveX R g2) (fun r e => pQ_x (by decide) (e.imp fun a q => ⟨q.1, q.2.less (Nat.le_refl _) (by omega)⟩))
  refine x_rd0 (k' := 18) (as := [.ref (X.1 0)]) (rest := []) (x_isV (np := 0) rfl rfl rfl R.c0 rfl) (c_live R (Classical.not_not.mp g2)) ?_
  refine x_run 1 (pc' := 18) (lv' := [(4, .ref (X.1 (200 + j))), (0, .ref (X.1 0)), (1, .int (nI j)), (2, .long (n))]) (st' := [.ref (X.1 (200 + j))]) rfl ?_
  refine x_get (v := .int (pI P 1 j)) rfl rfl (R.cA hj) rfl ?_
  refine x_if (c := ¬ pI P 1 j = 0) (t := 32) rfl rfl (fun c3 => ?_) (fun c3 => ?_)
  · rw [show o_real p_open P j n = (6, none, P) from by simp only [o_real, g1, g2, c3, not_true_eq_false, not_false_eq_true, if_true, if_false, ite_true, ite_false, reduceIte, reduceCtorEq, Classical.not_not]]
    exact pQ_th (x_throw (R.less (v' := v) (Nat.le_refl _) (by omega)) rfl rfl rfl rfl rfl rfl rfl rfl (by omega)) (by decide)
  · refine x_run 1 (pc' := 26) (lv' := [(4, .ref (X.1 (200 + j))), (0, .ref (X.1 0)), (1, .int (nI j)), (2, .long (n))]) (st' := [.ref (X.1 (200 + j))]) rfl ?_
    refine x_rd (v := .int (bI (p_cont P j (pN P 1 j) 0))) (k' := 49) (as := [.ref (X.1 (200 + j))]) (rest := []) (x_isV (np := 0) rfl rfl rfl (R.cA hj) rfl) (c_cont R hj) ?_
    refine x_if (c := bI (p_cont P j (pN P 1 j) 0) = 0) (t := 42) rfl rfl (fun c4 => ?_) (fun c4 => ?_)
    · replace c4 := bI_0.mp c4
      refine x_run 2 (pc' := 45) (lv' := [(4, .ref (X.1 (200 + j))), (0, .ref (X.1 0)), (1, .int (nI j)), (2, .long (n))]) (st' := [.int (1), .ref (X.1 (200 + j))]) rfl ?_
      refine x_put rfl rfl (R.cA hj) rfl ?_
      refine gen_h (A := Rep (u + 1) (v + 120 + 4 + 1) X (sI P 1 j (1)) M z) (R.uReal hj _) (fun h R => ?_)
      refine x_run 2 (pc' := 50) (lv' := [(4, .ref (X.1 (200 + j))), (0, .ref (X.1 0)), (1, .int (nI j)), (2, .long (n))]) (st' := [.ref (X.1 0), .ref (X.1 0)]) rfl ?_
      refine x_get (v := .long (pL P 7 1)) rfl rfl R.c0 rfl ?_
      refine x_run 2 (pc' := 55) (lv' := [(4, .ref (X.1 (200 + j))), (0, .ref (X.1 0)), (1, .int (nI j)), (2, .long (n))]) (st' := [.long ((pL P 7 1) + n), .ref (X.1 0)]) rfl ?_
      refine x_put rfl rfl R.c0 rfl ?_
      refine gen_h (A := Rep (u + 1) (v + 120 + 4 + 1) X (sL (sI P 1 j (1)) 7 1 ((pL P 7 1) + n)) M z) (R.uInc _) (fun h R => ?_)
      refine x_run 1 (pc' := 59) (lv' := [(4, .ref (X.1 (200 + j))), (0, .ref (X.1 0)), (1, .int (nI j)), (2, .long (n))]) (st' := [.ref (X.1 0)]) rfl ?_
      refine x_get (v := .ref (X.1 4)) rfl rfl R.c0 rfl ?_
      refine x_run 3 (pc' := 65) (lv' := [(4, .ref (X.1 (200 + j))), (0, .ref (X.1 0)), (1, .int (nI j)), (2, .long (n))]) (st' := [.long (n), .int (nI j), .int (1), .ref (X.1 4)]) rfl ?_
      refine x_wr0 (A := Rep (u + 1) (v + 120 + 4) X (p_note (sL (sI P 1 j (1)) 7 1 ((pL P 7 1) + n)) 1 (nI j) n) M z) (k' := 51) (as := [.ref (X.1 4), .int (1), .int (nI j), .long (n)]) (rest := []) (x_isV (np := 3) rfl rfl rfl R.c4 rfl) (c_note R _ _ _) (fun h R => ?_)
      refine x_run 4 (pc' := 73) (lv' := [(4, .ref (X.1 (200 + j))), (0, .ref (X.1 0)), (1, .int (nI j)), (2, .long (n))]) (st' := [.long (n), .ref (X.1 (200 + j)), .ref (X.1 0), .long (n)]) rfl ?_
      refine x_wr (v := .long ((p_give j n (pN P 1 j) 0 (p_note (sL (sI P 1 j (1)) 7 1 ((pL P 7 1) + n)) 1 (nI j) n) 0).2)) (A := Rep (u + 1) (v + 120) X ((p_give j n (pN P 1 j) 0 (p_note (sL (sI P 1 j (1)) 7 1 ((pL P 7 1) + n)) 1 (nI j) n) 0).1) M z) (k' := 28) (as := [.ref (X.1 0), .ref (X.1 (200 + j)), .long (n)]) (rest := [.long (n)]) (x_isV (np := 2) rfl rfl rfl R.c0 rfl) (c_give R hj _) (fun h R => ?_)
      refine x_run 4 (pc' := 81) (lv' := [(5, .long (n - ((p_give j n (pN P 1 j) 0 (p_note (sL (sI P 1 j (1)) 7 1 ((pL P 7 1) + n)) 1 (nI j) n) 0).2))), (4, .ref (X.1 (200 + j))), (0, .ref (X.1 0)), (1, .int (nI j)), (2, .long (n))]) (st' := [.ref (X.1 0), .ref (X.1 0)]) rfl ?_
      refine x_get (v := .long (pL ((p_give j n (pN P 1 j) 0 (p_note (sL (sI P 1 j (1)) 7 1 ((pL P 7 1) + n)) 1 (nI j) n) 0).1) 7 0)) rfl rfl R.c0 rfl ?_
      refine x_run 2 (pc' := 87) (lv' := [(5, .long (n - ((p_give j n (pN P 1 j) 0 (p_note (sL (sI P 1 j (1)) 7 1 ((pL P 7 1) + n)) 1 (nI j) n) 0).2))), (4, .ref (X.1 (200 + j))), (0, .ref (X.1 0)), (1, .int (nI j)), (2, .long (n))]) (st' := [.long ((pL ((p_give j n (pN P 1 j) 0 (p_note (sL (sI P 1 j (1)) 7 1 ((pL P 7 1) + n)) 1 (nI j) n) 0).1) 7 0) + (n - ((p_give j n (pN P 1 j) 0 (p_note (sL (sI P 1 j (1)) 7 1 ((pL P 7 1) + n)) 1 (nI j) n) 0).2))), .ref (X.1 0)]) rfl ?_
      refine x_put rfl rfl R.c0 rfl ?_
      refine gen_h (A := Rep (u + 1) (v + 120) X (sL ((p_give j n (pN P 1 j) 0 (p_note (sL (sI P 1 j (1)) 7 1 ((pL P 7 1) + n)) 1 (nI j) n) 0).1) 7 0 ((pL ((p_give j n (pN P 1 j) 0 (p_note (sL (sI P 1 j (1)) 7 1 ((pL P 7 1) + n)) 1 (nI j) n) 0).1) 7 0) + (n - ((p_give j n (pN P 1 j) 0 (p_note (sL (sI P 1 j (1)) 7 1 ((pL P 7 1) + n)) 1 (nI j) n) 0).2)))) M z) (R.uCash _) (fun h R => ?_)
      refine x_run 2 (pc' := 93) (lv' := [(7, .int (0)), (5, .long (n - ((p_give j n (pN P 1 j) 0 (p_note (sL (sI P 1 j (1)) 7 1 ((pL P 7 1) + n)) 1 (nI j) n) 0).2))), (4, .ref (X.1 (200 + j))), (0, .ref (X.1 0)), (1, .int (nI j)), (2, .long (n))]) (st' := []) rfl ?_
      have R : Rep (u + 1) (v + 120) X (p_real3 P j n) M z h := R
      have n60 := R.n60
      refine x_lv (a := [(7, .int (0)), (5, .long (n - ((p_give j n (pN P 1 j) 0 (p_note (sL (sI P 1 j (1)) 7 1 ((pL P 7 1) + n)) 1 (nI j) n) 0).2))), (0, .ref (X.1 0))]) rfl rfl ⟨rfl, rfl, rfl, trivial⟩ ?_
      refine l_resolves (v := v) (pn (p_real3 P j n)) 0 (p_real3 P j n) h (R.less (Nat.le_refl _) (by omega)) (by omega) (fun h R => ?_)
      refine x_run 1 (pc' := 122) (lv' := [(7, .int (nI (0 + pn (p_real3 P j n)))), (5, .long (n - (p_real2 P j n).2)), (0, .ref (X.1 0))]) (st' := [.long (n - (p_real2 P j n).2)]) rfl ?_
      rw [show o_real p_open P j n = (0, some (.long (n - (p_real2 P j n).2)), p_resolves p_open (pn (p_real3 P j n)) 0 (p_real3 P j n)) from by simp only [o_real, g1, g2, c3, c4, not_true_eq_false, not_false_eq_true, if_true, if_false, ite_true, ite_false, reduceIte, reduceCtorEq, Classical.not_not]]
      exact x_ret (v := some (.long (n - (p_real2 P j n).2))) rfl rfl rfl (pQ_0 (R.less (by omega) (by omega)))
    · replace c4 := bI_n0 c4
      rw [show o_real p_open P j n = (6, none, P) from by simp only [o_real, g1, g2, c3, c4, not_true_eq_false, not_false_eq_true, if_true, if_false, ite_true, ite_false, reduceIte, reduceCtorEq, Classical.not_not]]
      exact pQ_th (x_throw (R.less (v' := v) (Nat.le_refl _) (by omega)) rfl rfl rfl rfl rfl rfl rfl rfl (by omega)) (by decide)
theorem pw_half (m : Nat) : 2 ^ (m + 1) / 2 = 2 ^ m := by rw [Nat.pow_succ]; omega
theorem l_great (R : Rep u v X P M z h) {r : Nat} (hr : r < 8) : ∀ (m t b : Nat), t = 2 ^ m / 2 → m ≤ 14 → b ≤ 10000 → Wx (d + 5) 10 32 [(3, .int (nI t)), (2, .int (nI b)), (0, .ref (X.1 0)), (1, .int (nI r))] [] h (fun r0 => r0 = (.inl (some (.int (nI (p_great P r m b)))), h)) := by
  intro m
  induction m with
  | zero =>
    intro t b ht hm hb
    replace ht : t = 0 := ht
    refine x_run 1 (pc' := 33) (lv' := [(3, .int (nI t)), (2, .int (nI b)), (0, .ref (X.1 0)), (1, .int (nI r))]) (st' := [.int (nI t)]) rfl ?_
    refine x_if (c := nI t ≤ nI 0) (t := 72) rfl rfl (fun c1 => ?_) (fun c1 => ?_)
    · replace c1 := (nI_leI (by omega) (by omega)).mp c1
      refine x_run 1 (pc' := 73) (lv' := [(3, .int (nI t)), (2, .int (nI b)), (0, .ref (X.1 0)), (1, .int (nI r))]) (st' := [.int (nI b)]) rfl ?_
      exact x_ret (v := some (.int (nI b))) rfl rfl rfl rfl
    · replace c1 := mt (nI_leI (by omega) (by omega)).mpr c1
      omega
  | succ m ih =>
    intro t b ht hm hb
    have hs : t = 2 ^ m := ht.trans (pw_half m)
    have q1 : 2 ^ m ≤ 2 ^ 13 := Nat.pow_le_pow_right (by omega) (by omega)
    have q2 : 0 < 2 ^ m := Nat.two_pow_pos m
    refine x_run 1 (pc' := 33) (lv' := [(3, .int (nI t)), (2, .int (nI b)), (0, .ref (X.1 0)), (1, .int (nI r))]) (st' := [.int (nI t)]) rfl ?_
    refine x_if (c := nI t ≤ nI 0) (t := 72) rfl rfl (fun c1 => ?_) (fun c1 => ?_)
    · replace c1 := (nI_leI (by omega) (by omega)).mp c1
      omega
    · replace c1 := mt (nI_leI (by omega) (by omega)).mpr c1
      refine x_run 3 (pc' := 39) (lv' := [(3, .int (nI t)), (2, .int (nI b)), (0, .ref (X.1 0)), (1, .int (nI r))]) (st' := [.int ((nI b) + (nI t))]) rfl ?_
      rw [nI_add]
      refine x_run 1 (pc' := 42) (lv' := [(3, .int (nI t)), (2, .int (nI b)), (0, .ref (X.1 0)), (1, .int (nI r))]) (st' := [.int (10000), .int (nI (b + t))]) rfl ?_
      refine x_if (c := nI 10000 < nI (b + t)) (t := 65) rfl rfl (fun c2 => ?_) (fun c2 => ?_)
      · replace c2 := (nI_ltI (by omega) (by omega)).mp c2
        refine x_run 3 (pc' := 68) (lv' := [(3, .int (nI t)), (2, .int (nI b)), (0, .ref (X.1 0)), (1, .int (nI r))]) (st' := [.int ((nI t) / nI 2)]) rfl ?_
        rw [pk_div (by omega) (by omega) (by omega)]
        refine x_run 2 (pc' := 32) (lv' := [(3, .int (nI (t / 2))), (2, .int (nI b)), (0, .ref (X.1 0)), (1, .int (nI r))]) (st' := []) rfl ?_
        refine x_lv (a := [(3, .int (nI (t / 2))), (2, .int (nI b)), (0, .ref (X.1 0)), (1, .int (nI r))]) rfl rfl ⟨rfl, rfl, rfl, rfl, trivial⟩ ?_
        rw [show p_great P r (m + 1) b = p_great P r m b from by rw [p_great]; rw [if_neg (fun e => by first | omega | (rw [hs] at c2; exact absurd c2 (Int64.not_lt.mpr e.2)))]]
        exact ih _ _ (by omega) (by omega) (by omega)
      · replace c2 := mt (nI_ltI (by omega) (by omega)).mpr c2
        refine x_run 5 (pc' := 50) (lv' := [(3, .int (nI t)), (2, .int (nI b)), (0, .ref (X.1 0)), (1, .int (nI r))]) (st' := [.int ((nI b) + (nI t)), .int (nI r), .ref (X.1 0)]) rfl ?_
        rw [nI_add]
        refine x_rd (v := .long (p_need P r (nI (b + t)) (pn P) 0 0)) (k' := 25) (as := [.ref (X.1 0), .int (nI r), .int (nI (b + t))]) (rest := []) (x_isV (np := 2) rfl rfl rfl R.c0 rfl) (c_need R hr _) ?_
        refine x_run 1 (pc' := 54) (lv' := [(3, .int (nI t)), (2, .int (nI b)), (0, .ref (X.1 0)), (1, .int (nI r))]) (st' := [.ref (X.1 0), .long (p_need P r (nI (b + t)) (pn P) 0 0)]) rfl ?_
        refine x_get (v := .long (pL P 7 0)) rfl rfl R.c0 rfl ?_
        refine x_lgt (t := 65) rfl rfl rfl (fun c3 => ?_) (fun c3 => ?_)
        · refine x_run 3 (pc' := 68) (lv' := [(3, .int (nI t)), (2, .int (nI b)), (0, .ref (X.1 0)), (1, .int (nI r))]) (st' := [.int ((nI t) / nI 2)]) rfl ?_
          rw [pk_div (by omega) (by omega) (by omega)]
          refine x_run 2 (pc' := 32) (lv' := [(3, .int (nI (t / 2))), (2, .int (nI b)), (0, .ref (X.1 0)), (1, .int (nI r))]) (st' := []) rfl ?_
          refine x_lv (a := [(3, .int (nI (t / 2))), (2, .int (nI b)), (0, .ref (X.1 0)), (1, .int (nI r))]) rfl rfl ⟨rfl, rfl, rfl, rfl, trivial⟩ ?_
          rw [show p_great P r (m + 1) b = p_great P r m b from by rw [p_great]; rw [if_neg (fun e => by first | omega | (rw [hs] at c3; exact absurd c3 (Int64.not_lt.mpr e.2)))]]
          exact ih _ _ (by omega) (by omega) (by omega)
        · refine x_run 3 (pc' := 64) (lv' := [(3, .int (nI t)), (2, .int (nI b)), (0, .ref (X.1 0)), (1, .int (nI r))]) (st' := [.int ((nI b) + (nI t))]) rfl ?_
          rw [nI_add]
          refine x_run 4 (pc' := 68) (lv' := [(2, .int (nI (b + t))), (3, .int (nI t)), (0, .ref (X.1 0)), (1, .int (nI r))]) (st' := [.int ((nI t) / nI 2)]) rfl ?_
          rw [pk_div (by omega) (by omega) (by omega)]
          refine x_run 2 (pc' := 32) (lv' := [(3, .int (nI (t / 2))), (2, .int (nI (b + t))), (0, .ref (X.1 0)), (1, .int (nI r))]) (st' := []) rfl ?_
          refine x_lv (a := [(3, .int (nI (t / 2))), (2, .int (nI (b + t))), (0, .ref (X.1 0)), (1, .int (nI r))]) rfl rfl ⟨rfl, rfl, rfl, rfl, trivial⟩ ?_
          rw [show p_great P r (m + 1) b = p_great P r m (b + 2 ^ m) from by rw [p_great]; rw [if_pos ⟨by omega, by rw [← hs]; exact Int64.not_lt.mp (by assumption)⟩]]
          rw [show b + t = b + 2 ^ m by omega]; exact ih _ _ (by omega) (by omega) (by omega)
theorem c_greatest (R : Rep u v X P M z h) {r : Nat} (hr : r < 8) : Wx (d + 5) 10 0 (lv_args 0 [.ref (X.1 0), .int (nI r)]) [] h (fun r0 => r0 = (.inl (some (.int (p_greatest P r))), h)) := by
  have p4 := R.wP.pc r
  show Wx _ _ 0 [(0, .ref (X.1 0)), (1, .int (nI r))] [] h _
  refine x_run 1 (pc' := 1) (lv' := [(0, .ref (X.1 0)), (1, .int (nI r))]) (st' := [.int (nI r)]) rfl ?_
  refine x_rd0 (k' := 19) (as := [.int (nI r)]) (rest := []) (x_isS (np := 1) rfl rfl rfl rfl rfl) (c_rank R hr) ?_
  refine x_run 1 (pc' := 5) (lv' := [(0, .ref (X.1 0)), (1, .int (nI r))]) (st' := [.ref (X.1 0)]) rfl ?_
  refine x_get (v := .int (pI P 4 0)) rfl rfl R.c0 rfl ?_
  refine x_if (c := ¬ pI P 4 0 = 0) (t := 19) rfl rfl (fun c1 => ?_) (fun c1 => ?_)
  · refine x_run 1 (pc' := 20) (lv' := [(0, .ref (X.1 0)), (1, .int (nI r))]) (st' := [.int (-1)]) rfl ?_
    refine x_ret (v := some (.int (-1))) rfl rfl rfl ?_
    simp only [p_greatest, c1, not_true_eq_false, not_false_eq_true, if_true, if_false, ite_true, ite_false, reduceIte, reduceCtorEq, Classical.not_not, Bool.false_eq_true]
  · refine x_run 2 (pc' := 13) (lv' := [(0, .ref (X.1 0)), (1, .int (nI r))]) (st' := [.int (nI r), .ref (X.1 0)]) rfl ?_
    refine x_rd (v := .int (bI (p_blk P r (pn P) 0))) (k' := 24) (as := [.ref (X.1 0), .int (nI r)]) (rest := []) (x_isV (np := 1) rfl rfl rfl R.c0 rfl) (c_blk R hr) ?_
    refine x_if (c := bI (p_blk P r (pn P) 0) = 0) (t := 21) rfl rfl (fun c2 => ?_) (fun c2 => ?_)
    · replace c2 := bI_0.mp c2
      refine x_run 1 (pc' := 22) (lv' := [(0, .ref (X.1 0)), (1, .int (nI r))]) (st' := [.ref (X.1 0)]) rfl ?_
      refine x_get (v := .ref (X.1 3)) rfl rfl R.c0 rfl ?_
      refine x_run 1 (pc' := 26) (lv' := [(0, .ref (X.1 0)), (1, .int (nI r))]) (st' := [.int (nI r), .ref (X.1 3)]) rfl ?_
      refine x_iald (j := r) rfl R.c3 (mm_idx_nI (by omega) (by omega)) ?_
      refine x_run 3 (pc' := 32) (lv' := [(3, .int (8192)), (2, .int (nI (pN P 3 r))), (0, .ref (X.1 0)), (1, .int (nI r))]) (st' := []) rfl ?_
      refine x_lv (a := [(3, .int (8192)), (2, .int (nI (pN P 3 r))), (0, .ref (X.1 0)), (1, .int (nI r))]) rfl rfl ⟨rfl, rfl, rfl, rfl, trivial⟩ ?_
      rw [show p_greatest P r = nI (p_great P r 14 (pN P 3 r)) from by simp only [p_greatest, c1, c2, not_true_eq_false, not_false_eq_true, if_true, if_false, ite_true, ite_false, reduceIte, reduceCtorEq, Classical.not_not, Bool.false_eq_true]]
      exact l_great R hr 14 8192 _ (by decide) (by omega) (by omega)
    · replace c2 := bI_n0 c2
      refine x_run 1 (pc' := 20) (lv' := [(0, .ref (X.1 0)), (1, .int (nI r))]) (st' := [.int (-1)]) rfl ?_
      refine x_ret (v := some (.int (-1))) rfl rfl rfl ?_
      simp only [p_greatest, c1, c2, not_true_eq_false, not_false_eq_true, if_true, if_false, ite_true, ite_false, reduceIte, reduceCtorEq, Classical.not_not, Bool.false_eq_true]
end PUB2
end
section
/-! cells that are made: new tags, new addresses -/
section GROW
variable {u v : Nat} {X X' : xX} {P P' M : pP} {z z' : zZ} {h : mm_H} {i j T n : Nat} {c : mm_C}
theorem ct0_addr (hX : ∀ t, lv X P t → X'.1 t = X.1 t) (hs : X'.2.2 = X.2.2) : ct0 X' P M z = ct0 X P M z := by
  have e : ∀ k, k < 29 → X'.1 k = X.1 k := fun k hk => hX k (Or.inl (by omega))
  have f1 : (fun i => if i < pn P then Value.ref (X'.1 (100 + i)) else .null) = (fun i => if i < pn P then Value.ref (X.1 (100 + i)) else .null) := by
    funext i
    split
    · rw [hX (100 + i) (Or.inr (Or.inl (by omega)))]
    · rfl
  have f2 : (fun j => if j < pa P then Value.ref (X'.1 (200 + j)) else .null) = (fun j => if j < pa P then Value.ref (X.1 (200 + j)) else .null) := by
    funext j
    split
    · rw [hX (200 + j) (Or.inr (Or.inr (Or.inl (by omega))))]
    · rfl
  unfold ct0 fx fj fm
  rw [f1, f2, hs]
  simp only [e 1 (by decide), e 2 (by decide), e 3 (by decide), e 4 (by decide), e 5 (by decide), e 6 (by decide), e 7 (by decide), e 9 (by decide), e 10 (by decide), e 11 (by decide), e 12 (by decide), e 13 (by decide), e 14 (by decide), e 15 (by decide), e 16 (by decide), e 17 (by decide), e 18 (by decide), e 19 (by decide), e 20 (by decide), e 21 (by decide), e 22 (by decide), e 23 (by decide), e 24 (by decide), e 25 (by decide), e 26 (by decide)]
theorem ct_addr (hX : ∀ t, lv X P t → X'.1 t = X.1 t) (hs : X'.2.2 = X.2.2) (w : wf v P) (hw : X.2.1 ≤ 2) : ∀ t, lv X P t → ct X' P M z t = ct X P M z t := by
  intro t ht
  have n60 := w.1
  have a20 := w.2.1
  unfold ct
  rw [ct0_addr hX hs]
  split
  · rfl
  · rename_i h1
    split
    · rfl
    · rename_i h2
      split
      · rename_i h3
        have hj : t - 200 < pa P := by
          rcases ht with q | q | q | q | q <;> first | omega | (have := w.1; omega)
        unfold ctA fa
        rw [hX (300 + (t - 200)) (Or.inr (Or.inr (Or.inr (Or.inl (by omega))))), hX (400 + (t - 200)) (Or.inr (Or.inr (Or.inr (Or.inr (by omega)))))]
      · rename_i h3
        split
        · rename_i h4
          have hj : t - 300 < pa P := by
            rcases ht with q | q | q | q | q <;> omega
          unfold ctH
          have f : (fun k => if k < pN P 1 (t - 300) then Value.ref (X'.1 (100 + pN P 2 (4 * (t - 300) + k))) else .null) = (fun k => if k < pN P 1 (t - 300) then Value.ref (X.1 (100 + pN P 2 (4 * (t - 300) + k))) else .null) := by
            funext k
            split
            · rename_i hk
              have := w.hd hj hk
              rw [hX (100 + pN P 2 (4 * (t - 300) + k)) (Or.inr (Or.inl (by omega)))]
            · rfl
          rw [f]
        · rfl
theorem Rep.grow (R : Rep (u + 1) v X P M z h) (hX : ∀ t, lv X P t → X'.1 t = X.1 t) (hT : X'.1 T = h.1) (hl : ∀ t, lv X' P' t → lv X P t ∨ t = T) (hc : ct X' P' M z' T = c) (ho : ∀ t, lv X P t → ct X' P' M z' t = ct X P M z t) (wP : wf v P') (hw : X'.2.1 ≤ 2) (hn : n ≤ 60) : Rep u v X' P' M z' (mm_push h n c) := by
  refine ⟨fun t ht => ?_, fun t t' ht ht' e => ?_, ?_, wP, R.wM, hw⟩
  · rcases hl t ht with q | q
    · obtain ⟨h1, h2⟩ := R.1 t q
      rw [hX t q]
      refine ⟨?_, Nat.lt_succ_of_lt h2⟩
      rw [mm_push_ne _ _ _ (Nat.ne_of_lt h2), h1, ho t q]
    · subst q
      rw [hT]
      refine ⟨?_, Nat.lt_succ_self _⟩
      rw [mm_push_self, hc]
  · rcases hl t ht with q | q
    · have g := (R.1 t q).2
      rcases hl t' ht' with q' | q'
      · rw [hX t q, hX t' q'] at e
        exact R.2.1 t t' q q' e
      · subst q'
        rw [hX t q, hT] at e
        omega
    · subst q
      rcases hl t' ht' with q' | q'
      · have g := (R.1 t' q').2
        rw [hX t' q', hT] at e
        omega
      · exact q'.symm
  · obtain ⟨h1, h2⟩ := R.2.2.1
    exact ⟨(show u ≤ h.2.1.1 - 1 by omega), (show 60 * u ≤ h.2.1.2 - n by omega)⟩
/-- other addresses at tags that have no cell; the class's own rows of the last sharing given up -/
theorem Rep.close (R : Rep u v X' P M z' h) (h0 : X.2.1 = 0) (hX : ∀ t, lv X P t → X'.1 t = X.1 t) (hs : X'.2.2 = X.2.2) (h1 : z'.1 = z.1) (h2 : ∀ g, g ≠ 3 → g ≠ 4 → z'.2 g = z.2 g) : Rep u v X P M z h := by
  have hl : ∀ t, lv X P t → lv X' P t := by
    intro t ht
    rcases ht with q | q
    · exact Or.inl (by omega)
    · exact Or.inr q
  have hz : ∀ t, lv X P t → ct X P M z' t = ct X P M z t := by
    intro t ht
    have hl29 : ct0 X P M z' = ((ct0 X P M z).set 29 (.inr (1, pn P, fun i => .long (z'.2 3 i)))).set 30 (.inr (1, pn P, fun i => .long (z'.2 4 i))) := by
      unfold ct0 fm
      rw [h1, h2 0 (by decide) (by decide), h2 1 (by decide) (by decide), h2 2 (by decide) (by decide), h2 5 (by decide) (by decide)]
      rfl
    unfold ct
    rw [hl29]
    split
    · have h29 : t < 29 := by
        rcases ht with q | q | q | q | q <;> omega
      rw [List.getD_eq_getElem?_getD, List.getD_eq_getElem?_getD, List.getElem?_set_ne (by omega), List.getElem?_set_ne (by omega)]
    · rfl
  refine ⟨fun t ht => ?_, fun t t' ht ht' e => R.2.1 t t' (hl t ht) (hl t' ht') ((hX t ht).trans (e.trans (hX t' ht').symm)), R.2.2.1, R.wP, R.wM, by omega⟩
  obtain ⟨g1, g2⟩ := R.1 t (hl t ht)
  rw [hX t ht] at g1 g2
  exact ⟨by rw [g1, ct_addr hX hs R.wP (by omega) t ht, hz t ht], g2⟩
/-- a cell that is none of ours -/
theorem Rep.off {a : Nat} (R : Rep u v X P M z h) (ha : ∀ t, lv X P t → X.1 t ≠ a) (c : mm_C) : Rep u v X P M z (mm_upd h a c) :=
  ⟨fun t ht => ⟨by rw [mm_upd_ne _ _ (ha t ht)]; exact (R.1 t ht).1, (R.1 t ht).2⟩, R.2⟩
def xA (X : xX) (t a : Nat) (w : Nat) : xX := (fun q => if q = t then a else X.1 q, w, X.2.2)
theorem xA_ne (X : xX) {t a w q : Nat} (h : q ≠ t) : (xA X t a w).1 q = X.1 q := if_neg h
theorem xA_self (X : xX) (t a w : Nat) : (xA X t a w).1 t = a := if_pos rfl
/-- the two rows of the last sharing -/
def zr (z : zZ) (A B : Nat → Int64) : zZ := (z.1, fun g => if g = 3 then A else if g = 4 then B else z.2 g)
def uF (A : Nat → Int64) (q : Nat) (x : Int64) : Nat → Int64 := fun i => if i = q then x else A i
theorem zr_A (z : zZ) (A B : Nat → Int64) (q : Nat) (x : Int64) : ((zr z A B).1, s2 (zr z A B).2 3 q x) = zr z (uF A q x) B := by
  refine Prod.ext rfl ?_
  funext g i
  show s2 (zr z A B).2 3 q x g i = (zr z (uF A q x) B).2 g i
  unfold s2 zr uF
  by_cases h3 : g = 3
  · subst h3
    by_cases hi : i = q
    · simp [hi]
    · simp [hi]
  · simp [h3]
theorem zr_B (z : zZ) (A B : Nat → Int64) (q : Nat) (x : Int64) : ((zr z A B).1, s2 (zr z A B).2 4 q x) = zr z A (uF B q x) := by
  refine Prod.ext rfl ?_
  funext g i
  show s2 (zr z A B).2 4 q x g i = (zr z A (uF B q x)).2 g i
  unfold s2 zr uF
  by_cases h3 : g = 3
  · subst h3; simp
  · by_cases h4 : g = 4
    · subst h4
      by_cases hi : i = q
      · simp [hi]
      · simp [hi]
    · simp [h3, h4]
theorem Rep.arr1 (R : Rep (u + 1) v X P M z h) (h0 : X.2.1 = 0) : Rep u v (xA X 29 h.1 1) P M (zr z (fun _ => 0) (z.2 4)) (mm_push h (pn P) (.inr (1, pn P, fun _ => .long 0))) := by
  have hX : ∀ t, lv X P t → (xA X 29 h.1 1).1 t = X.1 t := fun t ht => xA_ne X (by rcases ht with q | q | q | q | q <;> omega)
  refine R.grow (T := 29) hX (xA_self _ _ _ _) (fun t ht => ?_) rfl (fun t ht => ?_) R.wP (by show 1 ≤ 2; omega) R.n60
  · rcases ht with q | q
    · have q : t < 29 + 1 := q
      by_cases e : t = 29
      · exact Or.inr e
      · exact Or.inl (Or.inl (by omega))
    · exact Or.inl (Or.inr q)
  · rw [ct_addr hX rfl R.wP R.2.2.2.2.2 t ht]
    exact ct_tag (t0 := 29) (c := .inr (1, pn P, fun _ => .long 0)) rfl (fun _ => rfl) (fun _ => rfl) (fun _ => rfl) (fun _ => rfl) t ht (by rcases ht with q | q | q | q | q <;> omega)
theorem Rep.arr2 {A : Nat → Int64} (R : Rep (u + 1) v X P M (zr z A (z.2 4)) h) (h0 : X.2.1 = 1) : Rep u v (xA X 30 h.1 2) P M (zr z A (fun _ => 0)) (mm_push h (pn P) (.inr (1, pn P, fun _ => .long 0))) := by
  have hX : ∀ t, lv X P t → (xA X 30 h.1 2).1 t = X.1 t := fun t ht => xA_ne X (by rcases ht with q | q | q | q | q <;> omega)
  refine R.grow (T := 30) hX (xA_self _ _ _ _) (fun t ht => ?_) rfl (fun t ht => ?_) R.wP (by show 2 ≤ 2; omega) R.n60
  · rcases ht with q | q
    · have q : t < 29 + 2 := q
      by_cases e : t = 30
      · exact Or.inr e
      · exact Or.inl (Or.inl (by omega))
    · exact Or.inl (Or.inr q)
  · rw [ct_addr hX rfl R.wP R.2.2.2.2.2 t ht]
    exact ct_tag (t0 := 30) (c := .inr (1, pn P, fun _ => .long 0)) rfl (fun _ => rfl) (fun _ => rfl) (fun _ => rfl) (fun _ => rfl) t ht (by rcases ht with q | q | q | q | q <;> omega)
end GROW
end
section
/-! the last sharing, as the class does it -/
def oI : Option Nat → Int32
  | none => -1
  | some k => nI k
theorem nI_m1 {k : Nat} (h : k < 2 ^ 31) : ¬ nI k = -1 := by
  intro e
  have := nI_pos' h
  rw [e] at this
  exact absurd this (by decide)
theorem nz_of {y : Int64} (h : ¬ y ≤ 0) : ¬ y = 0 := fun e => h (by rw [e]; exact Int64.le_refl 0)
def p_bst (B : Nat → Int64) : Nat → Nat → Option Nat → Int64 → Option Nat × Int64
  | 0, _, o, g => (o, g)
  | m + 1, i, o, g => if B i ≤ g then p_bst B m (i + 1) o g else p_bst B m (i + 1) (some i) (B i)
theorem p_bst_lt (B : Nat → Int64) : ∀ (m i : Nat) (o : Option Nat) (g : Int64) (n k : Nat), i + m = n → (∀ k, o = some k → k < n) → (p_bst B m i o g).1 = some k → k < n
  | 0, i, o, g, n, k, _, ho, h => ho k h
  | m + 1, i, o, g, n, k, hm, ho, h => by
    unfold p_bst at h
    split at h
    · exact p_bst_lt B m (i + 1) o g n k (by omega) ho h
    · exact p_bst_lt B m (i + 1) (some i) (B i) n k (by omega) (fun k e => by cases e; omega) h
def p_add (n : Nat) : Nat → (Nat → Int64) → (Nat → Int64) → (Nat → Int64) × (Nat → Int64)
  | 0, A, B => (A, B)
  | m + 1, A, B => match (p_bst B n 0 none 0).1 with
    | none => (A, B)
    | some k => p_add n m (uF A k (A k + 1)) (uF B k 0)
def p_sh (P : pP) (r : Nat) (all pot : Int64) : Nat → Nat → (Nat → Int64) → (Nat → Int64) → Int64 → ((Nat → Int64) × (Nat → Int64)) × Int64
  | 0, _, A, B, l => ((A, B), l)
  | m + 1, i, A, B, l => if pN P 0 i = r then (if all ≤ 0 then p_sh P r all pot m (i + 1) A B l else p_sh P r all pot m (i + 1) (uF A i (p_unpaid P i * pot / all)) (uF B i (p_unpaid P i * pot - p_unpaid P i * pot / all * all)) (l - uF A i (p_unpaid P i * pot / all) i)) else p_sh P r all pot m (i + 1) A B l
def p_payA (A : Nat → Int64) : Nat → Nat → pP → pP
  | 0, _, P => P
  | m + 1, i, P => p_payA A m (i + 1) (p_pay P i (A i))
def p_sh0 (P : pP) (r : Nat) (all : Int64) : ((Nat → Int64) × (Nat → Int64)) × Int64 := p_sh P r all (pL P 7 0) (pn P) 0 (fun _ => 0) (fun _ => 0) (pL P 7 0)
def p_shA (P : pP) (r : Nat) (all : Int64) : (Nat → Int64) × (Nat → Int64) := p_add (pn P) (p_sh0 P r all).2.toInt.toNat (p_sh0 P r all).1.1 (p_sh0 P r all).1.2
def p_share (P : pP) (r : Nat) (all : Int64) : pP := p_payA (p_shA P r all).1 (pn P) 0 P
def p_rank (P : pP) (r : Nat) : pP := if p_sumU P r (pn P) 0 0 ≤ pL P 7 0 then p_pays r (pn P) 0 P else p_share P r (p_sumU P r (pn P) 0 0)
def p_ranks : Nat → Nat → pP → pP
  | 0, _, P => P
  | m + 1, r, P => p_ranks m (r + 1) (p_rank P r)
def p_unr (P : pP) : Nat → Nat → Bool
  | 0, _ => false
  | m + 1, j => if pI P 1 j = 0 then true else p_unr P m (j + 1)
def p_end1 (opn : pP → Nat → Bool) (P : pP) : pP := (p_serveR opn (7 + 1) 0 (p_drop (pn P) 0 P) 0).1
def p_end2 (opn : pP → Nat → Bool) (P : pP) : pP := p_ranks 8 0 (p_end1 opn P)
def o_end (opn : pP → Nat → Bool) (P : pP) : oO := if ¬ pI P 4 0 = 0 then (6, none, P) else if p_unr P (pa P) 0 = true then (6, none, P) else (0, some (.long (pL (p_end2 opn P) 7 0)), sI (p_end2 opn P) 4 0 1)
theorem sh_payA (A : Nat → Int64) : ∀ (m i : Nat) (P : pP), Sh P (p_payA A m i P)
  | 0, _, P => Sh.refl P
  | m + 1, i, P => by
    unfold p_payA
    exact Sh.trans ⟨rfl, rfl, rfl⟩ (sh_payA A m (i + 1) _)
theorem sh_rank (P : pP) (r : Nat) : Sh P (p_rank P r) := by
  unfold p_rank
  split
  · exact sh_pays r _ 0 P
  · exact sh_payA _ _ 0 P
theorem dec_step {c l : Int64} {m : Nat} (h : (l.toInt - c.toInt).toNat = m + 1) : ¬ l ≤ c ∧ (l.toInt - (c + 1).toInt).toNat = m := by
  have hl := Int64.toInt_lt l
  have hc := Int64.le_toInt c
  have h1 : c.toInt < l.toInt := by omega
  have e : (c + 1).toInt = c.toInt + 1 := by
    rw [Int64.toInt_add, show (1 : Int64).toInt = 1 from by decide]
    exact Int.bmod_eq_of_le (by omega) (by omega)
  refine ⟨fun q => ?_, by rw [e]; omega⟩
  rw [Int64.le_iff_toInt_le] at q
  omega
end
section
section SHR
variable {u v d : Nat} {X : xX} {P M : pP} {z : zZ} {h : mm_H} {i j : Nat}
theorem l_bst {A B : Nat → Int64} (R : Rep u v X P M (zr z A B) h) (hw : X.2.1 = 2) {c l : Int64} {Q : mm_O × mm_H → Prop} : ∀ (m i : Nat) (o : Option Nat) (g : Int64), i + m = pn P → Wx d 34 52 [(6, .int (oI (p_bst B m i o g).1)), (4, .long c), (0, .ref (X.1 29)), (1, .ref (X.1 30)), (2, .long l)] [] h Q → Wx d 34 19 [(9, .int (nI i)), (7, .long (g)), (6, .int (oI o)), (4, .long (c)), (0, .ref (X.1 29)), (1, .ref (X.1 30)), (2, .long (l))] [] h Q := by
  intro m
  induction m with
  | zero =>
    intro i o g hm kk
    have n60 := R.n60
    refine x_run 2 (pc' := 22) (lv' := [(9, .int (nI i)), (7, .long (g)), (6, .int (oI o)), (4, .long (c)), (0, .ref (X.1 29)), (1, .ref (X.1 30)), (2, .long (l))]) (st' := [.ref (X.1 30), .int (nI i)]) rfl ?_
    refine x_alen1 rfl (R.c30 hw) ?_
    refine x_if (c := nI (pn P) ≤ nI i) (t := 52) rfl rfl (fun c1 => ?_) (fun c1 => ?_)
    · replace c1 := (nI_leI (by omega) (by omega)).mp c1
      refine x_lv (a := [(6, .int (oI o)), (4, .long (c)), (0, .ref (X.1 29)), (1, .ref (X.1 30)), (2, .long (l))]) rfl rfl ⟨rfl, rfl, rfl, rfl, rfl, trivial⟩ ?_
      exact kk
    · replace c1 := mt (nI_leI (by omega) (by omega)).mpr c1
      omega
  | succ m ih =>
    intro i o g hm kk
    have n60 := R.n60
    refine x_run 2 (pc' := 22) (lv' := [(9, .int (nI i)), (7, .long (g)), (6, .int (oI o)), (4, .long (c)), (0, .ref (X.1 29)), (1, .ref (X.1 30)), (2, .long (l))]) (st' := [.ref (X.1 30), .int (nI i)]) rfl ?_
    refine x_alen1 rfl (R.c30 hw) ?_
    refine x_if (c := nI (pn P) ≤ nI i) (t := 52) rfl rfl (fun c1 => ?_) (fun c1 => ?_)
    · replace c1 := (nI_leI (by omega) (by omega)).mp c1
      omega
    · replace c1 := mt (nI_leI (by omega) (by omega)).mpr c1
      refine x_run 2 (pc' := 29) (lv' := [(9, .int (nI i)), (7, .long (g)), (6, .int (oI o)), (4, .long (c)), (0, .ref (X.1 29)), (1, .ref (X.1 30)), (2, .long (l))]) (st' := [.int (nI i), .ref (X.1 30)]) rfl ?_
      refine x_lald (j := i) rfl (R.c30 hw) (mm_idx_nI (by omega) (by omega)) ?_
      refine x_run 1 (pc' := 32) (lv' := [(9, .int (nI i)), (7, .long (g)), (6, .int (oI o)), (4, .long (c)), (0, .ref (X.1 29)), (1, .ref (X.1 30)), (2, .long (l))]) (st' := [.long (g), .long (B i)]) rfl ?_
      refine x_lle (t := 46) rfl rfl rfl (fun c2 => ?_) (fun c2 => ?_)
      · refine x_run 1 (pc' := 49) (lv' := [(9, .int (nI i + 1)), (7, .long (g)), (6, .int (oI o)), (4, .long (c)), (0, .ref (X.1 29)), (1, .ref (X.1 30)), (2, .long (l))]) (st' := []) rfl ?_
        rw [nI_1]
        refine x_run 1 (pc' := 19) (lv' := [(9, .int (nI (i + 1))), (7, .long (g)), (6, .int (oI o)), (4, .long (c)), (0, .ref (X.1 29)), (1, .ref (X.1 30)), (2, .long (l))]) (st' := []) rfl ?_
        refine x_lv (a := [(9, .int (nI (i + 1))), (7, .long (g)), (6, .int (oI o)), (4, .long (c)), (0, .ref (X.1 29)), (1, .ref (X.1 30)), (2, .long (l))]) rfl rfl ⟨rfl, rfl, rfl, rfl, rfl, rfl, rfl, trivial⟩ ?_
        rw [show p_bst B (m + 1) i o g = p_bst B m (i + 1) o g from by rw [p_bst]; rw [if_pos (by assumption)]] at kk
        exact ih (i + 1) o _ (by omega) kk
      · refine x_run 4 (pc' := 43) (lv' := [(6, .int (nI i)), (9, .int (nI i)), (7, .long (g)), (4, .long (c)), (0, .ref (X.1 29)), (1, .ref (X.1 30)), (2, .long (l))]) (st' := [.int (nI i), .ref (X.1 30)]) rfl ?_
        refine x_lald (j := i) rfl (R.c30 hw) (mm_idx_nI (by omega) (by omega)) ?_
        refine x_run 2 (pc' := 49) (lv' := [(9, .int (nI i + 1)), (7, .long (B i)), (6, .int (nI i)), (4, .long (c)), (0, .ref (X.1 29)), (1, .ref (X.1 30)), (2, .long (l))]) (st' := []) rfl ?_
        rw [nI_1]
        refine x_run 1 (pc' := 19) (lv' := [(9, .int (nI (i + 1))), (7, .long (B i)), (6, .int (nI i)), (4, .long (c)), (0, .ref (X.1 29)), (1, .ref (X.1 30)), (2, .long (l))]) (st' := []) rfl ?_
        refine x_lv (a := [(9, .int (nI (i + 1))), (7, .long (B i)), (6, .int (nI i)), (4, .long (c)), (0, .ref (X.1 29)), (1, .ref (X.1 30)), (2, .long (l))]) rfl rfl ⟨rfl, rfl, rfl, rfl, rfl, rfl, rfl, trivial⟩ ?_
        rw [show p_bst B (m + 1) i o g = p_bst B m (i + 1) (some i) (B i) from by rw [p_bst]; rw [if_neg (by assumption)]] at kk
        exact ih (i + 1) (some i) _ (by omega) kk
theorem l_add (hw : X.2.1 = 2) {l : Int64} : ∀ (m : Nat) (c : Int64) (A B : Nat → Int64) (h : mm_H), Rep u v X P M (zr z A B) h → (l.toInt - c.toInt).toNat = m → Wx d 34 3 [(4, .long (c)), (0, .ref (X.1 29)), (1, .ref (X.1 30)), (2, .long (l))] [] h (fun r0 => r0.1 = .inl none ∧ Rep u v X P M (zr z (p_add (pn P) m A B).1 (p_add (pn P) m A B).2) r0.2) := by
  intro m
  induction m with
  | zero =>
    intro c A B h R hm
    have n60 := R.n60
    refine x_run 2 (pc' := 6) (lv' := [(4, .long (c)), (0, .ref (X.1 29)), (1, .ref (X.1 30)), (2, .long (l))]) (st' := [.long (l), .long (c)]) rfl ?_
    refine x_lge (t := 81) rfl rfl rfl (fun c1 => ?_) (fun c1 => ?_)
    · refine x_ret (v := none) rfl rfl rfl ⟨rfl, ?_⟩
      exact R
    · exact absurd (Int64.le_iff_toInt_le.mpr (by omega)) c1
  | succ m ih =>
    intro c A B h R hm
    have n60 := R.n60
    refine x_run 2 (pc' := 6) (lv' := [(4, .long (c)), (0, .ref (X.1 29)), (1, .ref (X.1 30)), (2, .long (l))]) (st' := [.long (l), .long (c)]) rfl ?_
    refine x_lge (t := 81) rfl rfl rfl (fun c1 => ?_) (fun c1 => ?_)
    · exact absurd c1 (dec_step hm).1
    · refine x_run 6 (pc' := 19) (lv' := [(9, .int (0)), (7, .long (0)), (6, .int (-1)), (4, .long (c)), (0, .ref (X.1 29)), (1, .ref (X.1 30)), (2, .long (l))]) (st' := []) rfl ?_
      refine x_lv (a := [(9, .int (0)), (7, .long (0)), (6, .int (oI none)), (4, .long (c)), (0, .ref (X.1 29)), (1, .ref (X.1 30)), (2, .long (l))]) rfl rfl ⟨rfl, rfl, rfl, rfl, rfl, rfl, rfl, trivial⟩ ?_
      refine l_bst R hw (pn P) 0 none 0 (by omega) ?_
      cases hb : (p_bst B (pn P) 0 none 0).1 with
      | none =>
        refine x_run 2 (pc' := 55) (lv' := [(6, .int (-1)), (4, .long (c)), (0, .ref (X.1 29)), (1, .ref (X.1 30)), (2, .long (l))]) (st' := [.int (-1), .int (-1)]) rfl ?_
        refine x_if (c := ¬ -1 = -1) (t := 59) rfl rfl (fun c2 => ?_) (fun c2 => ?_)
        · exact absurd rfl c2
        · refine x_ret (v := none) rfl rfl rfl ⟨rfl, ?_⟩
          rw [show p_add (pn P) (m + 1) A B = (A, B) from by rw [p_add, hb]]
          exact R
      | some k =>
        have hk := p_bst_lt B _ _ _ _ _ _ (Nat.zero_add _) (by intro k e; cases e) hb
        refine x_run 2 (pc' := 55) (lv' := [(6, .int (nI k)), (4, .long (c)), (0, .ref (X.1 29)), (1, .ref (X.1 30)), (2, .long (l))]) (st' := [.int (-1), .int (nI k)]) rfl ?_
        refine x_if (c := ¬ nI k = -1) (t := 59) rfl rfl (fun c3 => ?_) (fun c3 => ?_)
        · refine x_run 3 (pc' := 63) (lv' := [(6, .int (nI k)), (4, .long (c)), (0, .ref (X.1 29)), (1, .ref (X.1 30)), (2, .long (l))]) (st' := [.int (nI k), .ref (X.1 29), .int (nI k), .ref (X.1 29)]) rfl ?_
          refine x_lald (j := k) rfl (R.c29 hw) (mm_idx_nI (by omega) (by omega)) ?_
          refine x_run 2 (pc' := 66) (lv' := [(6, .int (nI k)), (4, .long (c)), (0, .ref (X.1 29)), (1, .ref (X.1 30)), (2, .long (l))]) (st' := [.long ((A k) + 1), .int (nI k), .ref (X.1 29)]) rfl ?_
          refine x_last (j := k) rfl (R.c29 hw) (mm_idx_nI (by omega) (by omega)) ?_
          refine gen_h (A := Rep u v X P M (((zr z A B).1, s2 (zr z A B).2 3 k ((A k) + 1)))) (R.uShare _ hw) (fun h R => ?_)
          rw [zr_A] at R
          refine x_run 3 (pc' := 71) (lv' := [(6, .int (nI k)), (4, .long (c)), (0, .ref (X.1 29)), (1, .ref (X.1 30)), (2, .long (l))]) (st' := [.long (0), .int (nI k), .ref (X.1 30)]) rfl ?_
          refine x_last (j := k) rfl (R.c30 hw) (mm_idx_nI (by omega) (by omega)) ?_
          refine gen_h (A := Rep u v X P M (((zr z (uF A k ((A k) + 1)) B).1, s2 (zr z (uF A k ((A k) + 1)) B).2 4 k (0)))) (R.uRem _ hw) (fun h R => ?_)
          rw [zr_B] at R
          refine x_run 5 (pc' := 3) (lv' := [(4, .long (c + 1)), (6, .int (nI k)), (0, .ref (X.1 29)), (1, .ref (X.1 30)), (2, .long (l))]) (st' := []) rfl ?_
          refine x_lv (a := [(4, .long (c + 1)), (0, .ref (X.1 29)), (1, .ref (X.1 30)), (2, .long (l))]) rfl rfl ⟨rfl, rfl, rfl, rfl, trivial⟩ ?_
          rw [show p_add (pn P) (m + 1) A B = p_add (pn P) m (uF A k (A k + 1)) (uF B k 0) from by rw [p_add, hb]]
          exact ih _ _ _ _ R (dec_step hm).2
        · exact absurd (Classical.not_not.mp c3) (nI_m1 (by omega))
theorem c_add {A B : Nat → Int64} (R : Rep u v X P M (zr z A B) h) (hw : X.2.1 = 2) (l : Int64) : Wx (d) 34 0 (lv_args 0 [.ref (X.1 29), .ref (X.1 30), .long (l)]) [] h (fun r0 => r0.1 = .inl none ∧ Rep u v X P M (zr z (p_add (pn P) l.toInt.toNat A B).1 (p_add (pn P) l.toInt.toNat A B).2) r0.2) := by
  show Wx _ _ 0 [(0, .ref (X.1 29)), (1, .ref (X.1 30)), (2, .long (l))] [] h _
  refine x_run 2 (pc' := 3) (lv' := [(4, .long (0)), (0, .ref (X.1 29)), (1, .ref (X.1 30)), (2, .long (l))]) (st' := []) rfl ?_
  refine x_lv (a := [(4, .long (0)), (0, .ref (X.1 29)), (1, .ref (X.1 30)), (2, .long (l))]) rfl rfl ⟨rfl, rfl, rfl, rfl, trivial⟩ ?_
  exact l_add hw _ 0 A B h R (by rw [show (0 : Int64).toInt = 0 from by decide, Int.sub_zero])
theorem l_sh (hw : X.2.1 = 2) {r : Nat} (hr : r < 8) {all pot : Int64} {Q : mm_O × mm_H → Prop} : ∀ (m i : Nat) (l : Int64) (A B : Nat → Int64) (h : mm_H), Rep u v X P M (zr z A B) h → i + m = pn P → (∀ h, Rep u v X P M (zr z (p_sh P r all pot m i A B l).1.1 (p_sh P r all pot m i A B l).1.2) h → Wx (d + 3) 33 107 [(6, .long (p_sh P r all pot m i A B l).2), (4, .long pot), (0, .ref (X.1 0)), (1, .int (nI r)), (2, .long all), (8, .ref (X.1 29)), (9, .ref (X.1 30))] [] h Q) → Wx (d + 3) 33 29 [(10, .int (nI i)), (6, .long (l)), (4, .long (pot)), (0, .ref (X.1 0)), (1, .int (nI r)), (2, .long (all)), (8, .ref (X.1 29)), (9, .ref (X.1 30))] [] h Q := by
  intro m
  induction m with
  | zero =>
    intro i l A B h R hm kk
    have n60 := R.n60
    refine x_run 2 (pc' := 32) (lv' := [(10, .int (nI i)), (6, .long (l)), (4, .long (pot)), (0, .ref (X.1 0)), (1, .int (nI r)), (2, .long (all)), (8, .ref (X.1 29)), (9, .ref (X.1 30))]) (st' := [.ref (X.1 0), .int (nI i)]) rfl ?_
    refine x_get (v := .int (nI (pn P))) rfl rfl R.c0 rfl ?_
    refine x_if (c := nI (pn P) ≤ nI i) (t := 107) rfl rfl (fun c1 => ?_) (fun c1 => ?_)
    · replace c1 := (nI_leI (by omega) (by omega)).mp c1
      refine x_lv (a := [(6, .long (l)), (4, .long (pot)), (0, .ref (X.1 0)), (1, .int (nI r)), (2, .long (all)), (8, .ref (X.1 29)), (9, .ref (X.1 30))]) rfl rfl ⟨rfl, rfl, rfl, rfl, rfl, rfl, rfl, trivial⟩ ?_
      exact kk h R
    · replace c1 := mt (nI_leI (by omega) (by omega)).mpr c1
      omega
  | succ m ih =>
    intro i l A B h R hm kk
    have n60 := R.n60
    have hi : i < pn P := by omega
    have r8 := R.wP.rk hi
    refine x_run 2 (pc' := 32) (lv' := [(10, .int (nI i)), (6, .long (l)), (4, .long (pot)), (0, .ref (X.1 0)), (1, .int (nI r)), (2, .long (all)), (8, .ref (X.1 29)), (9, .ref (X.1 30))]) (st' := [.ref (X.1 0), .int (nI i)]) rfl ?_
    refine x_get (v := .int (nI (pn P))) rfl rfl R.c0 rfl ?_
    refine x_if (c := nI (pn P) ≤ nI i) (t := 107) rfl rfl (fun c1 => ?_) (fun c1 => ?_)
    · replace c1 := (nI_leI (by omega) (by omega)).mp c1
      omega
    · replace c1 := mt (nI_leI (by omega) (by omega)).mpr c1
      refine x_run 1 (pc' := 39) (lv' := [(10, .int (nI i)), (6, .long (l)), (4, .long (pot)), (0, .ref (X.1 0)), (1, .int (nI r)), (2, .long (all)), (8, .ref (X.1 29)), (9, .ref (X.1 30))]) (st' := [.ref (X.1 0)]) rfl ?_
      refine x_get (v := .ref (X.1 1)) rfl rfl R.c0 rfl ?_
      refine x_run 1 (pc' := 44) (lv' := [(10, .int (nI i)), (6, .long (l)), (4, .long (pot)), (0, .ref (X.1 0)), (1, .int (nI r)), (2, .long (all)), (8, .ref (X.1 29)), (9, .ref (X.1 30))]) (st' := [.int (nI i), .ref (X.1 1)]) rfl ?_
      refine x_aald3 (j := i) rfl R.c1 (mm_idx_nI (by omega) (by omega)) ?_
      rw [if_pos hi]
      refine x_get (v := .int (nI (pN P 0 i))) rfl rfl (R.cC hi) rfl ?_
      refine x_run 1 (pc' := 49) (lv' := [(10, .int (nI i)), (6, .long (l)), (4, .long (pot)), (0, .ref (X.1 0)), (1, .int (nI r)), (2, .long (all)), (8, .ref (X.1 29)), (9, .ref (X.1 30))]) (st' := [.int (nI r), .int (nI (pN P 0 i))]) rfl ?_
      refine x_if (c := ¬ nI (pN P 0 i) = nI r) (t := 101) rfl rfl (fun c2 => ?_) (fun c2 => ?_)
      · replace c2 := mt (nI_eq (by omega) (by omega)).mpr c2
        refine x_run 1 (pc' := 104) (lv' := [(10, .int (nI i + 1)), (6, .long (l)), (4, .long (pot)), (0, .ref (X.1 0)), (1, .int (nI r)), (2, .long (all)), (8, .ref (X.1 29)), (9, .ref (X.1 30))]) (st' := []) rfl ?_
        rw [nI_1]
        refine x_run 1 (pc' := 29) (lv' := [(10, .int (nI (i + 1))), (6, .long (l)), (4, .long (pot)), (0, .ref (X.1 0)), (1, .int (nI r)), (2, .long (all)), (8, .ref (X.1 29)), (9, .ref (X.1 30))]) (st' := []) rfl ?_
        refine x_lv (a := [(10, .int (nI (i + 1))), (6, .long (l)), (4, .long (pot)), (0, .ref (X.1 0)), (1, .int (nI r)), (2, .long (all)), (8, .ref (X.1 29)), (9, .ref (X.1 30))]) rfl rfl ⟨rfl, rfl, rfl, rfl, rfl, rfl, rfl, rfl, trivial⟩ ?_
        rw [show p_sh P r all pot (m + 1) i A B l = p_sh P r all pot m (i + 1) A B l from by rw [p_sh]; rw [if_neg (by omega)]] at kk
        exact ih (i + 1) _ _ _ _ R (by omega) kk
      · replace c2 := (nI_eq (by omega) (by omega)).mp (Classical.not_not.mp c2)
        refine x_run 2 (pc' := 54) (lv' := [(10, .int (nI i)), (6, .long (l)), (4, .long (pot)), (0, .ref (X.1 0)), (1, .int (nI r)), (2, .long (all)), (8, .ref (X.1 29)), (9, .ref (X.1 30))]) (st' := [.long (0), .long (all)]) rfl ?_
        refine x_lle (t := 101) rfl rfl rfl (fun c3 => ?_) (fun c3 => ?_)
        · refine x_run 1 (pc' := 104) (lv' := [(10, .int (nI i + 1)), (6, .long (l)), (4, .long (pot)), (0, .ref (X.1 0)), (1, .int (nI r)), (2, .long (all)), (8, .ref (X.1 29)), (9, .ref (X.1 30))]) (st' := []) rfl ?_
          rw [nI_1]
          refine x_run 1 (pc' := 29) (lv' := [(10, .int (nI (i + 1))), (6, .long (l)), (4, .long (pot)), (0, .ref (X.1 0)), (1, .int (nI r)), (2, .long (all)), (8, .ref (X.1 29)), (9, .ref (X.1 30))]) (st' := []) rfl ?_
          refine x_lv (a := [(10, .int (nI (i + 1))), (6, .long (l)), (4, .long (pot)), (0, .ref (X.1 0)), (1, .int (nI r)), (2, .long (all)), (8, .ref (X.1 29)), (9, .ref (X.1 30))]) rfl rfl ⟨rfl, rfl, rfl, rfl, rfl, rfl, rfl, rfl, trivial⟩ ?_
          rw [show p_sh P r all pot (m + 1) i A B l = p_sh P r all pot m (i + 1) A B l from by rw [p_sh]; rw [if_pos (by omega), if_pos (by assumption)]] at kk
          exact ih (i + 1) _ _ _ _ R (by omega) kk
        · refine x_run 1 (pc' := 59) (lv' := [(10, .int (nI i)), (6, .long (l)), (4, .long (pot)), (0, .ref (X.1 0)), (1, .int (nI r)), (2, .long (all)), (8, .ref (X.1 29)), (9, .ref (X.1 30))]) (st' := [.ref (X.1 0)]) rfl ?_
          refine x_get (v := .ref (X.1 1)) rfl rfl R.c0 rfl ?_
          refine x_run 1 (pc' := 64) (lv' := [(10, .int (nI i)), (6, .long (l)), (4, .long (pot)), (0, .ref (X.1 0)), (1, .int (nI r)), (2, .long (all)), (8, .ref (X.1 29)), (9, .ref (X.1 30))]) (st' := [.int (nI i), .ref (X.1 1)]) rfl ?_
          refine x_aald3 (j := i) rfl R.c1 (mm_idx_nI (by omega) (by omega)) ?_
          rw [if_pos hi]
          refine x_rd (v := .long (p_unpaid P i)) (k' := 45) (as := [.ref (X.1 (100 + i))]) (rest := []) (x_isV (np := 0) rfl rfl rfl (R.cC hi) rfl) (c_unpaid R hi) ?_
          refine x_run 7 (pc' := 80) (lv' := [(11, .long ((p_unpaid P i) * pot)), (10, .int (nI i)), (6, .long (l)), (4, .long (pot)), (0, .ref (X.1 0)), (1, .int (nI r)), (2, .long (all)), (8, .ref (X.1 29)), (9, .ref (X.1 30))]) (st' := [.long (all), .long ((p_unpaid P i) * pot), .int (nI i), .ref (X.1 29)]) rfl ?_
          refine x_ldiv rfl (by first | assumption | exact nz_of (by assumption)) ?_
          refine x_last (j := i) rfl (R.c29 hw) (mm_idx_nI (by omega) (by omega)) ?_
          refine gen_h (A := Rep u v X P M (((zr z A B).1, s2 (zr z A B).2 3 i (((p_unpaid P i) * pot) / all)))) (R.uShare _ hw) (fun h R => ?_)
          rw [zr_A] at R
          refine x_run 4 (pc' := 89) (lv' := [(11, .long ((p_unpaid P i) * pot)), (10, .int (nI i)), (6, .long (l)), (4, .long (pot)), (0, .ref (X.1 0)), (1, .int (nI r)), (2, .long (all)), (8, .ref (X.1 29)), (9, .ref (X.1 30))]) (st' := [.long (all), .long ((p_unpaid P i) * pot), .int (nI i), .ref (X.1 30)]) rfl ?_
          refine x_lrem rfl (by first | assumption | exact nz_of (by assumption)) ?_
          refine x_last (j := i) rfl (R.c30 hw) (mm_idx_nI (by omega) (by omega)) ?_
          refine gen_h (A := Rep u v X P M (((zr z (uF A i (((p_unpaid P i) * pot) / all)) B).1, s2 (zr z (uF A i (((p_unpaid P i) * pot) / all)) B).2 4 i (((p_unpaid P i) * pot) - ((p_unpaid P i) * pot) / all * all)))) (R.uRem _ hw) (fun h R => ?_)
          rw [zr_B] at R
          refine x_run 3 (pc' := 97) (lv' := [(11, .long ((p_unpaid P i) * pot)), (10, .int (nI i)), (6, .long (l)), (4, .long (pot)), (0, .ref (X.1 0)), (1, .int (nI r)), (2, .long (all)), (8, .ref (X.1 29)), (9, .ref (X.1 30))]) (st' := [.int (nI i), .ref (X.1 29), .long (l)]) rfl ?_
          refine x_lald (j := i) rfl (R.c29 hw) (mm_idx_nI (by omega) (by omega)) ?_
          refine x_run 3 (pc' := 104) (lv' := [(10, .int (nI i + 1)), (6, .long (l - ((uF A i (((p_unpaid P i) * pot) / all)) i))), (11, .long ((p_unpaid P i) * pot)), (4, .long (pot)), (0, .ref (X.1 0)), (1, .int (nI r)), (2, .long (all)), (8, .ref (X.1 29)), (9, .ref (X.1 30))]) (st' := []) rfl ?_
          rw [nI_1]
          refine x_run 1 (pc' := 29) (lv' := [(10, .int (nI (i + 1))), (6, .long (l - ((uF A i (((p_unpaid P i) * pot) / all)) i))), (11, .long ((p_unpaid P i) * pot)), (4, .long (pot)), (0, .ref (X.1 0)), (1, .int (nI r)), (2, .long (all)), (8, .ref (X.1 29)), (9, .ref (X.1 30))]) (st' := []) rfl ?_
          refine x_lv (a := [(10, .int (nI (i + 1))), (6, .long (l - ((uF A i (((p_unpaid P i) * pot) / all)) i))), (4, .long (pot)), (0, .ref (X.1 0)), (1, .int (nI r)), (2, .long (all)), (8, .ref (X.1 29)), (9, .ref (X.1 30))]) rfl rfl ⟨rfl, rfl, rfl, rfl, rfl, rfl, rfl, rfl, trivial⟩ ?_
          rw [show p_sh P r all pot (m + 1) i A B l = p_sh P r all pot m (i + 1) (uF A i (((p_unpaid P i) * pot) / all)) (uF B i (((p_unpaid P i) * pot) - ((p_unpaid P i) * pot) / all * all)) (l - ((uF A i (((p_unpaid P i) * pot) / all)) i)) from by rw [p_sh]; rw [if_pos (by omega), if_neg (by assumption)]] at kk
          exact ih (i + 1) _ _ _ _ R (by omega) kk
theorem l_payA (hw : X.2.1 = 2) {A B : Nat → Int64} {Q : mm_O × mm_H → Prop} : ∀ (m i : Nat) (P : pP) (h : mm_H), Rep u (v + m) X P M (zr z A B) h → i + m = pn P → (∀ h, Rep u v X (p_payA A m i P) M (zr z A B) h → Wx (d + 2) 33 150 [(0, .ref (X.1 0))] [] h Q) → Wx (d + 2) 33 119 [(10, .int (nI i)), (0, .ref (X.1 0)), (8, .ref (X.1 29))] [] h Q := by
  intro m
  induction m with
  | zero =>
    intro i P h R hm kk
    have n60 := R.n60
    refine x_run 2 (pc' := 122) (lv' := [(10, .int (nI i)), (0, .ref (X.1 0)), (8, .ref (X.1 29))]) (st' := [.ref (X.1 0), .int (nI i)]) rfl ?_
    refine x_get (v := .int (nI (pn P))) rfl rfl R.c0 rfl ?_
    refine x_if (c := nI (pn P) ≤ nI i) (t := 150) rfl rfl (fun c1 => ?_) (fun c1 => ?_)
    · replace c1 := (nI_leI (by omega) (by omega)).mp c1
      refine x_lv (a := [(0, .ref (X.1 0))]) rfl rfl ⟨rfl, trivial⟩ ?_
      exact kk h R
    · replace c1 := mt (nI_leI (by omega) (by omega)).mpr c1
      omega
  | succ m ih =>
    intro i P h R hm kk
    have R : Rep u (v + m + 1) X P M (zr z A B) h := R
    have n60 := R.n60
    have hi : i < pn P := by omega
    refine x_run 2 (pc' := 122) (lv' := [(10, .int (nI i)), (0, .ref (X.1 0)), (8, .ref (X.1 29))]) (st' := [.ref (X.1 0), .int (nI i)]) rfl ?_
    refine x_get (v := .int (nI (pn P))) rfl rfl R.c0 rfl ?_
    refine x_if (c := nI (pn P) ≤ nI i) (t := 150) rfl rfl (fun c1 => ?_) (fun c1 => ?_)
    · replace c1 := (nI_leI (by omega) (by omega)).mp c1
      omega
    · replace c1 := mt (nI_leI (by omega) (by omega)).mpr c1
      refine x_run 2 (pc' := 130) (lv' := [(10, .int (nI i)), (0, .ref (X.1 0)), (8, .ref (X.1 29))]) (st' := [.ref (X.1 0), .ref (X.1 0)]) rfl ?_
      refine x_get (v := .ref (X.1 1)) rfl rfl R.c0 rfl ?_
      refine x_run 1 (pc' := 135) (lv' := [(10, .int (nI i)), (0, .ref (X.1 0)), (8, .ref (X.1 29))]) (st' := [.int (nI i), .ref (X.1 1), .ref (X.1 0)]) rfl ?_
      refine x_aald3 (j := i) rfl R.c1 (mm_idx_nI (by omega) (by omega)) ?_
      rw [if_pos hi]
      refine x_run 2 (pc' := 140) (lv' := [(10, .int (nI i)), (0, .ref (X.1 0)), (8, .ref (X.1 29))]) (st' := [.int (nI i), .ref (X.1 29), .ref (X.1 (100 + i)), .ref (X.1 0)]) rfl ?_
      refine x_lald (j := i) rfl (R.c29 hw) (mm_idx_nI (by omega) (by omega)) ?_
      refine x_wr0 (A := Rep u (v + m) X (p_pay P i (A i)) M (zr z A B)) (k' := 35) (as := [.ref (X.1 0), .ref (X.1 (100 + i)), .long (A i)]) (rest := []) (x_isV (np := 2) rfl rfl rfl R.c0 rfl) (c_pay R hi _) (fun h R => ?_)
      refine x_run 1 (pc' := 147) (lv' := [(10, .int (nI i + 1)), (0, .ref (X.1 0)), (8, .ref (X.1 29))]) (st' := []) rfl ?_
      rw [nI_1]
      refine x_run 1 (pc' := 119) (lv' := [(10, .int (nI (i + 1))), (0, .ref (X.1 0)), (8, .ref (X.1 29))]) (st' := []) rfl ?_
      refine x_lv (a := [(10, .int (nI (i + 1))), (0, .ref (X.1 0)), (8, .ref (X.1 29))]) rfl rfl ⟨rfl, rfl, rfl, trivial⟩ ?_
      rw [show p_payA A (m + 1) i P = p_payA A m (i + 1) (p_pay P i (A i)) from rfl] at kk
      exact ih (i + 1) _ _ R (by show _ = pn P; omega) kk
theorem c_share2 (R : Rep u (v + 60) X P M (zr z (fun _ => 0) (fun _ => 0)) h) (hw : X.2.1 = 2) {r : Nat} (hr : r < 8) {all : Int64} : Wx (d + 3) 33 26 [(9, .ref (X.1 30)), (8, .ref (X.1 29)), (6, .long (pL P 7 0)), (4, .long (pL P 7 0)), (0, .ref (X.1 0)), (1, .int (nI r)), (2, .long (all))] [] h (fun r0 => r0.1 = .inl none ∧ Rep u v X (p_share P r all) M (zr z (p_shA P r all).1 (p_shA P r all).2) r0.2) := by
  have n60 := R.n60
  refine x_run 2 (pc' := 29) (lv' := [(10, .int (0)), (9, .ref (X.1 30)), (8, .ref (X.1 29)), (6, .long (pL P 7 0)), (4, .long (pL P 7 0)), (0, .ref (X.1 0)), (1, .int (nI r)), (2, .long (all))]) (st' := []) rfl ?_
  refine x_lv (a := [(10, .int (0)), (6, .long (pL P 7 0)), (4, .long (pL P 7 0)), (0, .ref (X.1 0)), (1, .int (nI r)), (2, .long (all)), (8, .ref (X.1 29)), (9, .ref (X.1 30))]) rfl rfl ⟨rfl, rfl, rfl, rfl, rfl, rfl, rfl, rfl, trivial⟩ ?_
  refine l_sh hw hr (pn P) 0 _ _ _ h R (by omega) (fun h R => ?_)
  replace R : Rep u (v + 60) X P M (zr z (p_sh0 P r all).1.1 (p_sh0 P r all).1.2) h := R
  refine x_run 3 (pc' := 113) (lv' := [(6, .long ((p_sh0 P r all).2)), (4, .long (pL P 7 0)), (0, .ref (X.1 0)), (1, .int (nI r)), (2, .long (all)), (8, .ref (X.1 29)), (9, .ref (X.1 30))]) (st' := [.long ((p_sh0 P r all).2), .ref (X.1 30), .ref (X.1 29)]) rfl ?_
  refine x_wr0 (A := Rep u (v + 60) X P M (zr z (p_shA P r all).1 (p_shA P r all).2)) (k' := 34) (as := [.ref (X.1 29), .ref (X.1 30), .long ((p_sh0 P r all).2)]) (rest := []) (x_isS (np := 3) rfl rfl rfl rfl rfl) (c_add R hw _) (fun h R => ?_)
  refine x_run 2 (pc' := 119) (lv' := [(10, .int (0)), (6, .long ((p_sh0 P r all).2)), (4, .long (pL P 7 0)), (0, .ref (X.1 0)), (1, .int (nI r)), (2, .long (all)), (8, .ref (X.1 29)), (9, .ref (X.1 30))]) (st' := []) rfl ?_
  refine x_lv (a := [(10, .int (0)), (0, .ref (X.1 0)), (8, .ref (X.1 29))]) rfl rfl ⟨rfl, rfl, rfl, trivial⟩ ?_
  refine l_payA (v := v) hw (pn P) 0 P h (R.less (Nat.le_refl _) (by omega)) (by omega) (fun h R => ?_)
  exact x_ret (v := none) rfl rfl rfl ⟨rfl, R⟩
end SHR
end
section
section SHR2
variable {u v d : Nat} {X : xX} {P M : pP} {z : zZ} {h : mm_H} {i j : Nat}
theorem new_ok {n : Nat} (R : Rep (u + 1) v X P M z h) (hn : n ≤ 60) : ¬ (nI n < 0 ∨ 60000000 < (nI n).toNatClampNeg ∨ h.2.1.1 < 1 ∨ h.2.1.2 < (nI n).toNatClampNeg) := by
  obtain ⟨b1, b2⟩ := R.2.2.1
  rw [nI_clamp (by omega)]
  intro e
  rcases e with e | e | e | e
  · exact nI_pos (by omega) e
  · omega
  · omega
  · omega
theorem c_share (R : Rep (u + 1 + 1) (v + 60) X P M z h) (h0 : X.2.1 = 0) {r : Nat} (hr : r < 8) (all : Int64) : Wx (d + 3) 33 0 (lv_args 0 [.ref (X.1 0), .int (nI r), .long all]) [] h (fun r0 => r0.1 = .inl none ∧ Rep u v X (p_share P r all) M z r0.2) := by
  have n60 := R.n60
  show Wx _ _ 0 [(0, .ref (X.1 0)), (1, .int (nI r)), (2, .long all)] [] h _
  refine x_run 1 (pc' := 1) (lv' := [(0, .ref (X.1 0)), (1, .int (nI r)), (2, .long all)]) (st' := [.ref (X.1 0)]) rfl ?_
  refine x_get (v := .long (pL P 7 0)) rfl rfl R.c0 rfl ?_
  refine x_run 4 (pc' := 11) (lv' := [(6, .long (pL P 7 0)), (4, .long (pL P 7 0)), (0, .ref (X.1 0)), (1, .int (nI r)), (2, .long all)]) (st' := [.ref (X.1 0)]) rfl ?_
  refine x_get (v := .int (nI (pn P))) rfl rfl R.c0 rfl ?_
  refine x_newa (t := 1) rfl rfl (new_ok R n60) ?_
  rw [nI_clamp (show pn P < 2 ^ 31 by omega)]
  obtain ⟨X1, R1, hw1, hA1, hX1, hs1⟩ : ∃ X1 : xX, Rep (u + 1) (v + 60) X1 P M (zr z (fun _ => 0) (z.2 4)) (mm_push h (pn P) (.inr (1, pn P, fun _ => .long 0))) ∧ X1.2.1 = 1 ∧ X1.1 29 = h.1 ∧ (∀ t, t ≠ 29 → X1.1 t = X.1 t) ∧ X1.2.2 = X.2.2 := ⟨xA X 29 h.1 1, R.arr1 h0, rfl, rfl, fun t ht => xA_ne X ht, rfl⟩
  rw [← hA1, show X.1 0 = X1.1 0 from (hX1 0 (by decide)).symm]
  refine gen_h (A := Rep (u + 1) (v + 60) X1 P M (zr z (fun _ => 0) (z.2 4))) R1 (fun h R => ?_)
  refine x_run 2 (pc' := 19) (lv' := [(8, .ref (X1.1 29)), (6, .long (pL P 7 0)), (4, .long (pL P 7 0)), (0, .ref (X1.1 0)), (1, .int (nI r)), (2, .long all)]) (st' := [.ref (X1.1 0)]) rfl ?_
  refine x_get (v := .int (nI (pn P))) rfl rfl R.c0 rfl ?_
  refine x_newa (t := 1) rfl rfl (new_ok R n60) ?_
  rw [nI_clamp (show pn P < 2 ^ 31 by omega)]
  obtain ⟨X2, R2, hw2, hA2, hX2, hs2⟩ : ∃ X2 : xX, Rep u (v + 60) X2 P M (zr z (fun _ => 0) (fun _ => 0)) (mm_push h (pn P) (.inr (1, pn P, fun _ => .long 0))) ∧ X2.2.1 = 2 ∧ X2.1 30 = h.1 ∧ (∀ t, t ≠ 30 → X2.1 t = X1.1 t) ∧ X2.2.2 = X1.2.2 := ⟨xA X1 30 h.1 2, R.arr2 hw1, rfl, rfl, fun t ht => xA_ne X1 ht, rfl⟩
  rw [← hA2, show X1.1 0 = X2.1 0 from (hX2 0 (by decide)).symm, show X1.1 29 = X2.1 29 from (hX2 29 (by decide)).symm]
  refine gen_h (A := Rep u (v + 60) X2 P M (zr z (fun _ => 0) (fun _ => 0))) R2 (fun h R => ?_)
  refine x_run 1 (pc' := 26) (lv' := [(9, .ref (X2.1 30)), (8, .ref (X2.1 29)), (6, .long (pL P 7 0)), (4, .long (pL P 7 0)), (0, .ref (X2.1 0)), (1, .int (nI r)), (2, .long all)]) (st' := []) rfl ?_
  refine (c_share2 R hw2 hr).mono (fun r0 e => ⟨e.1, e.2.close h0 (fun t ht => ?_) (hs2.trans hs1) rfl (fun g h3 h4 => ?_)⟩)
  · have hne : t ≠ 29 ∧ t ≠ 30 := by rcases ht with q | q | q | q | q <;> omega
    rw [hX2 t hne.2, hX1 t hne.1]
  · show (if g = 3 then _ else if g = 4 then _ else z.2 g) = z.2 g
    rw [if_neg h3, if_neg h4]
end SHR2
end
section
section PEND
variable {u v d : Nat} {X : xX} {P M : pP} {z : zZ} {h : mm_H} {i j : Nat}
theorem c_payRank (R : Rep (u + 1 + 1) (v + 60) X P M z h) (h0 : X.2.1 = 0) {r : Nat} (hr : r < 8) : Wx (d + 4) 32 0 (lv_args 0 [.ref (X.1 0), .int (nI r)]) [] h (fun r0 => r0.1 = .inl none ∧ Rep u v X (p_rank P r) M z r0.2) := by
  have n60 := R.n60
  show Wx _ _ 0 [(0, .ref (X.1 0)), (1, .int (nI r))] [] h _
  refine x_run 4 (pc' := 5) (lv' := [(4, .int (0)), (2, .long (0)), (0, .ref (X.1 0)), (1, .int (nI r))]) (st' := []) rfl ?_
  refine x_lv (a := [(4, .int (0)), (2, .long (0)), (0, .ref (X.1 0)), (1, .int (nI r))]) rfl rfl ⟨rfl, rfl, rfl, rfl, trivial⟩ ?_
  refine l_sumU R hr (pn P) 0 0 (by omega) ?_
  refine x_run 1 (pc' := 48) (lv' := [(4, .int (nI (pn P))), (2, .long (p_sumU P r (pn P) 0 0)), (0, .ref (X.1 0)), (1, .int (nI r))]) (st' := [.ref (X.1 0)]) rfl ?_
  refine x_get (v := .long (pL P 7 0)) rfl rfl R.c0 rfl ?_
  refine x_run 1 (pc' := 52) (lv' := [(4, .int (nI (pn P))), (2, .long (p_sumU P r (pn P) 0 0)), (0, .ref (X.1 0)), (1, .int (nI r))]) (st' := [.long (p_sumU P r (pn P) 0 0), .long (pL P 7 0)]) rfl ?_
  refine x_lge (t := 63) rfl rfl rfl (fun c1 => ?_) (fun c1 => ?_)
  · refine x_run 2 (pc' := 66) (lv' := [(4, .int (0)), (2, .long (p_sumU P r (pn P) 0 0)), (0, .ref (X.1 0)), (1, .int (nI r))]) (st' := []) rfl ?_
    refine x_lv (a := [(4, .int (0)), (0, .ref (X.1 0)), (1, .int (nI r))]) rfl rfl ⟨rfl, rfl, rfl, trivial⟩ ?_
    refine l_pays (v := v) hr (pn P) 0 P h (R.less (Nat.le_refl _) (by omega)) (by omega) (fun h R => ?_)
    refine x_ret (v := none) rfl rfl rfl ⟨rfl, ?_⟩
    rw [show p_rank P r = p_pays r (pn P) 0 P from if_pos (by assumption)]
    exact R.less (by omega) (by omega)
  · refine x_run 3 (pc' := 59) (lv' := [(4, .int (nI (pn P))), (2, .long (p_sumU P r (pn P) 0 0)), (0, .ref (X.1 0)), (1, .int (nI r))]) (st' := [.long (p_sumU P r (pn P) 0 0), .int (nI r), .ref (X.1 0)]) rfl ?_
    refine x_wr0 (A := Rep u v X (p_share P r (p_sumU P r (pn P) 0 0)) M z) (k' := 33) (as := [.ref (X.1 0), .int (nI r), .long (p_sumU P r (pn P) 0 0)]) (rest := []) (x_isV (np := 2) rfl rfl rfl R.c0 rfl) (c_share R h0 hr _) (fun h R => ?_)
    refine x_ret (v := none) rfl rfl rfl ⟨rfl, ?_⟩
    rw [show p_rank P r = p_share P r (p_sumU P r (pn P) 0 0) from if_neg (by assumption)]
    exact R.less (by omega) (by omega)
theorem l_ranks (h0 : X.2.1 = 0) {Q : mm_O × mm_H → Prop} : ∀ (m r : Nat) (P : pP) (h : mm_H), Rep (u + 2 * m) (v + 60 * m) X P M z h → r + m = 8 → (∀ h, Rep u v X (p_ranks m r P) M z h → Wx (d + 5) 12 72 [(0, .ref (X.1 0))] [] h Q) → Wx (d + 5) 12 55 [(1, .int (nI r)), (0, .ref (X.1 0))] [] h Q := by
  intro m
  induction m with
  | zero =>
    intro r P h R hm kk
    refine x_run 2 (pc' := 58) (lv' := [(1, .int (nI r)), (0, .ref (X.1 0))]) (st' := [.int (8), .int (nI r)]) rfl ?_
    refine x_if (c := nI 8 ≤ nI r) (t := 72) rfl rfl (fun c1 => ?_) (fun c1 => ?_)
    · replace c1 := (nI_leI (by omega) (by omega)).mp c1
      refine x_lv (a := [(0, .ref (X.1 0))]) rfl rfl ⟨rfl, trivial⟩ ?_
      exact kk h R
    · replace c1 := mt (nI_leI (by omega) (by omega)).mpr c1
      omega
  | succ m ih =>
    intro r P h R hm kk
    have R : Rep (u + 2 * m + 1 + 1) (v + 60 * m + 60) X P M z h := R.less (by omega) (by omega)
    refine x_run 2 (pc' := 58) (lv' := [(1, .int (nI r)), (0, .ref (X.1 0))]) (st' := [.int (8), .int (nI r)]) rfl ?_
    refine x_if (c := nI 8 ≤ nI r) (t := 72) rfl rfl (fun c1 => ?_) (fun c1 => ?_)
    · replace c1 := (nI_leI (by omega) (by omega)).mp c1
      omega
    · replace c1 := mt (nI_leI (by omega) (by omega)).mpr c1
      refine x_run 2 (pc' := 63) (lv' := [(1, .int (nI r)), (0, .ref (X.1 0))]) (st' := [.int (nI r), .ref (X.1 0)]) rfl ?_
      refine x_wr0 (A := Rep (u + 2 * m) (v + 60 * m) X (p_rank P r) M z) (k' := 32) (as := [.ref (X.1 0), .int (nI r)]) (rest := []) (x_isV (np := 1) rfl rfl rfl R.c0 rfl) (c_payRank R h0 (by omega)) (fun h R => ?_)
      refine x_run 1 (pc' := 69) (lv' := [(1, .int (nI r + 1)), (0, .ref (X.1 0))]) (st' := []) rfl ?_
      rw [nI_1]
      refine x_run 1 (pc' := 55) (lv' := [(1, .int (nI (r + 1))), (0, .ref (X.1 0))]) (st' := []) rfl ?_
      refine x_lv (a := [(1, .int (nI (r + 1))), (0, .ref (X.1 0))]) rfl rfl ⟨rfl, rfl, trivial⟩ ?_
      exact ih (r + 1) _ h R (by omega) kk
theorem l_end2 (R : Rep (u + 17) (v + 480 + 480 + 60) X P M z h) (h0 : X.2.1 = 0) (he : ¬ ¬ pI P 4 0 = 0) (hu : p_unr P (pa P) 0 = false) : Wx (d + 7) 12 42 [(0, .ref (X.1 0))] [] h (pQ (RP u v X M z) (o_end p_open P)) := by
  refine x_run 1 (pc' := 43) (lv' := [(0, .ref (X.1 0))]) (st' := [.ref (X.1 0)]) rfl ?_
  refine x_wr0 (A := Rep (u + 17) (v + 480 + 480) X (p_drop (pn P) 0 P) M z) (k' := 31) (as := [.ref (X.1 0)]) (rest := []) (x_isV (np := 0) rfl rfl rfl R.c0 rfl) (c_drop (v := v + 480 + 480) R) (fun h R => ?_)
  refine x_run 2 (pc' := 49) (lv' := [(0, .ref (X.1 0))]) (st' := [.int (7), .ref (X.1 0)]) rfl ?_
  refine x_wr (v := .long ((p_serveR p_open (7 + 1) 0 (p_drop (pn P) 0 P) 0).2)) (A := Rep (u + 17) (v + 480) X (p_end1 p_open P) M z) (k' := 26) (as := [.ref (X.1 0), .int (7)]) (rest := []) (x_isV (np := 1) rfl rfl rfl R.c0 rfl) (c_through (l := 7) (v := v + 480) R (by omega)) (fun h R => ?_)
  refine x_run 3 (pc' := 55) (lv' := [(1, .int (0)), (0, .ref (X.1 0))]) (st' := []) rfl ?_
  refine x_lv (a := [(1, .int (0)), (0, .ref (X.1 0))]) rfl rfl ⟨rfl, rfl, trivial⟩ ?_
  refine l_ranks (u := u) (v := v) h0 8 0 _ h (R.less (by omega) (by omega)) (by omega) (fun h R => ?_)
  replace R : Rep u v X (p_end2 p_open P) M z h := R
  obtain ⟨P2, hP2⟩ : ∃ P2, P2 = p_end2 p_open P := ⟨_, rfl⟩
  rw [← hP2] at R
  refine x_run 2 (pc' := 74) (lv' := [(0, .ref (X.1 0))]) (st' := [.int (1), .ref (X.1 0)]) rfl ?_
  refine x_put rfl rfl R.c0 rfl ?_
  refine gen_h (A := Rep u v X (sI P2 4 0 (1)) M z) (R.uEnded _) (fun h R => ?_)
  refine x_run 1 (pc' := 78) (lv' := [(0, .ref (X.1 0))]) (st' := [.ref (X.1 0)]) rfl ?_
  refine x_get (v := .long (pL P2 7 0)) rfl rfl R.c0 rfl ?_
  rw [show o_end p_open P = (0, some (.long (pL P2 7 0)), sI P2 4 0 (1)) from by rw [o_end, if_neg he, hu, hP2]; rfl]
  exact x_ret (v := some (.long (pL P2 7 0))) rfl rfl rfl (pQ_0 R)
theorem l_end1 (R : Rep (u + 17) (v + 480 + 480 + 60) X P M z h) (h0 : X.2.1 = 0) (he : ¬ ¬ pI P 4 0 = 0) : ∀ (m j : Nat), j + m = pa P → p_unr P (pa P) 0 = p_unr P m j → Wx (d + 7) 12 6 [(1, .int (nI j)), (0, .ref (X.1 0))] [] h (pQ (RP u v X M z) (o_end p_open P)) := by
  intro m
  induction m with
  | zero =>
    intro j hm hq
    have a20 := R.a20
    refine x_run 2 (pc' := 8) (lv' := [(1, .int (nI j)), (0, .ref (X.1 0))]) (st' := [.ref (X.1 0), .int (nI j)]) rfl ?_
    refine x_get (v := .int (nI (pa P))) rfl rfl R.c0 rfl ?_
    refine x_if (c := nI (pa P) ≤ nI j) (t := 42) rfl rfl (fun c1 => ?_) (fun c1 => ?_)
    · replace c1 := (nI_leI (by omega) (by omega)).mp c1
      refine x_lv (a := [(0, .ref (X.1 0))]) rfl rfl ⟨rfl, trivial⟩ ?_
      exact l_end2 R h0 he hq
    · replace c1 := mt (nI_leI (by omega) (by omega)).mpr c1
      omega
  | succ m ih =>
    intro j hm hq
    have a20 := R.a20
    have hj : j < pa P := by omega
    refine x_run 2 (pc' := 8) (lv' := [(1, .int (nI j)), (0, .ref (X.1 0))]) (st' := [.ref (X.1 0), .int (nI j)]) rfl ?_
    refine x_get (v := .int (nI (pa P))) rfl rfl R.c0 rfl ?_
    refine x_if (c := nI (pa P) ≤ nI j) (t := 42) rfl rfl (fun c1 => ?_) (fun c1 => ?_)
    · replace c1 := (nI_leI (by omega) (by omega)).mp c1
      omega
    · replace c1 := mt (nI_leI (by omega) (by omega)).mpr c1
      refine x_run 1 (pc' := 15) (lv' := [(1, .int (nI j)), (0, .ref (X.1 0))]) (st' := [.ref (X.1 0)]) rfl ?_
      refine x_get (v := .ref (X.1 2)) rfl rfl R.c0 rfl ?_
      refine x_run 1 (pc' := 19) (lv' := [(1, .int (nI j)), (0, .ref (X.1 0))]) (st' := [.int (nI j), .ref (X.1 2)]) rfl ?_
      refine x_aald4 (j := j) rfl R.c2 (mm_idx_nI (by omega) (by omega)) ?_
      rw [if_pos hj]
      refine x_get (v := .int (pI P 1 j)) rfl rfl (R.cA hj) rfl ?_
      refine x_if (c := ¬ pI P 1 j = 0) (t := 36) rfl rfl (fun c2 => ?_) (fun c2 => ?_)
      · refine x_run 1 (pc' := 39) (lv' := [(1, .int (nI j + 1)), (0, .ref (X.1 0))]) (st' := []) rfl ?_
        rw [nI_1]
        refine x_run 1 (pc' := 6) (lv' := [(1, .int (nI (j + 1))), (0, .ref (X.1 0))]) (st' := []) rfl ?_
        refine x_lv (a := [(1, .int (nI (j + 1))), (0, .ref (X.1 0))]) rfl rfl ⟨rfl, rfl, trivial⟩ ?_
        exact ih (j + 1) (by omega) (hq.trans (by rw [p_unr, if_neg c2]))
      · have hu : p_unr P (pa P) 0 = true := hq.trans (by rw [p_unr, if_pos (Classical.not_not.mp c2)])
        rw [show o_end p_open P = (6, none, P) from by rw [o_end, if_neg he, if_pos hu]]
        exact pQ_th (x_throw (R.less (u' := u + 1) (v' := v) (by omega) (by omega)) rfl rfl rfl rfl rfl rfl rfl rfl (by omega)) (by decide)
theorem c_end (R : Rep (u + 17) (v + 480 + 480 + 60) X P M z h) (h0 : X.2.1 = 0) : Wx (d + 7) 12 0 (lv_args 0 [.ref (X.1 0)]) [] h (pQ (RP u v X M z) (o_end p_open P)) := by
  show Wx _ _ 0 [(0, .ref (X.1 0))] [] h _
  refine x_run 1 (pc' := 1) (lv' := [(0, .ref (X.1 0))]) (st' := [.ref (X.1 0)]) rfl ?_
  by_cases g1 : ¬ pI P 4 0 = 0
  · rw [show o_end p_open P = (6, none, P) from by rw [o_end, if_pos g1]]
    exact x_up (k' := 18) (as := [.ref (X.1 0)]) (rest := []) (x_isV (np := 0) rfl rfl rfl R.c0 rfl) rfl (c_liveX R g1) (fun r e => pQ_x (by decide) (e.imp fun a q => ⟨q.1, q.2.less (by omega) (by omega)⟩))
  refine x_rd0 (k' := 18) (as := [.ref (X.1 0)]) (rest := []) (x_isV (np := 0) rfl rfl rfl R.c0 rfl) (c_live R (Classical.not_not.mp g1)) ?_
  refine x_run 2 (pc' := 6) (lv' := [(1, .int (0)), (0, .ref (X.1 0))]) (st' := []) rfl ?_
  refine x_lv (a := [(1, .int (0)), (0, .ref (X.1 0))]) rfl rfl ⟨rfl, rfl, trivial⟩ ?_
  exact l_end1 R h0 g1 (pa P) 0 (by omega) rfl
end PEND
end
section
/-! a security more, a claim more, an asset more -/
section MAKE
variable {u v d : Nat} {X : xX} {P M : pP} {z : zZ} {h : mm_H} {i j c a : Nat}
def p_sec (P : pP) (j c : Nat) (l : Int64) : pP := sN (sN (sL P 5 (4 * j + pN P 1 j) l) 2 (4 * j + pN P 1 j) c) 1 j (pN P 1 j + 1)
theorem sec_N1 {q : Nat} (l : Int64) (hq : q ≠ j) : pN (p_sec P j c l) 1 q = pN P 1 q := by
  show s2 (s2 P.2.1 2 (4 * j + pN P 1 j) c) 1 j (pN P 1 j + 1) 1 q = P.2.1 1 q
  rw [s2_i _ _ _ _ hq, s2_f _ _ _ _ (by decide)]
theorem sec_N2 {q : Nat} (l : Int64) (hq : q ≠ 4 * j + pN P 1 j) : pN (p_sec P j c l) 2 q = pN P 2 q := by
  show s2 (s2 P.2.1 2 (4 * j + pN P 1 j) c) 1 j (pN P 1 j + 1) 2 q = P.2.1 2 q
  rw [s2_f _ _ _ _ (by decide), s2_i _ _ _ _ hq]
theorem sec_L5 {q : Nat} (l : Int64) (hq : q ≠ 4 * j + pN P 1 j) : pL (p_sec P j c l) 5 q = pL P 5 q := by
  show s2 P.2.2.2 5 (4 * j + pN P 1 j) l 5 q = P.2.2.2 5 q
  rw [s2_i _ _ _ _ hq]
theorem wf_sec (w : wf v P) (hj : j < pa P) (hk : pN P 1 j < 4) (hc : c < pn P) (l : Int64) : wf v (p_sec P j c l) := by
  refine ⟨w.1, w.2.1, w.2.2.1, w.2.2.2.1, fun q hq => ?_, fun q hq k hk' => ?_, w.2.2.2.2.2.2⟩
  · show s2 _ 1 j (pN P 1 j + 1) 1 q ≤ 4
    by_cases e : q = j
    · subst e; rw [s2_self]; omega
    · rw [s2_i _ _ _ _ e]
      exact w.mn hq
  · have hk1 : k < s2 (s2 P.2.1 2 (4 * j + pN P 1 j) c) 1 j (pN P 1 j + 1) 1 q := hk'
    show s2 (s2 P.2.1 2 (4 * j + pN P 1 j) c) 1 j (pN P 1 j + 1) 2 (4 * q + k) < pn P
    rw [s2_f _ _ _ _ (by decide)]
    by_cases e : 4 * q + k = 4 * j + pN P 1 j
    · rw [e, s2_self]; exact hc
    · rw [s2_i _ _ _ _ e]
      by_cases e2 : q = j
      · subst e2
        rw [s2_self] at hk1
        exact w.hd hq (by omega)
      · rw [s2_i _ _ _ _ e2, s2_f _ _ _ _ (by decide)] at hk1
        exact w.hd hq hk1
theorem Rep.addSec (R : Rep u v X P M z h) (hj : j < pa P) (hk : pN P 1 j < 4) (hc : c < pn P) (l : Int64) :
    Rep u v X (p_sec P j c l) M z (mm_upd (mm_upd (mm_upd h (X.1 (300 + j)) (.inr (3, 4, updV (fun k => if k < pN P 1 j then .ref (X.1 (100 + pN P 2 (4 * j + k))) else .null) (pN P 1 j) (.ref (X.1 (100 + c)))))) (X.1 (400 + j)) (.inr (1, 4, updV (fun k => if k < 4 then .long (pL P 5 (4 * j + k)) else .long 0) (pN P 1 j) (.long l)))) (X.1 (200 + j)) (.inl (2, (fa X P j).set 2 (.int (nI (pN P 1 j + 1)))))) := by
  have a20 := R.a20
  have n60 := R.n60
  have w2 := R.2.2.2.2.2
  have l3 : lv X P (300 + j) := Or.inr (Or.inr (Or.inr (Or.inl (by omega))))
  have l4 : lv X P (400 + j) := Or.inr (Or.inr (Or.inr (Or.inr (by omega))))
  have l2 : lv X P (200 + j) := Or.inr (Or.inr (Or.inl (by omega)))
  refine ⟨fun t ht => ⟨?_, (R.1 t ht).2⟩, R.2.1, R.2.2.1, wf_sec R.wP hj hk hc l, R.wM, w2⟩
  have ht' : lv X P t := ht
  by_cases e2 : t = 200 + j
  · subst e2
    rw [mm_upd_self, ct_A (by omega)]
    unfold ctA fa
    show _ = some (Sum.inl (2, [_, _, Value.int (nI (s2 _ 1 j (pN P 1 j + 1) 1 j)), _]))
    rw [s2_self]
    rfl
  · rw [mm_upd_ne _ _ (fun q => e2 (R.2.1 _ _ ht' l2 q))]
    by_cases e4 : t = 400 + j
    · subst e4
      rw [mm_upd_self, ct_L (by omega)]
      unfold ctL
      refine congrArg (fun f => some (Sum.inr (1, 4, f) : mm_C)) ?_
      funext k
      show updV _ (pN P 1 j) (Value.long l) k = (if k < 4 then Value.long (s2 P.2.2.2 5 (4 * j + pN P 1 j) l 5 (4 * j + k)) else Value.long 0)
      unfold updV
      by_cases ek : k = pN P 1 j
      · subst ek
        rw [if_pos rfl, if_pos hk, s2_self]
      · rw [if_neg ek, s2_i _ _ _ _ (by omega)]
    · rw [mm_upd_ne _ _ (fun q => e4 (R.2.1 _ _ ht' l4 q))]
      by_cases e3 : t = 300 + j
      · subst e3
        rw [mm_upd_self, ct_H (by omega)]
        unfold ctH
        refine congrArg (fun f => some (Sum.inr (3, 4, f) : mm_C)) ?_
        funext k
        show updV _ (pN P 1 j) (Value.ref (X.1 (100 + c))) k = (if k < s2 (s2 P.2.1 2 (4 * j + pN P 1 j) c) 1 j (pN P 1 j + 1) 1 j then Value.ref (X.1 (100 + s2 (s2 P.2.1 2 (4 * j + pN P 1 j) c) 1 j (pN P 1 j + 1) 2 (4 * j + k))) else .null)
        rw [s2_self, s2_f _ _ _ _ (by decide)]
        unfold updV
        by_cases ek : k = pN P 1 j
        · subst ek
          rw [if_pos rfl, if_pos (by omega), s2_self]
        · rw [if_neg ek, s2_i _ _ _ _ (by omega)]
          dsimp only
          by_cases ek2 : k < pN P 1 j
          · rw [if_pos ek2, if_pos (by omega)]
          · rw [if_neg ek2, if_neg (by omega)]
      · rw [mm_upd_ne _ _ (fun q => e3 (R.2.1 _ _ ht' l3 q)), (R.1 t ht').1]
        refine congrArg some ?_
        unfold ct
        split
        · rfl
        · split
          · rfl
          · split
            · unfold ctA fa
              rw [sec_N1 l (by omega)]
              rfl
            · split
              · have hq : t - 300 < pa P := by rcases ht' with q | q | q | q | q <;> omega
                have e1 : pN (p_sec P j c l) 1 (t - 300) = pN P 1 (t - 300) := sec_N1 l (by omega)
                have m4 := R.wP.mn hq
                unfold ctH
                refine congrArg (fun f => (Sum.inr (3, 4, f) : mm_C)) ?_
                funext k
                rw [e1]
                split
                · rw [sec_N2 l (by omega)]
                · rfl
              · have hq : t - 400 < pa P := by rcases ht' with q | q | q | q | q <;> omega
                unfold ctL
                refine congrArg (fun f => (Sum.inr (1, 4, f) : mm_C)) ?_
                funext k
                split
                · rw [sec_L5 l (by omega)]
                · rfl
end MAKE
end
section
section MAKE2
variable {u v d : Nat} {X : xX} {P M : pP} {z : zZ} {h h' : mm_H} {i j c a : Nat}
/-- only the cell a differs -/
def Off (a : Nat) (h h' : mm_H) : Prop := h'.1 = h.1 ∧ h'.2.1 = h.2.1 ∧ ∀ q, q ≠ a → h'.2.2 q = h.2.2 q
theorem Off.upd (a : Nat) (h : mm_H) (c : mm_C) : Off a h (mm_upd h a c) := ⟨rfl, rfl, fun _ hq => mm_upd_ne _ _ hq⟩
theorem Off.trans {h1 h2 h3 : mm_H} (p : Off a h1 h2) (q : Off a h2 h3) : Off a h1 h3 := ⟨q.1.trans p.1, q.2.1.trans p.2.1, fun x hx => (q.2.2 x hx).trans (p.2.2 x hx)⟩
theorem Rep.offH (R : Rep u v X P M z h) (ha : ∀ t, lv X P t → X.1 t ≠ a) (o : Off a h h') : Rep u v X P M z h' := by
  refine ⟨fun t ht => ?_, R.2.1, ?_, R.2.2.2⟩
  · rw [o.2.2 _ (ha t ht), o.1]
    exact R.1 t ht
  · rw [o.2.1]
    exact R.2.2.1
def p_claim (P : pP) (r : Nat) (c : Int64) : pP := sC (sL (sN P 0 (pn P) r) 0 (pn P) c) (pn P + 1) (pa P) (pj P)
/-- what has no claim yet is 0 -/
def Zc (P : pP) (i : Nat) : Prop := pI P 0 i = 0 ∧ pL P 1 i = 0 ∧ pL P 2 i = 0 ∧ pL P 3 i = 0 ∧ pL P 4 i = 0 ∧ pI P 5 i = 0
theorem wf_claim (w : wf v P) (hn : pn P < 60) {r : Nat} (hr : r < 8) (c : Int64) : wf v (p_claim P r c) := by
  refine ⟨by show pn P + 1 ≤ 60; omega, w.2.1, w.2.2.1, fun q hq => ?_, w.2.2.2.2.1, fun q hq k hk => ?_, w.2.2.2.2.2.2⟩
  · have hq : q < pn P + 1 := hq
    show s2 P.2.1 0 (pn P) r 0 q < 8
    by_cases e : q = pn P
    · rw [e, s2_self]; exact hr
    · rw [s2_i _ _ _ _ e]
      exact w.rk (by omega)
  · exact Nat.lt_succ_of_lt (w.hd hq hk)
theorem claim_C (hz : Zc P (pn P)) (r : Nat) (c : Int64) : fc (p_claim P r c) (pn P) = [.int (nI (pn P)), .int (nI r), .int 0, .long c, .long 0, .long 0, .long 0, .long 0, .int 0] := by
  obtain ⟨z1, z2, z3, z4, z5, z6⟩ := hz
  unfold fc
  rw [show pN (p_claim P r c) 0 (pn P) = r from s2_self _ _ _ _, show pL (p_claim P r c) 0 (pn P) = c from s2_self _ _ _ _, show pI (p_claim P r c) 0 (pn P) = 0 from z1, show pL (p_claim P r c) 1 (pn P) = 0 from z2, show pL (p_claim P r c) 2 (pn P) = 0 from z3, show pL (p_claim P r c) 3 (pn P) = 0 from z4, show pL (p_claim P r c) 4 (pn P) = 0 from z5, show pI (p_claim P r c) 5 (pn P) = 0 from z6]
theorem claim_ne {q r : Nat} (c : Int64) (hq : q ≠ pn P) : fc (p_claim P r c) q = fc P q := by
  unfold fc
  rw [show pN (p_claim P r c) 0 q = pN P 0 q from s2_i _ _ _ _ hq, show pL (p_claim P r c) 0 q = pL P 0 q from s2_i _ _ _ _ hq]
  rfl
theorem Rep.addClaim {r : Nat} {c : Int64} (R : Rep u v X P M z h) (h0 : X.2.1 = 0) (hn : pn P < 60) (hr : r < 8) (hz : Zc P (pn P)) (ha : ∀ t, lv X P t → X.1 t ≠ a) (ha1 : a < h.1) (hc : h.2.2 a = some (.inl (1, [.int (nI (pn P)), .int (nI r), .int 0, .long c, .long 0, .long 0, .long 0, .long 0, .int 0]))) :
    Rep u v (xA X (100 + pn P) a 0) (p_claim P r c) M z (mm_upd (mm_upd h (X.1 1) (.inr (3, 60, updV (fun i => if i < pn P then .ref (X.1 (100 + i)) else .null) (pn P) (.ref a)))) (X.1 0) (.inl (0, (fx X P).set 1 (.int (nI (pn P + 1)))))) := by
  have a20 := R.a20
  have hX : ∀ t, lv X P t → (xA X (100 + pn P) a 0).1 t = X.1 t := fun t ht => xA_ne X (by rcases ht with q | q | q | q | q <;> omega)
  have hl : ∀ t, lv (xA X (100 + pn P) a 0) (p_claim P r c) t → lv X P t ∨ t = 100 + pn P := by
    intro t ht
    rcases ht with q | q | q
    · exact Or.inl (Or.inl (by have q : t < 29 + 0 := q; omega))
    · have q : 100 ≤ t ∧ t < 100 + (pn P + 1) := q
      by_cases e : t = 100 + pn P
      · exact Or.inr e
      · exact Or.inl (Or.inr (Or.inl (by omega)))
    · exact Or.inl (Or.inr (Or.inr q))
  have l0 : lv X P 0 := Or.inl (by omega)
  have l1 : lv X P 1 := Or.inl (by omega)
  have hC0 : ct0 (xA X (100 + pn P) a 0) P M z = ct0 X P M z := ct0_addr hX rfl
  refine ⟨fun t ht => ?_, fun t t' ht ht' e => ?_, R.2.2.1, wf_claim R.wP hn hr c, R.wM, by show 0 ≤ 2; omega⟩
  · rcases hl t ht with q | q
    · rw [hX t q]
      refine ⟨?_, (R.1 t q).2⟩
      by_cases e0 : t = 0
      · subst e0
        rw [mm_upd_self]
        show _ = some (Sum.inl (0, fx (xA X (100 + pn P) a 0) (p_claim P r c)))
        unfold fx
        rw [hX 1 l1, hX 2 (Or.inl (by omega)), hX 3 (Or.inl (by omega)), hX 4 (Or.inl (by omega))]
        rfl
      · rw [mm_upd_ne _ _ (fun x => e0 (R.2.1 _ _ q l0 x))]
        by_cases e1 : t = 1
        · subst e1
          rw [mm_upd_self]
          show _ = some (Sum.inr (3, 60, fun i => if i < pn P + 1 then Value.ref ((xA X (100 + pn P) a 0).1 (100 + i)) else .null))
          refine congrArg (fun f => some (Sum.inr (3, 60, f) : mm_C)) ?_
          funext i
          unfold updV
          by_cases ei : i = pn P
          · rw [if_pos ei, if_pos (by omega), ei, xA_self]
          · rw [if_neg ei, xA_ne X (by omega)]
            dsimp only
            by_cases ei2 : i < pn P
            · rw [if_pos ei2, if_pos (by omega)]
            · rw [if_neg ei2, if_neg (by omega)]
        · rw [mm_upd_ne _ _ (fun x => e1 (R.2.1 _ _ q l1 x)), (R.1 t q).1]
          refine congrArg some ?_
          rw [← ct_addr (X' := xA X (100 + pn P) a 0) hX rfl R.wP R.2.2.2.2.2 t q]
          unfold ct
          split
          · have h29 : t < 29 := by rcases q with q | q | q | q | q <;> omega
            have hL : ct0 (xA X (100 + pn P) a 0) (p_claim P r c) M z = ((((ct0 (xA X (100 + pn P) a 0) P M z).set 0 (.inl (0, fx (xA X (100 + pn P) a 0) (p_claim P r c)))).set 1 (.inr (3, 60, fun i => if i < pn P + 1 then .ref ((xA X (100 + pn P) a 0).1 (100 + i)) else .null))).set 29 (.inr (1, pn P + 1, fun i => .long (z.2 3 i)))).set 30 (.inr (1, pn P + 1, fun i => .long (z.2 4 i))) := rfl
            rw [hL]
            simp only [List.getD_eq_getElem?_getD]
            rw [List.getElem?_set_ne (by omega), List.getElem?_set_ne (by omega), List.getElem?_set_ne (by omega), List.getElem?_set_ne (by omega)]
          · split
            · unfold ctC
              rw [claim_ne c (by rcases q with q | q | q | q | q <;> omega)]
            · rfl
    · subst q
      rw [xA_self]
      refine ⟨?_, ha1⟩
      rw [mm_upd_ne _ _ (Ne.symm (ha 0 l0)), mm_upd_ne _ _ (Ne.symm (ha 1 l1)), hc, ct_C (by omega)]
      unfold ctC
      rw [claim_C hz]
  · rcases hl t ht with q | q
    · rcases hl t' ht' with q' | q'
      · rw [hX t q, hX t' q'] at e
        exact R.2.1 t t' q q' e
      · subst q'
        rw [hX t q, xA_self] at e
        exact absurd e (ha t q)
    · subst q
      rcases hl t' ht' with q' | q'
      · rw [hX t' q', xA_self] at e
        exact absurd e.symm (ha t' q')
      · exact q'.symm
end MAKE2
end
section
section MAKE3
variable {u v d : Nat} {X : xX} {P M : pP} {z : zZ} {h h' : mm_H} {i j a b c : Nat}
def p_asset (P : pP) : pP := sC P (pn P) (pa P + 1) (pj P)
def Za (P : pP) (j : Nat) : Prop := pN P 1 j = 0 ∧ pI P 1 j = 0 ∧ ∀ k, k < 4 → pL P 5 (4 * j + k) = 0
def xB (X : xX) (n a b c : Nat) : xX := (fun q => if q = 200 + n then a else if q = 300 + n then b else if q = 400 + n then c else X.1 q, 0, X.2.2)
theorem xB_ne {n q : Nat} (h1 : q ≠ 200 + n) (h2 : q ≠ 300 + n) (h3 : q ≠ 400 + n) : (xB X n a b c).1 q = X.1 q := by
  show (if q = 200 + n then a else if q = 300 + n then b else if q = 400 + n then c else X.1 q) = X.1 q
  rw [if_neg h1, if_neg h2, if_neg h3]
theorem xB_a (n : Nat) : (xB X n a b c).1 (200 + n) = a := if_pos rfl
theorem xB_b (n : Nat) : (xB X n a b c).1 (300 + n) = b := by
  show (if 300 + n = 200 + n then a else if 300 + n = 300 + n then b else _) = b
  rw [if_neg (by omega), if_pos rfl]
theorem xB_c (n : Nat) : (xB X n a b c).1 (400 + n) = c := by
  show (if 400 + n = 200 + n then a else if 400 + n = 300 + n then b else if 400 + n = 400 + n then c else _) = c
  rw [if_neg (by omega), if_neg (by omega), if_pos rfl]
theorem wf_asset (w : wf v P) (hn : pa P < 20) (hz : Za P (pa P)) : wf v (p_asset P) := by
  refine ⟨w.1, by show pa P + 1 ≤ 20; omega, w.2.2.1, w.2.2.2.1, fun q hq => ?_, fun q hq k hk => ?_, w.2.2.2.2.2.2⟩
  · have hq : q < pa P + 1 := hq
    by_cases e : q = pa P
    · show pN P 1 q ≤ 4
      rw [e, hz.1]; omega
    · exact w.mn (by omega)
  · have hq : q < pa P + 1 := hq
    by_cases e : q = pa P
    · have hk : k < pN P 1 q := hk
      rw [e, hz.1] at hk
      omega
    · exact w.hd (by omega) hk
theorem Rep.addAsset (R : Rep u v X P M z h) (h0 : X.2.1 = 0) (hn : pa P < 20) (hz : Za P (pa P)) (ha : ∀ t, lv X P t → X.1 t ≠ a) (hb : ∀ t, lv X P t → X.1 t ≠ b) (hc : ∀ t, lv X P t → X.1 t ≠ c) (hab : a ≠ b) (hac : a ≠ c) (hbc : b ≠ c) (ha1 : a < h.1) (hb1 : b < h.1) (hc1 : c < h.1)
    (ga : h.2.2 a = some (.inl (2, [.ref b, .ref c, .int 0, .int 0]))) (gb : h.2.2 b = some (.inr (3, 4, fun _ => .null))) (gc : h.2.2 c = some (.inr (1, 4, fun _ => .long 0))) :
    Rep u v (xB X (pa P) a b c) (p_asset P) M z (mm_upd (mm_upd h (X.1 2) (.inr (4, 20, updV (fun j => if j < pa P then .ref (X.1 (200 + j)) else .null) (pa P) (.ref a)))) (X.1 0) (.inl (0, (fx X P).set 3 (.int (nI (pa P + 1)))))) := by
  have n60 := R.n60
  have hX : ∀ t, lv X P t → (xB X (pa P) a b c).1 t = X.1 t := fun t ht => xB_ne (by rcases ht with q | q | q | q | q <;> omega) (by rcases ht with q | q | q | q | q <;> omega) (by rcases ht with q | q | q | q | q <;> omega)
  have hl : ∀ t, lv (xB X (pa P) a b c) (p_asset P) t → lv X P t ∨ t = 200 + pa P ∨ t = 300 + pa P ∨ t = 400 + pa P := by
    intro t ht
    rcases ht with q | q | q | q | q
    · exact Or.inl (Or.inl (by have q : t < 29 + 0 := q; omega))
    · exact Or.inl (Or.inr (Or.inl q))
    · have q : 200 ≤ t ∧ t < 200 + (pa P + 1) := q
      by_cases e : t = 200 + pa P
      · exact Or.inr (Or.inl e)
      · exact Or.inl (Or.inr (Or.inr (Or.inl (by omega))))
    · have q : 300 ≤ t ∧ t < 300 + (pa P + 1) := q
      by_cases e : t = 300 + pa P
      · exact Or.inr (Or.inr (Or.inl e))
      · exact Or.inl (Or.inr (Or.inr (Or.inr (Or.inl (by omega)))))
    · have q : 400 ≤ t ∧ t < 400 + (pa P + 1) := q
      by_cases e : t = 400 + pa P
      · exact Or.inr (Or.inr (Or.inr e))
      · exact Or.inl (Or.inr (Or.inr (Or.inr (Or.inr (by omega)))))
  have l0 : lv X P 0 := Or.inl (by omega)
  have l2 : lv X P 2 := Or.inl (by omega)
  have hC0 : ct0 (xB X (pa P) a b c) P M z = ct0 X P M z := ct0_addr hX rfl
  obtain ⟨z1, z2, z3⟩ := hz
  have key : ∀ t, lv (xB X (pa P) a b c) (p_asset P) t → (mm_upd (mm_upd h (X.1 2) (.inr (4, 20, updV (fun j => if j < pa P then .ref (X.1 (200 + j)) else .null) (pa P) (.ref a)))) (X.1 0) (.inl (0, (fx X P).set 3 (.int (nI (pa P + 1)))))).2.2 ((xB X (pa P) a b c).1 t) = some (ct (xB X (pa P) a b c) (p_asset P) M z t) := by
    intro t ht
    rcases hl t ht with q | q | q | q
    · rw [hX t q]
      by_cases e0 : t = 0
      · subst e0
        rw [mm_upd_self]
        show _ = some (Sum.inl (0, fx (xB X (pa P) a b c) (p_asset P)))
        unfold fx
        rw [hX 1 (Or.inl (by omega)), hX 2 l2, hX 3 (Or.inl (by omega)), hX 4 (Or.inl (by omega))]
        rfl
      · rw [mm_upd_ne _ _ (fun x => e0 (R.2.1 _ _ q l0 x))]
        by_cases e1 : t = 2
        · subst e1
          rw [mm_upd_self]
          show _ = some (Sum.inr (4, 20, fun j => if j < pa P + 1 then Value.ref ((xB X (pa P) a b c).1 (200 + j)) else .null))
          refine congrArg (fun f => some (Sum.inr (4, 20, f) : mm_C)) ?_
          funext i
          unfold updV
          dsimp only
          by_cases ei : i = pa P
          · rw [if_pos ei, if_pos (by omega), ei, xB_a]
          · rw [if_neg ei]
            by_cases ei2 : i < pa P
            · rw [if_pos ei2, if_pos (by omega), hX (200 + i) (Or.inr (Or.inr (Or.inl (by omega))))]
            · rw [if_neg ei2, if_neg (by omega)]
        · rw [mm_upd_ne _ _ (fun x => e1 (R.2.1 _ _ q l2 x)), (R.1 t q).1]
          refine congrArg some ?_
          rw [← ct_addr (X' := xB X (pa P) a b c) hX rfl R.wP R.2.2.2.2.2 t q]
          unfold ct
          split
          · have hL : ct0 (xB X (pa P) a b c) (p_asset P) M z = ((ct0 (xB X (pa P) a b c) P M z).set 0 (.inl (0, fx (xB X (pa P) a b c) (p_asset P)))).set 2 (.inr (4, 20, fun j => if j < pa P + 1 then .ref ((xB X (pa P) a b c).1 (200 + j)) else .null)) := rfl
            rw [hL]
            simp only [List.getD_eq_getElem?_getD]
            rw [List.getElem?_set_ne (by omega), List.getElem?_set_ne (by omega)]
          · rfl
    · subst q
      rw [xB_a, mm_upd_ne _ _ (Ne.symm (ha 0 l0)), mm_upd_ne _ _ (Ne.symm (ha 2 l2)), ga, ct_A (by omega)]
      unfold ctA fa
      rw [xB_b, xB_c, show pN (p_asset P) 1 (pa P) = 0 from z1, show pI (p_asset P) 1 (pa P) = 0 from z2]
      rfl
    · subst q
      rw [xB_b, mm_upd_ne _ _ (Ne.symm (hb 0 l0)), mm_upd_ne _ _ (Ne.symm (hb 2 l2)), gb, ct_H (by omega)]
      unfold ctH
      rw [show pN (p_asset P) 1 (pa P) = 0 from z1]
      refine congrArg (fun f => some (Sum.inr (3, 4, f) : mm_C)) ?_
      funext k
      rw [if_neg (by omega)]
    · subst q
      rw [xB_c, mm_upd_ne _ _ (Ne.symm (hc 0 l0)), mm_upd_ne _ _ (Ne.symm (hc 2 l2)), gc, ct_L (by omega)]
      unfold ctL
      refine congrArg (fun f => some (Sum.inr (1, 4, f) : mm_C)) ?_
      funext k
      split
      · rename_i hk
        rw [show pL (p_asset P) 5 (4 * pa P + k) = 0 from z3 k hk]
      · rfl
  refine ⟨fun t ht => ⟨key t ht, ?_⟩, fun t t' ht ht' e => ?_, R.2.2.1, wf_asset R.wP hn ⟨z1, z2, z3⟩, R.wM, by show 0 ≤ 2; omega⟩
  · rcases hl t ht with q | q | q | q
    · rw [hX t q]; exact (R.1 t q).2
    · subst q; rw [xB_a]; exact ha1
    · subst q; rw [xB_b]; exact hb1
    · subst q; rw [xB_c]; exact hc1
  · rcases hl t ht with q | q | q | q <;> rcases hl t' ht' with q' | q' | q' | q'
    · rw [hX t q, hX t' q'] at e; exact R.2.1 t t' q q' e
    · subst q'; rw [hX t q, xB_a] at e; exact absurd e (ha t q)
    · subst q'; rw [hX t q, xB_b] at e; exact absurd e (hb t q)
    · subst q'; rw [hX t q, xB_c] at e; exact absurd e (hc t q)
    · subst q; rw [hX t' q', xB_a] at e; exact absurd e.symm (ha t' q')
    · omega
    · subst q; subst q'; rw [xB_a, xB_b] at e; exact absurd e hab
    · subst q; subst q'; rw [xB_a, xB_c] at e; exact absurd e hac
    · subst q; rw [hX t' q', xB_b] at e; exact absurd e.symm (hb t' q')
    · subst q; subst q'; rw [xB_a, xB_b] at e; exact absurd e.symm hab
    · omega
    · subst q; subst q'; rw [xB_b, xB_c] at e; exact absurd e hbc
    · subst q; rw [hX t' q', xB_c] at e; exact absurd e.symm (hc t' q')
    · subst q; subst q'; rw [xB_a, xB_c] at e; exact absurd e.symm hac
    · subst q; subst q'; rw [xB_b, xB_c] at e; exact absurd e.symm hbc
    · omega
end MAKE3
end
section
section MAKE4
variable {u v d : Nat} {X : xX} {P M : pP} {z : zZ} {h : mm_H} {i j a c r : Nat}
theorem c_addS (R : Rep u v X P M z h) (hj : j < pa P) (hk : pN P 1 j < 4) (hc : c < pn P) (l : Int64) : Wx d 47 0 (lv_args 0 [.ref (X.1 (200 + j)), .ref (X.1 (100 + c)), .long l]) [] h (fun r0 => r0.1 = .inl none ∧ Rep u v X (p_sec P j c l) M z r0.2) := by
  have l3 : lv X P (300 + j) := Or.inr (Or.inr (Or.inr (Or.inl (by omega))))
  have l4 : lv X P (400 + j) := Or.inr (Or.inr (Or.inr (Or.inr (by omega))))
  have l2 : lv X P (200 + j) := Or.inr (Or.inr (Or.inl (by omega)))
  have n23 : X.1 (200 + j) ≠ X.1 (300 + j) := fun e => by have := R.2.1 _ _ l2 l3 e; omega
  have n24 : X.1 (200 + j) ≠ X.1 (400 + j) := fun e => by have := R.2.1 _ _ l2 l4 e; omega
  have n43 : X.1 (400 + j) ≠ X.1 (300 + j) := fun e => by have := R.2.1 _ _ l4 l3 e; omega
  show Wx _ _ 0 [(0, .ref (X.1 (200 + j))), (1, .ref (X.1 (100 + c))), (2, .long l)] [] h _
  refine x_run 1 (pc' := 1) (lv' := [(0, .ref (X.1 (200 + j))), (1, .ref (X.1 (100 + c))), (2, .long l)]) (st' := [.ref (X.1 (200 + j))]) rfl ?_
  refine x_get (v := .ref (X.1 (300 + j))) rfl rfl (R.cA hj) rfl ?_
  refine x_run 1 (pc' := 5) (lv' := [(0, .ref (X.1 (200 + j))), (1, .ref (X.1 (100 + c))), (2, .long l)]) (st' := [.ref (X.1 (200 + j)), .ref (X.1 (300 + j))]) rfl ?_
  refine x_get (v := .int (nI (pN P 1 j))) rfl rfl (R.cA hj) rfl ?_
  refine x_run 1 (pc' := 9) (lv' := [(0, .ref (X.1 (200 + j))), (1, .ref (X.1 (100 + c))), (2, .long l)]) (st' := [.ref (X.1 (100 + c)), .int (nI (pN P 1 j)), .ref (X.1 (300 + j))]) rfl ?_
  refine x_aast3 (j := pN P 1 j) rfl (R.cH hj) (R.cC hc) (mm_idx_nI (by omega) (by omega)) ?_
  refine x_run 1 (pc' := 11) (lv' := [(0, .ref (X.1 (200 + j))), (1, .ref (X.1 (100 + c))), (2, .long l)]) (st' := [.ref (X.1 (200 + j))]) rfl ?_
  refine x_get (v := .ref (X.1 (400 + j))) rfl rfl ((mm_upd_ne _ _ n23).trans (R.cA hj)) rfl ?_
  refine x_run 1 (pc' := 15) (lv' := [(0, .ref (X.1 (200 + j))), (1, .ref (X.1 (100 + c))), (2, .long l)]) (st' := [.ref (X.1 (200 + j)), .ref (X.1 (400 + j))]) rfl ?_
  refine x_get (v := .int (nI (pN P 1 j))) rfl rfl ((mm_upd_ne _ _ n23).trans (R.cA hj)) rfl ?_
  refine x_run 1 (pc' := 19) (lv' := [(0, .ref (X.1 (200 + j))), (1, .ref (X.1 (100 + c))), (2, .long l)]) (st' := [.long l, .int (nI (pN P 1 j)), .ref (X.1 (400 + j))]) rfl ?_
  refine x_last (j := pN P 1 j) rfl ((mm_upd_ne _ _ n43).trans (R.cL hj)) (mm_idx_nI (by omega) (by omega)) ?_
  refine x_run 2 (pc' := 22) (lv' := [(0, .ref (X.1 (200 + j))), (1, .ref (X.1 (100 + c))), (2, .long l)]) (st' := [.ref (X.1 (200 + j)), .ref (X.1 (200 + j))]) rfl ?_
  refine x_get (v := .int (nI (pN P 1 j))) rfl rfl ((mm_upd_ne _ _ n24).trans ((mm_upd_ne _ _ n23).trans (R.cA hj))) rfl ?_
  refine x_run 2 (pc' := 27) (lv' := [(0, .ref (X.1 (200 + j))), (1, .ref (X.1 (100 + c))), (2, .long l)]) (st' := [.int (nI (pN P 1 j) + 1), .ref (X.1 (200 + j))]) rfl ?_
  rw [nI_1]
  refine x_put rfl rfl ((mm_upd_ne _ _ n24).trans ((mm_upd_ne _ _ n23).trans (R.cA hj))) rfl ?_
  refine gen_h (A := Rep u v X (p_sec P j c l) M z) (R.addSec hj hk hc l) (fun h R => ?_)
  exact x_ret (v := none) rfl rfl rfl ⟨rfl, R⟩
theorem c_initC (ha : h.2.2 a = some (.inl (1, t_df 1))) (n r : Int32) (c : Int64) : Wx (d + 1) 39 0 (lv_args 0 [.ref a, .int n, .int r, .long c]) [] h (fun r0 => r0.1 = .inl none ∧ Off a h r0.2 ∧ r0.2.2.2 a = some (.inl (1, [.int n, .int r, .int 0, .long c, .long 0, .long 0, .long 0, .long 0, .int 0]))) := by
  show Wx _ _ 0 [(0, .ref a), (1, .int n), (2, .int r), (3, .long c)] [] h _
  refine x_run 1 (pc' := 1) (lv' := [(0, .ref a), (1, .int n), (2, .int r), (3, .long c)]) (st' := [.ref a]) rfl ?_
  refine x_obj rfl rfl ?_
  refine x_run 2 (pc' := 6) (lv' := [(0, .ref a), (1, .int n), (2, .int r), (3, .long c)]) (st' := [.int n, .ref a]) rfl ?_
  refine x_put rfl rfl ha rfl ?_
  refine gen_h (A := fun h' => Off a h h' ∧ h'.2.2 a = some (.inl (1, [.int n, .int 0, .int 0, .long 0, .long 0, .long 0, .long 0, .long 0, .int 0]))) ⟨Off.upd _ _ _, mm_upd_self _ _ _⟩ (fun h1 o => ?_)
  refine x_run 2 (pc' := 11) (lv' := [(0, .ref a), (1, .int n), (2, .int r), (3, .long c)]) (st' := [.int r, .ref a]) rfl ?_
  refine x_put rfl rfl o.2 rfl ?_
  refine gen_h (A := fun h' => Off a h h' ∧ h'.2.2 a = some (.inl (1, [.int n, .int r, .int 0, .long 0, .long 0, .long 0, .long 0, .long 0, .int 0]))) ⟨o.1.trans (Off.upd _ _ _), mm_upd_self _ _ _⟩ (fun h1 o => ?_)
  refine x_run 2 (pc' := 16) (lv' := [(0, .ref a), (1, .int n), (2, .int r), (3, .long c)]) (st' := [.long c, .ref a]) rfl ?_
  refine x_put rfl rfl o.2 rfl ?_
  refine gen_h (A := fun h' => Off a h h' ∧ h'.2.2 a = some (.inl (1, [.int n, .int r, .int 0, .long c, .long 0, .long 0, .long 0, .long 0, .int 0]))) ⟨o.1.trans (Off.upd _ _ _), mm_upd_self _ _ _⟩ (fun h1 o => ?_)
  refine x_run 2 (pc' := 21) (lv' := [(0, .ref a), (1, .int n), (2, .int r), (3, .long c)]) (st' := [.int 0, .ref a]) rfl ?_
  refine x_put rfl rfl o.2 rfl ?_
  refine gen_h (A := fun h' => Off a h h' ∧ h'.2.2 a = some (.inl (1, [.int n, .int r, .int 0, .long c, .long 0, .long 0, .long 0, .long 0, .int 0]))) ⟨o.1.trans (Off.upd _ _ _), mm_upd_self _ _ _⟩ (fun h1 o => ?_)
  exact x_ret (v := none) rfl rfl rfl ⟨rfl, o⟩
/-- as Rep, with other addresses for what has been made since -/
def RX (u v : Nat) (X : xX) (M : pP) (z : zZ) (P : pP) (h : mm_H) : Prop := ∃ X' : xX, Rep u v X' P M z h ∧ X'.2 = X.2 ∧ ∀ t, t < 29 → X'.1 t = X.1 t
theorem RX.of (R : Rep u v X P M z h) : RX u v X M z P h := ⟨X, R, rfl, fun _ _ => rfl⟩
theorem t_claim (R : Rep (u + 1) v X P M z h) (h0 : X.2.1 = 0) (hn : pn P < 60) (hr : r < 8) (hz : Zc P (pn P)) (c : Int64) : Wx (d + 2) 1 44 [(4, .int (nI (pn P))), (0, .ref (X.1 0)), (1, .int (nI r)), (2, .long c)] [.int (nI (pn P)), .ref (X.1 1)] h (fun r0 => r0.1 = .inl (some (.int (nI (pn P)))) ∧ RX u v X M z (p_claim P r c) r0.2) := by
  obtain ⟨b1, b2⟩ := R.2.2.1
  have fr : ∀ t, lv X P t → X.1 t ≠ h.1 := fun t ht => Nat.ne_of_lt (R.1 t ht).2
  refine x_new rfl rfl (by rw [Nat.ble_eq_true_of_le (show 1 ≤ h.2.1.1 by omega), Nat.ble_eq_true_of_le (show t_N 1 ≤ h.2.1.2 by show 9 ≤ _; omega)]; rfl) ?_
  have R1 := R.push (n := t_N 1) (.inl (1, t_df 1)) (by show 9 ≤ 60; omega)
  have c1 : (mm_push h (t_N 1) (.inl (1, t_df 1))).2.2 h.1 = some (.inl (1, t_df 1)) := mm_push_self _ _ _
  have s1 : h.1 < (mm_push h (t_N 1) (.inl (1, t_df 1))).1 := Nat.lt_succ_self _
  generalize mm_push h (t_N 1) (.inl (1, t_df 1)) = h1 at R1 c1 s1 ⊢
  generalize h.1 = a at fr c1 s1 ⊢
  refine x_run 4 (pc' := 52) (lv' := [(4, .int (nI (pn P))), (0, .ref (X.1 0)), (1, .int (nI r)), (2, .long c)]) (st' := [.long c, .int (nI r), .int (nI (pn P)), .ref a, .ref a, .int (nI (pn P)), .ref (X.1 1)]) rfl ?_
  refine x_wr0 (A := fun h' => Off a h1 h' ∧ h'.2.2 a = some (.inl (1, [.int (nI (pn P)), .int (nI r), .int 0, .long c, .long 0, .long 0, .long 0, .long 0, .int 0]))) (k' := 39) (as := [.ref a, .int (nI (pn P)), .int (nI r), .long c]) (rest := [.ref a, .int (nI (pn P)), .ref (X.1 1)]) (x_isI (np := 3) rfl rfl rfl rfl rfl) (c_initC c1 _ _ _) (fun h2 o => ?_)
  have R2 := R1.offH fr o.1
  have s2 : a < h2.1 := by rw [o.1.1]; exact s1
  have n01 : X.1 0 ≠ X.1 1 := fun e => by have := R2.2.1 0 1 (Or.inl (by omega)) (Or.inl (by omega)) e; omega
  refine x_aast3 (j := pn P) rfl R2.c1 o.2 (mm_idx_nI (by omega) (by omega)) ?_
  refine x_run 2 (pc' := 58) (lv' := [(4, .int (nI (pn P))), (0, .ref (X.1 0)), (1, .int (nI r)), (2, .long c)]) (st' := [.ref (X.1 0), .ref (X.1 0)]) rfl ?_
  refine x_get (v := .int (nI (pn P))) rfl rfl ((mm_upd_ne _ _ n01).trans R2.c0) rfl ?_
  refine x_run 2 (pc' := 63) (lv' := [(4, .int (nI (pn P))), (0, .ref (X.1 0)), (1, .int (nI r)), (2, .long c)]) (st' := [.int (nI (pn P) + 1), .ref (X.1 0)]) rfl ?_
  rw [nI_1]
  refine x_put rfl rfl ((mm_upd_ne _ _ n01).trans R2.c0) rfl ?_
  refine gen_h (A := Rep u v (xA X (100 + pn P) a 0) (p_claim P r c) M z) (R2.addClaim h0 hn hr hz fr s2 o.2) (fun h R => ?_)
  refine x_run 1 (pc' := 68) (lv' := [(4, .int (nI (pn P))), (0, .ref (X.1 0)), (1, .int (nI r)), (2, .long c)]) (st' := [.int (nI (pn P))]) rfl ?_
  refine x_ret (v := some (.int (nI (pn P)))) rfl rfl rfl ⟨rfl, _, R, ?_, fun t ht => xA_ne X (by omega)⟩
  show (0, X.2.2) = X.2
  rw [← h0]
end MAKE4
end
section
section PUB3
variable {u v d : Nat} {X : xX} {P M : pP} {z : zZ} {h : mm_H} {i j : Nat}
def o_claim (P : pP) (r : Nat) (c : Int64) : oO := if g_cents c 1 = false then (5, none, P) else if ¬ pn P < 60 then (8, none, P) else if ¬ pI P 4 0 = 0 then (6, none, P) else (0, some (.int (nI (pn P))), p_claim P r c)
def o_asset (P : pP) : oO := if ¬ pa P < 20 then (8, none, P) else if ¬ pI P 4 0 = 0 then (6, none, P) else (0, some (.int (nI (pa P))), p_asset P)
def o_sec (P : pP) (j c : Nat) (l : Int64) : oO := if g_cents l 1 = false then (5, none, P) else if ¬ pN P 1 j < 4 then (8, none, P) else if ¬ pI P 4 0 = 0 then (6, none, P) else if ¬ pI P 1 j = 0 then (6, none, P) else if p_has P j c (pN P 1 j) 0 = true then (6, none, P) else if pI P 0 c = 2 then (6, none, P) else if p_fresh P c = true then (0, some (.int (nI (pN (p_sec P j c l) 1 j))), sI (p_sec P j c l) 5 c (pI P 5 c + 1)) else (6, none, P)
theorem c_claim (R : Rep (u + 1) v X P M z h) (h0 : X.2.1 = 0) {r : Nat} (hr : r < 8) (hz : Zc P (pn P)) (c : Int64) : Wx (d + 7) 1 0 (lv_args 0 [.ref (X.1 0), .int (nI r), .long (c)]) [] h (pQ (RX u v X M z) (o_claim P r c)) := by
  have n60 := R.n60
  show Wx _ _ 0 [(0, .ref (X.1 0)), (1, .int (nI r)), (2, .long (c))] [] h _
  refine x_run 1 (pc' := 1) (lv' := [(0, .ref (X.1 0)), (1, .int (nI r)), (2, .long (c))]) (st' := [.int (nI r)]) rfl ?_
  refine x_rd0 (k' := 19) (as := [.int (nI r)]) (rest := []) (x_isS (np := 1) rfl rfl rfl rfl rfl) (c_rank R hr) ?_
  refine x_run 2 (pc' := 6) (lv' := [(0, .ref (X.1 0)), (1, .int (nI r)), (2, .long (c))]) (st' := [.long (1), .long (c)]) rfl ?_
  rcases g_two (g_cents c 1) with g1 | g1
  · rw [show o_claim P r c = (5, none, P) from by simp only [o_claim, g1, not_true_eq_false, not_false_eq_true, if_true, if_false, ite_true, ite_false, reduceIte, reduceCtorEq, Classical.not_not]]
    exact x_up (k' := 20) (as := [.long (c), .long (1)]) (rest := []) (x_isS (np := 2) rfl rfl rfl rfl rfl) rfl (c_centsX R g1) (fun r e => pQ_x (by decide) (e.imp fun a q => ⟨q.1, RX.of (q.2.less (by omega) (Nat.le_refl _))⟩))
  refine x_rd0 (k' := 20) (as := [.long (c), .long (1)]) (rest := []) (x_isS (np := 2) rfl rfl rfl rfl rfl) (c_cents R g1) ?_
  refine x_run 1 (pc' := 10) (lv' := [(0, .ref (X.1 0)), (1, .int (nI r)), (2, .long (c))]) (st' := [.ref (X.1 0)]) rfl ?_
  refine x_get (v := .int (nI (pn P))) rfl rfl R.c0 rfl ?_
  refine x_run 1 (pc' := 15) (lv' := [(0, .ref (X.1 0)), (1, .int (nI r)), (2, .long (c))]) (st' := [.int (60), .int (nI (pn P))]) rfl ?_
  refine x_if (c := nI (pn P) < nI 60) (t := 28) rfl rfl (fun c2 => ?_) (fun c2 => ?_)
  · replace c2 := (nI_ltI (by omega) (by omega)).mp c2
    refine x_run 1 (pc' := 29) (lv' := [(0, .ref (X.1 0)), (1, .int (nI r)), (2, .long (c))]) (st' := [.ref (X.1 0)]) rfl ?_
    by_cases g3 : ¬ pI P 4 0 = 0
    · rw [show o_claim P r c = (6, none, P) from by simp only [o_claim, g1, c2, g3, not_true_eq_false, not_false_eq_true, if_true, if_false, ite_true, ite_false, reduceIte, reduceCtorEq, Classical.not_not]]
      exact x_up (k' := 18) (as := [.ref (X.1 0)]) (rest := []) (x_isV (np := 0) rfl rfl rfl R.c0 rfl) rfl (c_liveX R g3) (fun r e => pQ_x (by decide) (e.imp fun a q => ⟨q.1, RX.of (q.2.less (by omega) (Nat.le_refl _))⟩))
    refine x_rd0 (k' := 18) (as := [.ref (X.1 0)]) (rest := []) (x_isV (np := 0) rfl rfl rfl R.c0 rfl) (c_live R (Classical.not_not.mp g3)) ?_
    refine x_run 1 (pc' := 33) (lv' := [(0, .ref (X.1 0)), (1, .int (nI r)), (2, .long (c))]) (st' := [.ref (X.1 0)]) rfl ?_
    refine x_get (v := .int (nI (pn P))) rfl rfl R.c0 rfl ?_
    refine x_run 2 (pc' := 39) (lv' := [(4, .int (nI (pn P))), (0, .ref (X.1 0)), (1, .int (nI r)), (2, .long (c))]) (st' := [.ref (X.1 0)]) rfl ?_
    refine x_get (v := .ref (X.1 1)) rfl rfl R.c0 rfl ?_
    refine x_run 1 (pc' := 44) (lv' := [(4, .int (nI (pn P))), (0, .ref (X.1 0)), (1, .int (nI r)), (2, .long (c))]) (st' := [.int (nI (pn P)), .ref (X.1 1)]) rfl ?_
    rw [show o_claim P r c = (0, some (.int (nI (pn P))), p_claim P r c) from by simp only [o_claim, g1, c2, g3, not_true_eq_false, not_false_eq_true, if_true, if_false, ite_true, ite_false, reduceIte, reduceCtorEq, Classical.not_not]]
    refine x_lv (a := [(4, .int (nI (pn P))), (0, .ref (X.1 0)), (1, .int (nI r)), (2, .long (c))]) rfl rfl ⟨rfl, rfl, rfl, rfl, trivial⟩ ?_
    exact (t_claim R h0 (by omega) hr hz c).mono (fun r0 e => e)
  · replace c2 := mt (nI_ltI (by omega) (by omega)).mpr c2
    rw [show o_claim P r c = (8, none, P) from by simp only [o_claim, g1, c2, not_true_eq_false, not_false_eq_true, if_true, if_false, ite_true, ite_false, reduceIte, reduceCtorEq, Classical.not_not]]
    exact pQ_th (A := RX u v X M z) ((x_throw (R.less (u' := u + 1) (by omega) (Nat.le_refl _)) rfl rfl rfl rfl rfl rfl rfl rfl (by omega)).mono (fun _ e => e.imp fun a q => ⟨q.1, RX.of q.2⟩)) (by decide)
theorem c_sec (R : Rep (u + 1) v X P M z h) (hj : j < pa P) (hi : i < pn P) (l : Int64) : Wx (d + 7) 4 0 (lv_args 0 [.ref (X.1 0), .int (nI j), .int (nI i), .long (l)]) [] h (pQ (RP u v X M z) (o_sec P j i l)) := by
  have mn := R.wP.mn hj
  show Wx _ _ 0 [(0, .ref (X.1 0)), (1, .int (nI j)), (2, .int (nI i)), (3, .long (l))] [] h _
  refine x_run 2 (pc' := 2) (lv' := [(0, .ref (X.1 0)), (1, .int (nI j)), (2, .int (nI i)), (3, .long (l))]) (st' := [.int (nI j), .ref (X.1 0)]) rfl ?_
  refine x_rd (v := .ref (X.1 (200 + j))) (k' := 22) (as := [.ref (X.1 0), .int (nI j)]) (rest := []) (x_isV (np := 1) rfl rfl rfl R.c0 rfl) (c_assetAt R hj) ?_
  refine x_run 3 (pc' := 9) (lv' := [(5, .ref (X.1 (200 + j))), (0, .ref (X.1 0)), (1, .int (nI j)), (2, .int (nI i)), (3, .long (l))]) (st' := [.int (nI i), .ref (X.1 0)]) rfl ?_
  refine x_rd (v := .ref (X.1 (100 + i))) (k' := 21) (as := [.ref (X.1 0), .int (nI i)]) (rest := []) (x_isV (np := 1) rfl rfl rfl R.c0 rfl) (c_claimAt R hi) ?_
  refine x_run 3 (pc' := 16) (lv' := [(6, .ref (X.1 (100 + i))), (5, .ref (X.1 (200 + j))), (0, .ref (X.1 0)), (1, .int (nI j)), (2, .int (nI i)), (3, .long (l))]) (st' := [.long (1), .long (l)]) rfl ?_
  rcases g_two (g_cents l 1) with g1 | g1
  · rw [show o_sec P j i l = (5, none, P) from by simp only [o_sec, g1, not_true_eq_false, not_false_eq_true, if_true, if_false, ite_true, ite_false, reduceIte, reduceCtorEq, Classical.not_not]]
    exact x_up (k' := 20) (as := [.long (l), .long (1)]) (rest := []) (x_isS (np := 2) rfl rfl rfl rfl rfl) rfl (c_centsX R g1) (fun r e => pQ_x (by decide) (e.imp fun a q => ⟨q.1, q.2.less (Nat.le_refl _) (by omega)⟩))
  refine x_rd0 (k' := 20) (as := [.long (l), .long (1)]) (rest := []) (x_isS (np := 2) rfl rfl rfl rfl rfl) (c_cents R g1) ?_
  refine x_run 1 (pc' := 21) (lv' := [(6, .ref (X.1 (100 + i))), (5, .ref (X.1 (200 + j))), (0, .ref (X.1 0)), (1, .int (nI j)), (2, .int (nI i)), (3, .long (l))]) (st' := [.ref (X.1 (200 + j))]) rfl ?_
  refine x_get (v := .int (nI (pN P 1 j))) rfl rfl (R.cA hj) rfl ?_
  refine x_run 1 (pc' := 25) (lv' := [(6, .ref (X.1 (100 + i))), (5, .ref (X.1 (200 + j))), (0, .ref (X.1 0)), (1, .int (nI j)), (2, .int (nI i)), (3, .long (l))]) (st' := [.int (4), .int (nI (pN P 1 j))]) rfl ?_
  refine x_if (c := nI (pN P 1 j) < nI 4) (t := 38) rfl rfl (fun c2 => ?_) (fun c2 => ?_)
  · replace c2 := (nI_ltI (by omega) (by omega)).mp c2
    refine x_run 1 (pc' := 39) (lv' := [(6, .ref (X.1 (100 + i))), (5, .ref (X.1 (200 + j))), (0, .ref (X.1 0)), (1, .int (nI j)), (2, .int (nI i)), (3, .long (l))]) (st' := [.ref (X.1 0)]) rfl ?_
    by_cases g3 : ¬ pI P 4 0 = 0
    · rw [show o_sec P j i l = (6, none, P) from by simp only [o_sec, g1, c2, g3, not_true_eq_false, not_false_eq_true, if_true, if_false, ite_true, ite_false, reduceIte, reduceCtorEq, Classical.not_not]]
      exact x_up (k' := 18) (as := [.ref (X.1 0)]) (rest := []) (x_isV (np := 0) rfl rfl rfl R.c0 rfl) rfl (c_liveX R g3) (fun r e => pQ_x (by decide) (e.imp fun a q => ⟨q.1, q.2.less (Nat.le_refl _) (by omega)⟩))
    refine x_rd0 (k' := 18) (as := [.ref (X.1 0)]) (rest := []) (x_isV (np := 0) rfl rfl rfl R.c0 rfl) (c_live R (Classical.not_not.mp g3)) ?_
    refine x_run 1 (pc' := 44) (lv' := [(6, .ref (X.1 (100 + i))), (5, .ref (X.1 (200 + j))), (0, .ref (X.1 0)), (1, .int (nI j)), (2, .int (nI i)), (3, .long (l))]) (st' := [.ref (X.1 (200 + j))]) rfl ?_
    refine x_get (v := .int (pI P 1 j)) rfl rfl (R.cA hj) rfl ?_
    refine x_if (c := ¬ pI P 1 j = 0) (t := 77) rfl rfl (fun c4 => ?_) (fun c4 => ?_)
    · rw [show o_sec P j i l = (6, none, P) from by simp only [o_sec, g1, c2, g3, c4, not_true_eq_false, not_false_eq_true, if_true, if_false, ite_true, ite_false, reduceIte, reduceCtorEq, Classical.not_not]]
      exact pQ_th (x_throw (R.less (v' := v) (Nat.le_refl _) (by omega)) rfl rfl rfl rfl rfl rfl rfl rfl (by omega)) (by decide)
    · refine x_run 2 (pc' := 54) (lv' := [(6, .ref (X.1 (100 + i))), (5, .ref (X.1 (200 + j))), (0, .ref (X.1 0)), (1, .int (nI j)), (2, .int (nI i)), (3, .long (l))]) (st' := [.ref (X.1 (100 + i)), .ref (X.1 (200 + j))]) rfl ?_
      refine x_rd (v := .int (bI (p_has P j i (pN P 1 j) 0))) (k' := 48) (as := [.ref (X.1 (200 + j)), .ref (X.1 (100 + i))]) (rest := []) (x_isV (np := 1) rfl rfl rfl (R.cA hj) rfl) (c_secures R hj hi) ?_
      refine x_if (c := ¬ bI (p_has P j i (pN P 1 j) 0) = 0) (t := 77) rfl rfl (fun c5 => ?_) (fun c5 => ?_)
      · replace c5 := bI_n0 c5
        rw [show o_sec P j i l = (6, none, P) from by simp only [o_sec, g1, c2, g3, c4, c5, not_true_eq_false, not_false_eq_true, if_true, if_false, ite_true, ite_false, reduceIte, reduceCtorEq, Classical.not_not]]
        exact pQ_th (x_throw (R.less (v' := v) (Nat.le_refl _) (by omega)) rfl rfl rfl rfl rfl rfl rfl rfl (by omega)) (by decide)
      · replace c5 := bI_0.mp (Classical.not_not.mp c5)
        refine x_run 1 (pc' := 62) (lv' := [(6, .ref (X.1 (100 + i))), (5, .ref (X.1 (200 + j))), (0, .ref (X.1 0)), (1, .int (nI j)), (2, .int (nI i)), (3, .long (l))]) (st' := [.ref (X.1 (100 + i))]) rfl ?_
        refine x_get (v := .int (pI P 0 i)) rfl rfl (R.cC hi) rfl ?_
        refine x_run 1 (pc' := 66) (lv' := [(6, .ref (X.1 (100 + i))), (5, .ref (X.1 (200 + j))), (0, .ref (X.1 0)), (1, .int (nI j)), (2, .int (nI i)), (3, .long (l))]) (st' := [.int (2), .int (pI P 0 i)]) rfl ?_
        refine x_if (c := pI P 0 i = 2) (t := 77) rfl rfl (fun c6 => ?_) (fun c6 => ?_)
        · rw [show o_sec P j i l = (6, none, P) from by simp only [o_sec, g1, c2, g3, c4, c5, c6, not_true_eq_false, not_false_eq_true, if_true, if_false, ite_true, ite_false, reduceIte, reduceCtorEq, Classical.not_not]]
          exact pQ_th (x_throw (R.less (v' := v) (Nat.le_refl _) (by omega)) rfl rfl rfl rfl rfl rfl rfl rfl (by omega)) (by decide)
        · refine x_run 1 (pc' := 71) (lv' := [(6, .ref (X.1 (100 + i))), (5, .ref (X.1 (200 + j))), (0, .ref (X.1 0)), (1, .int (nI j)), (2, .int (nI i)), (3, .long (l))]) (st' := [.ref (X.1 (100 + i))]) rfl ?_
          refine x_rd (v := .int (bI (p_fresh P i))) (k' := 41) (as := [.ref (X.1 (100 + i))]) (rest := []) (x_isV (np := 0) rfl rfl rfl (R.cC hi) rfl) (c_fresh R hi) ?_
          refine x_if (c := ¬ bI (p_fresh P i) = 0) (t := 87) rfl rfl (fun c7 => ?_) (fun c7 => ?_)
          · replace c7 := bI_n0 c7
            refine x_run 3 (pc' := 92) (lv' := [(6, .ref (X.1 (100 + i))), (5, .ref (X.1 (200 + j))), (0, .ref (X.1 0)), (1, .int (nI j)), (2, .int (nI i)), (3, .long (l))]) (st' := [.long (l), .ref (X.1 (100 + i)), .ref (X.1 (200 + j))]) rfl ?_
            refine x_wr0 (A := Rep (u + 1) v X (p_sec P j i l) M z) (k' := 47) (as := [.ref (X.1 (200 + j)), .ref (X.1 (100 + i)), .long (l)]) (rest := []) (x_isV (np := 2) rfl rfl rfl (R.cA hj) rfl) (c_addS R hj (by omega) hi _) (fun h R => ?_)
            refine x_run 2 (pc' := 98) (lv' := [(6, .ref (X.1 (100 + i))), (5, .ref (X.1 (200 + j))), (0, .ref (X.1 0)), (1, .int (nI j)), (2, .int (nI i)), (3, .long (l))]) (st' := [.ref (X.1 (100 + i)), .ref (X.1 (100 + i))]) rfl ?_
            refine x_get (v := .int (pI P 5 i)) rfl rfl (R.cC hi) rfl ?_
            refine x_run 2 (pc' := 103) (lv' := [(6, .ref (X.1 (100 + i))), (5, .ref (X.1 (200 + j))), (0, .ref (X.1 0)), (1, .int (nI j)), (2, .int (nI i)), (3, .long (l))]) (st' := [.int ((pI P 5 i) + 1), .ref (X.1 (100 + i))]) rfl ?_
            refine x_put rfl rfl (R.cC hi) rfl ?_
            refine gen_h (A := Rep (u + 1) v X (sI (p_sec P j i l) 5 i ((pI P 5 i) + 1)) M z) (R.uUnre hi _) (fun h R => ?_)
            refine x_run 1 (pc' := 108) (lv' := [(6, .ref (X.1 (100 + i))), (5, .ref (X.1 (200 + j))), (0, .ref (X.1 0)), (1, .int (nI j)), (2, .int (nI i)), (3, .long (l))]) (st' := [.ref (X.1 (200 + j))]) rfl ?_
            refine x_get (v := .int (nI (pN (p_sec P j i l) 1 j))) rfl rfl (R.cA hj) rfl ?_
            rw [show o_sec P j i l = (0, some (.int (nI (pN (p_sec P j i l) 1 j))), sI (p_sec P j i l) 5 i ((pI P 5 i) + 1)) from by simp only [o_sec, g1, c2, g3, c4, c5, c6, c7, not_true_eq_false, not_false_eq_true, if_true, if_false, ite_true, ite_false, reduceIte, reduceCtorEq, Classical.not_not]]
            exact x_ret (v := some (.int (nI (pN (p_sec P j i l) 1 j)))) rfl rfl rfl (pQ_0 (R.less (by omega) (by omega)))
          · replace c7 := bI_0.mp (Classical.not_not.mp c7)
            rw [show o_sec P j i l = (6, none, P) from by simp only [o_sec, g1, c2, g3, c4, c5, c6, c7, not_true_eq_false, not_false_eq_true, if_true, if_false, ite_true, ite_false, reduceIte, reduceCtorEq, Classical.not_not]]
            exact pQ_th (x_throw (R.less (v' := v) (Nat.le_refl _) (by omega)) rfl rfl rfl rfl rfl rfl rfl rfl (by omega)) (by decide)
  · replace c2 := mt (nI_ltI (by omega) (by omega)).mpr c2
    rw [show o_sec P j i l = (8, none, P) from by simp only [o_sec, g1, c2, not_true_eq_false, not_false_eq_true, if_true, if_false, ite_true, ite_false, reduceIte, reduceCtorEq, Classical.not_not]]
    exact pQ_th (x_throw (R.less (v' := v) (Nat.le_refl _) (by omega)) rfl rfl rfl rfl rfl rfl rfl rfl (by omega)) (by decide)
end PUB3
end
section
section MAKE5
variable {u v d : Nat} {X : xX} {P M : pP} {z : zZ} {h : mm_H} {i j a : Nat}
def IA (u v : Nat) (X : xX) (P M : pP) (z : zZ) (a : Nat) (h : mm_H) : Prop := ∃ b c, Rep u v X P M z h ∧ (∀ t, lv X P t → X.1 t ≠ b) ∧ (∀ t, lv X P t → X.1 t ≠ c) ∧ a ≠ b ∧ a ≠ c ∧ b ≠ c ∧ a < h.1 ∧ b < h.1 ∧ c < h.1 ∧
  h.2.2 a = some (.inl (2, [.ref b, .ref c, .int 0, .int 0])) ∧ h.2.2 b = some (.inr (3, 4, fun _ => .null)) ∧ h.2.2 c = some (.inr (1, 4, fun _ => .long 0))
theorem c_initA (R : Rep (u + 1 + 1) v X P M z h) (fr : ∀ t, lv X P t → X.1 t ≠ a) (ha : h.2.2 a = some (.inl (2, t_df 2))) (hs : a < h.1) : Wx (d + 1) 46 0 (lv_args 0 [.ref a]) [] h (fun r0 => r0.1 = .inl none ∧ IA u v X P M z a r0.2) := by
  show Wx _ _ 0 [(0, .ref a)] [] h _
  refine x_run 1 (pc' := 1) (lv' := [(0, .ref a)]) (st' := [.ref a]) rfl ?_
  refine x_obj rfl rfl ?_
  refine x_run 2 (pc' := 6) (lv' := [(0, .ref a)]) (st' := [.int (nI 4), .ref a]) rfl ?_
  refine x_anew (t := 3) rfl rfl (new_ok R (by omega)) ?_
  rw [nI_clamp (show 4 < 2 ^ 31 by omega)]
  have fb : ∀ t, lv X P t → X.1 t ≠ h.1 := fun t ht => Nat.ne_of_lt (R.1 t ht).2
  have R1 := R.push (n := 4) (.inr (3, 4, fun _ => .null)) (by omega)
  have b1 : (mm_push h 4 (.inr (3, 4, fun _ => .null))).2.2 h.1 = some (.inr (3, 4, fun _ => .null)) := mm_push_self _ _ _
  have a1 : (mm_push h 4 (.inr (3, 4, fun _ => .null))).2.2 a = some (.inl (2, t_df 2)) := (mm_push_ne _ _ _ (Nat.ne_of_lt hs)).trans ha
  have s1 : a < (mm_push h 4 (.inr (3, 4, fun _ => .null))).1 := Nat.lt_succ_of_lt hs
  have s2 : h.1 < (mm_push h 4 (.inr (3, 4, fun _ => .null))).1 := Nat.lt_succ_self _
  have nab : a ≠ h.1 := Nat.ne_of_lt hs
  generalize mm_push h 4 (.inr (3, 4, fun _ => .null)) = h1 at R1 b1 a1 s1 s2 ⊢
  generalize h.1 = b at fb b1 s2 nab ⊢
  refine x_put rfl rfl a1 rfl ?_
  have R2 := R1.offH fr (Off.upd a h1 (.inl (2, (t_df 2).set 0 (.ref b))))
  have a2 : (mm_upd h1 a (.inl (2, (t_df 2).set 0 (.ref b)))).2.2 a = some (.inl (2, (t_df 2).set 0 (.ref b))) := mm_upd_self _ _ _
  have b2 := (mm_upd_ne h1 (.inl (2, (t_df 2).set 0 (.ref b))) (Ne.symm nab)).trans b1
  have s3 : a < (mm_upd h1 a (.inl (2, (t_df 2).set 0 (.ref b)))).1 := s1
  have s4 : b < (mm_upd h1 a (.inl (2, (t_df 2).set 0 (.ref b)))).1 := s2
  generalize mm_upd h1 a (.inl (2, (t_df 2).set 0 (.ref b))) = h2 at R2 a2 b2 s3 s4 ⊢
  refine x_run 2 (pc' := 14) (lv' := [(0, .ref a)]) (st' := [.int (nI 4), .ref a]) rfl ?_
  refine x_newa (t := 1) rfl rfl (new_ok R2 (by omega)) ?_
  rw [nI_clamp (show 4 < 2 ^ 31 by omega)]
  have fc : ∀ t, lv X P t → X.1 t ≠ h2.1 := fun t ht => Nat.ne_of_lt (R2.1 t ht).2
  have R3 := R2.push (n := 4) (.inr (1, 4, fun _ => .long 0)) (by omega)
  have c3 : (mm_push h2 4 (.inr (1, 4, fun _ => .long 0))).2.2 h2.1 = some (.inr (1, 4, fun _ => .long 0)) := mm_push_self _ _ _
  have a3 := (mm_push_ne h2 4 (.inr (1, 4, fun _ => .long 0)) (Nat.ne_of_lt s3)).trans a2
  have b3 := (mm_push_ne h2 4 (.inr (1, 4, fun _ => .long 0)) (Nat.ne_of_lt s4)).trans b2
  have s5 : a < (mm_push h2 4 (.inr (1, 4, fun _ => .long 0))).1 := Nat.lt_succ_of_lt s3
  have s6 : b < (mm_push h2 4 (.inr (1, 4, fun _ => .long 0))).1 := Nat.lt_succ_of_lt s4
  have s7 : h2.1 < (mm_push h2 4 (.inr (1, 4, fun _ => .long 0))).1 := Nat.lt_succ_self _
  have nac : a ≠ h2.1 := Nat.ne_of_lt s3
  have nbc : b ≠ h2.1 := Nat.ne_of_lt s4
  show Wx _ _ 16 [(0, .ref a)] [.ref h2.1, .ref a] (mm_push h2 4 (.inr (1, 4, fun _ => .long 0))) _
  generalize mm_push h2 4 (.inr (1, 4, fun _ => .long 0)) = h3 at R3 c3 a3 b3 s5 s6 s7 ⊢
  generalize h2.1 = c at fc c3 s7 nac nbc ⊢
  refine x_put rfl rfl a3 rfl ?_
  have R4 := R3.offH fr (Off.upd a h3 (.inl (2, ((t_df 2).set 0 (.ref b)).set 1 (.ref c))))
  refine x_ret (v := none) rfl rfl rfl ⟨rfl, b, c, R4, fb, fc, nab, nac, nbc, s5, s6, s7, mm_upd_self _ _ _, (mm_upd_ne _ _ (Ne.symm nab)).trans b3, (mm_upd_ne _ _ (Ne.symm nac)).trans c3⟩
theorem t_asset (R : Rep (u + 1 + 1 + 1) v X P M z h) (h0 : X.2.1 = 0) (hn : pa P < 20) (hz : Za P (pa P)) : Wx (d + 2) 3 33 [(1, .int (nI (pa P))), (0, .ref (X.1 0))] [.int (nI (pa P)), .ref (X.1 2)] h (fun r0 => r0.1 = .inl (some (.int (nI (pa P)))) ∧ RX u v X M z (p_asset P) r0.2) := by
  obtain ⟨b1, b2⟩ := R.2.2.1
  have fr : ∀ t, lv X P t → X.1 t ≠ h.1 := fun t ht => Nat.ne_of_lt (R.1 t ht).2
  refine x_new rfl rfl (by rw [Nat.ble_eq_true_of_le (show 1 ≤ h.2.1.1 by omega), Nat.ble_eq_true_of_le (show t_N 2 ≤ h.2.1.2 by show 4 ≤ _; omega)]; rfl) ?_
  have R1 := R.push (n := t_N 2) (.inl (2, t_df 2)) (by show 4 ≤ 60; omega)
  have c1 : (mm_push h (t_N 2) (.inl (2, t_df 2))).2.2 h.1 = some (.inl (2, t_df 2)) := mm_push_self _ _ _
  have s1 : h.1 < (mm_push h (t_N 2) (.inl (2, t_df 2))).1 := Nat.lt_succ_self _
  generalize mm_push h (t_N 2) (.inl (2, t_df 2)) = h1 at R1 c1 s1 ⊢
  generalize h.1 = a at fr c1 s1 ⊢
  refine x_run 1 (pc' := 37) (lv' := [(1, .int (nI (pa P))), (0, .ref (X.1 0))]) (st' := [.ref a, .ref a, .int (nI (pa P)), .ref (X.1 2)]) rfl ?_
  refine x_wr0 (A := IA u v X P M z a) (k' := 46) (as := [.ref a]) (rest := [.ref a, .int (nI (pa P)), .ref (X.1 2)]) (x_isI (np := 0) rfl rfl rfl rfl rfl) (c_initA R1 fr c1 s1) (fun h2 o => ?_)
  obtain ⟨b, c, R2, fb, fc, nab, nac, nbc, sa, sb, sc, ga, gb, gc⟩ := o
  have n02 : X.1 0 ≠ X.1 2 := fun e => by have := R2.2.1 0 2 (Or.inl (by omega)) (Or.inl (by omega)) e; omega
  refine x_aast4 (j := pa P) rfl R2.c2 ga (mm_idx_nI (by omega) (by omega)) ?_
  refine x_run 2 (pc' := 43) (lv' := [(1, .int (nI (pa P))), (0, .ref (X.1 0))]) (st' := [.ref (X.1 0), .ref (X.1 0)]) rfl ?_
  refine x_get (v := .int (nI (pa P))) rfl rfl ((mm_upd_ne _ _ n02).trans R2.c0) rfl ?_
  refine x_run 2 (pc' := 48) (lv' := [(1, .int (nI (pa P))), (0, .ref (X.1 0))]) (st' := [.int (nI (pa P) + 1), .ref (X.1 0)]) rfl ?_
  rw [nI_1]
  refine x_put rfl rfl ((mm_upd_ne _ _ n02).trans R2.c0) rfl ?_
  refine gen_h (A := Rep u v (xB X (pa P) a b c) (p_asset P) M z) (R2.addAsset h0 hn hz fr fb fc nab nac nbc sa sb sc ga gb gc) (fun h R => ?_)
  refine x_run 1 (pc' := 52) (lv' := [(1, .int (nI (pa P))), (0, .ref (X.1 0))]) (st' := [.int (nI (pa P))]) rfl ?_
  refine x_ret (v := some (.int (nI (pa P)))) rfl rfl rfl ⟨rfl, _, R, ?_, fun t ht => xB_ne (by omega) (by omega) (by omega)⟩
  show (0, X.2.2) = X.2
  rw [← h0]
end MAKE5
end
section
section PUB4
variable {u v d : Nat} {X : xX} {P M : pP} {z : zZ} {h : mm_H} {i j : Nat}
theorem c_asset (R : Rep (u + 1 + 1 + 1) v X P M z h) (h0 : X.2.1 = 0) (hz : Za P (pa P)) : Wx (d + 7) 3 0 (lv_args 0 [.ref (X.1 0)]) [] h (pQ (RX u v X M z) (o_asset P)) := by
  have a20 := R.a20
  show Wx _ _ 0 [(0, .ref (X.1 0))] [] h _
  refine x_run 1 (pc' := 1) (lv' := [(0, .ref (X.1 0))]) (st' := [.ref (X.1 0)]) rfl ?_
  refine x_get (v := .int (nI (pa P))) rfl rfl R.c0 rfl ?_
  refine x_run 1 (pc' := 6) (lv' := [(0, .ref (X.1 0))]) (st' := [.int (20), .int (nI (pa P))]) rfl ?_
  refine x_if (c := nI (pa P) < nI 20) (t := 19) rfl rfl (fun c1 => ?_) (fun c1 => ?_)
  · replace c1 := (nI_ltI (by omega) (by omega)).mp c1
    refine x_run 1 (pc' := 20) (lv' := [(0, .ref (X.1 0))]) (st' := [.ref (X.1 0)]) rfl ?_
    by_cases g2 : ¬ pI P 4 0 = 0
    · rw [show o_asset P = (6, none, P) from by simp only [o_asset, c1, g2, not_true_eq_false, not_false_eq_true, if_true, if_false, ite_true, ite_false, reduceIte, reduceCtorEq, Classical.not_not]]
      exact x_up (k' := 18) (as := [.ref (X.1 0)]) (rest := []) (x_isV (np := 0) rfl rfl rfl R.c0 rfl) rfl (c_liveX R g2) (fun r e => pQ_x (by decide) (e.imp fun a q => ⟨q.1, RX.of (q.2.less (by omega) (Nat.le_refl _))⟩))
    refine x_rd0 (k' := 18) (as := [.ref (X.1 0)]) (rest := []) (x_isV (np := 0) rfl rfl rfl R.c0 rfl) (c_live R (Classical.not_not.mp g2)) ?_
    refine x_run 1 (pc' := 24) (lv' := [(0, .ref (X.1 0))]) (st' := [.ref (X.1 0)]) rfl ?_
    refine x_get (v := .int (nI (pa P))) rfl rfl R.c0 rfl ?_
    refine x_run 2 (pc' := 29) (lv' := [(1, .int (nI (pa P))), (0, .ref (X.1 0))]) (st' := [.ref (X.1 0)]) rfl ?_
    refine x_get (v := .ref (X.1 2)) rfl rfl R.c0 rfl ?_
    refine x_run 1 (pc' := 33) (lv' := [(1, .int (nI (pa P))), (0, .ref (X.1 0))]) (st' := [.int (nI (pa P)), .ref (X.1 2)]) rfl ?_
    rw [show o_asset P = (0, some (.int (nI (pa P))), p_asset P) from by simp only [o_asset, c1, g2, not_true_eq_false, not_false_eq_true, if_true, if_false, ite_true, ite_false, reduceIte, reduceCtorEq, Classical.not_not]]
    refine x_lv (a := [(1, .int (nI (pa P))), (0, .ref (X.1 0))]) rfl rfl ⟨rfl, rfl, trivial⟩ ?_
    exact (t_asset R h0 (by omega) hz).mono (fun r0 e => e)
  · replace c1 := mt (nI_ltI (by omega) (by omega)).mpr c1
    rw [show o_asset P = (8, none, P) from by simp only [o_asset, c1, not_true_eq_false, not_false_eq_true, if_true, if_false, ite_true, ite_false, reduceIte, reduceCtorEq, Classical.not_not]]
    exact pQ_th (A := RX u v X M z) ((x_throw (R.less (u' := u + 1) (by omega) (Nat.le_refl _)) rfl rfl rfl rfl rfl rfl rfl rfl (by omega)).mono (fun _ e => e.imp fun a q => ⟨q.1, RX.of q.2⟩)) (by decide)
end PUB4
end
